/-! states that words tell apart -/
def mrr_ (M : ma_) : Nat → Nat → Nat → Prop
  | 0, p, q => M.2.2.2.2 p = M.2.2.2.2 q
  | r + 1, p, q => mrr_ M r p q ∧ ∀ l, l < M.1 → mrr_ M r (M.2.2.2.1 p l) (M.2.2.2.1 q l)
theorem mo_qv (M : ma_) : ∀ r, qv1_ (mrr_ M r)
  | 0 => ⟨fun _ => rfl, fun _ _ h => h.symm, fun _ _ _ h g => h.trans g⟩
  | r + 1 => by
    obtain ⟨h1, h2, h3⟩ := mo_qv M r
    exact ⟨fun p => ⟨h1 p, fun l _ => h1 _⟩, fun p q h => ⟨h2 _ _ h.1, fun l hl => h2 _ _ (h.2 l hl)⟩, fun p q s h g => ⟨h3 _ _ _ h.1 g.1, fun l hl => h3 _ _ _ (h.2 l hl) (g.2 l hl)⟩⟩
theorem mrr_le {M : ma_} {r s p q : Nat} (hr : r ≤ s) (h : mrr_ M s p q) : mrr_ M r p q := by
  induction s with
  | zero => rw [show r = 0 by omega]; exact h
  | succ s ih =>
    by_cases z : r = s + 1
    · rw [z]; exact h
    · exact ih (by omega) h.1
/-- by no word -/
def mnd_ (M : ma_) (p q : Nat) : Prop := ∀ r, mrr_ M r p q
theorem mi_qv (M : ma_) : qv1_ (mnd_ M) := ⟨fun p r => (mo_qv M r).1 p, fun p q h r => (mo_qv M r).2.1 p q (h r), fun p q s h g r => (mo_qv M r).2.2 p q s (h r) (g r)⟩
theorem mi_nx {M : ma_} {p q l : Nat} (h : mnd_ M p q) (hl : l < M.1) : mnd_ M (M.2.2.2.1 p l) (M.2.2.2.1 q l) := fun r => (h (r + 1)).2 l hl
theorem mi_ac {M : ma_} {p q : Nat} (h : mnd_ M p q) : M.2.2.2.2 p = M.2.2.2.2 q := h 0
/-- once a round divides nothing, none does -/
theorem mo_st {M : ma_} (hM : wm_ M) {r : Nat} (h : ∀ p q, p < M.2.1 → q < M.2.1 → mrr_ M r p q → mrr_ M (r + 1) p q) : ∀ s p q, p < M.2.1 → q < M.2.1 → mrr_ M r p q → mrr_ M s p q := by
  have up : ∀ t p q, p < M.2.1 → q < M.2.1 → mrr_ M (r + t) p q → mrr_ M (r + t + 1) p q := by
    intro t
    induction t with
    | zero => exact h
    | succ t ih =>
      intro p q hp hq g
      exact ⟨g, fun l hl => ih _ _ (hM.2.2.2 p l hp hl) (hM.2.2.2 q l hq hl) (g.2 l hl)⟩
  have all : ∀ t p q, p < M.2.1 → q < M.2.1 → mrr_ M r p q → mrr_ M (r + t) p q := by
    intro t
    induction t with
    | zero => exact fun _ _ _ _ g => g
    | succ t ih => exact fun p q hp hq g => up t p q hp hq (ih p q hp hq g)
  intro s p q hp hq g
  exact mrr_le (show s ≤ r + s by omega) (all s p q hp hq g)
theorem mo_mi {M : ma_} (hM : wm_ M) {r : Nat} (h : ∀ p q, p < M.2.1 → q < M.2.1 → mrr_ M r p q → mrr_ M (r + 1) p q) {p q : Nat} (hp : p < M.2.1) (hq : q < M.2.1) : mrr_ M r p q ↔ mnd_ M p q := ⟨fun g s => mo_st hM h s p q hp hq g, fun g => g r⟩
/-- the numbers of a sort of classes -/
noncomputable def nc_ (E : Nat → Nat → Prop) (n : Nat) : (Nat → Nat) × Nat := @dite _ (qv1_ E) (Classical.propDecidable _) (fun h => (Classical.choose (cn_ex h n), Classical.choose (Classical.choose_spec (cn_ex h n)))) (fun _ => (fun _ => 0, 0))
theorem nc_1 {E : Nat → Nat → Prop} (h : qv1_ E) (n : Nat) : cnu_ n E (nc_ E n).1 (nc_ E n).2 := by
  unfold nc_
  rw [dif_pos h]
  exact Classical.choose_spec (Classical.choose_spec (cn_ex h n))
/-- how many classes after r rounds -/
noncomputable def mct_ (M : ma_) (r : Nat) : Nat := (nc_ (mrr_ M r) (M.2.1)).2
theorem ct_le {M : ma_} {r s : Nat} (h : r ≤ s) : mct_ M r ≤ mct_ M s := cn_le (Nat.le_refl _) (nc_1 (mo_qv M r) _) (nc_1 (mo_qv M s) _) fun _ _ _ _ => mrr_le h
theorem ct_st {M : ma_} {r : Nat} (h : mct_ M (r + 1) ≤ mct_ M r) (p q : Nat) (hp : p < M.2.1) (hq : q < M.2.1) (g : mrr_ M r p q) : mrr_ M (r + 1) p q := by
  by_cases z : mrr_ M (r + 1) p q
  · exact z
  · have : mct_ M r < mct_ M (r + 1) := cn_lt (nc_1 (mo_qv M r) _) (nc_1 (mo_qv M (r + 1)) _) (fun _ _ _ _ x => x.1) hp hq g z
    omega
theorem cn_m {n : Nat} {E : Nat → Nat → Prop} {c : Nat → Nat} {m : Nat} (h : cnu_ n E c m) : m ≤ n := by
  have := nodup_enc (enc := lrp_ n c) (n := n) (List.range m) List.nodup_range (by
    intro a b ha hb e
    obtain ⟨p, p1, p2⟩ := h.2.2.2 a (List.mem_range.mp ha)
    obtain ⟨q, q1, q2⟩ := h.2.2.2 b (List.mem_range.mp hb)
    have h1 := (re_1 p1 p2).2.1
    have h2 := (re_1 q1 q2).2.1
    rw [e] at h1
    omega) (by
    intro a ha
    obtain ⟨p, p1, p2⟩ := h.2.2.2 a (List.mem_range.mp ha)
    have := (re_1 p1 p2).1
    omega)
  rwa [List.length_range] at this
/-- the numbers of the classes in the end -/
noncomputable def nfs_ (M : ma_) : Nat → Nat := (nc_ (mnd_ M) (M.2.1)).1
noncomputable def nn_ (M : ma_) : Nat := (nc_ (mnd_ M) (M.2.1)).2
theorem nf_1 (M : ma_) : cnu_ (M.2.1) (mnd_ M) (nfs_ M) (nn_ M) := nc_1 (mi_qv M) (M.2.1)
theorem ct_nn (M : ma_) (r : Nat) : mct_ M r ≤ nn_ M := cn_le (Nat.le_refl _) (nc_1 (mo_qv M r) _) (nf_1 M) fun p q _ _ h => h r
/-- the first round, from 1 on, that divides nothing -/
noncomputable def rd_ct (M : ma_) : Nat := frs_ (fun r => @decide (mct_ M (r + 1) ≤ mct_ M r) (Classical.propDecidable _)) (M.2.1 + 1) + 1
theorem ct_grow (M : ma_) (r : Nat) (h : ∀ s, s < r → mct_ M s < mct_ M (s + 1)) : r ≤ mct_ M r := by
  induction r with
  | zero => exact Nat.zero_le _
  | succ r ih =>
    have h1 := ih fun s hs => h s (by omega)
    have h2 := h r (by omega)
    omega
theorem rd_1 (M : ma_) : mct_ M (rd_ct M) ≤ mct_ M (rd_ct M - 1) ∧ (∀ s, s + 1 < rd_ct M → mct_ M s < mct_ M (s + 1)) ∧ 1 ≤ rd_ct M ∧ rd_ct M ≤ nn_ M + 1 := by
  have ex : ∃ p, p < M.2.1 + 1 ∧ mct_ M (p + 1) ≤ mct_ M p := by
    refine Classical.byContradiction fun z => ?_
    have h1 := ct_grow M (M.2.1 + 1) fun s hs => Nat.lt_of_not_le fun y => z ⟨s, hs, y⟩
    have h2 := cn_m (nc_1 (mo_qv M (M.2.1 + 1)) (M.2.1))
    unfold mct_ at h1
    omega
  obtain ⟨p, hp, e⟩ := ex
  obtain ⟨h1, h2, h3⟩ := fr_1 (P := fun r => @decide (mct_ M (r + 1) ≤ mct_ M r) (Classical.propDecidable _)) hp (@decide_eq_true _ (Classical.propDecidable _) e)
  have e0 : rd_ct M = frs_ (fun r => @decide (mct_ M (r + 1) ≤ mct_ M r) (Classical.propDecidable _)) (M.2.1 + 1) + 1 := rfl
  have h4 : ∀ s, s + 1 < rd_ct M → mct_ M s < mct_ M (s + 1) := fun s hs => by
    have := h3 s (by omega)
    have := @of_decide_eq_false _ (Classical.propDecidable _) this
    omega
  refine ⟨?_, h4, by omega, ?_⟩
  · rw [e0, Nat.add_sub_cancel]
    exact @of_decide_eq_true _ (Classical.propDecidable _) h2
  · have := ct_grow M (rd_ct M - 1) fun s hs => h4 s (by omega)
    have := ct_nn M (rd_ct M - 1)
    omega
/-- after a round that divided nothing the classes are those of the end -/
theorem ct_fin {M : ma_} (hM : wm_ M) {r : Nat} (h : mct_ M (r + 1) ≤ mct_ M r) {s : Nat} (hs : r ≤ s) {c : Nat → Nat} {m : Nat} (g : cnu_ (M.2.1) (mrr_ M s) c m) : cnu_ (M.2.1) (mnd_ M) c m := cn_c g (fun p q hp hq => by
  have h1 := mo_mi hM (ct_st h) hp hq
  exact ⟨fun z => h1.mp (mrr_le hs z), fun z => z s⟩) fun _ _ => rfl
/-! the smallest machine -/
noncomputable def rp_ (M : ma_) (e : Nat) : Nat := lrp_ (M.2.1) (nfs_ M) e
noncomputable def qm_ (M : ma_) : ma_ := (M.1, nn_ M, 0, fun e l => nfs_ M (M.2.2.2.1 (rp_ M e) l), fun e => M.2.2.2.2 (rp_ M e))
theorem rp_1 {M : ma_} {e : Nat} (h : e < nn_ M) : rp_ M e < M.2.1 ∧ nfs_ M (rp_ M e) = e ∧ ∀ q, q < rp_ M e → nfs_ M q ≠ e := by
  obtain ⟨p, hp, ep⟩ := (nf_1 M).2.2.2 e h
  obtain ⟨h1, h2, h3⟩ := re_1 hp ep
  exact ⟨Nat.lt_of_le_of_lt h1 hp, h2, h3⟩
theorem rp_le {M : ma_} {p : Nat} (hp : p < M.2.1) : rp_ M (nfs_ M p) ≤ p := (re_1 hp rfl).1
theorem rp_mono {M : ma_} {e e' : Nat} (h : e < e') (h' : e' < nn_ M) : rp_ M e < rp_ M e' := re_mono (nf_1 M) h h'
theorem nn_pos {M : ma_} (hM : wm_ M) : 0 < nn_ M := Nat.lt_of_le_of_lt (Nat.zero_le _) ((nf_1 M).2.2.1 0 hM.2.1)
theorem nf_0 {M : ma_} (hM : wm_ M) : nfs_ M 0 = 0 := by
  rcases Nat.eq_zero_or_pos (nfs_ M 0) with q | q
  · exact q
  · obtain ⟨x, hx, _⟩ := (nf_1 M).2.1 0 hM.2.1 0 q
    omega
theorem qm_wm {M : ma_} (hM : wm_ M) : wm_ (qm_ M) := ⟨hM.1, nn_pos hM, nn_pos hM, fun e l he hl => (nf_1 M).2.2.1 _ (hM.2.2.2 _ l (rp_1 he).1 hl)⟩
/-- what a class does, each of its members does -/
theorem qm_nx {M : ma_} (hM : wm_ M) {p l : Nat} (hp : p < M.2.1) (hl : l < M.1) : nfs_ M (M.2.2.2.1 (rp_ M (nfs_ M p)) l) = nfs_ M (M.2.2.2.1 p l) := by
  have h1 := (nf_1 M).2.2.1 p hp
  have h2 := rp_1 h1
  have h3 := ((nf_1 M).1 _ p h2.1 hp).mp h2.2.1
  exact ((nf_1 M).1 _ _ (hM.2.2.2 _ l h2.1 hl) (hM.2.2.2 p l hp hl)).mpr (mi_nx h3 hl)
theorem qm_ac {M : ma_} {p : Nat} (hp : p < M.2.1) : M.2.2.2.2 (rp_ M (nfs_ M p)) = M.2.2.2.2 p := by
  have h1 := (nf_1 M).2.2.1 p hp
  have h2 := rp_1 h1
  exact mi_ac (((nf_1 M).1 _ p h2.1 hp).mp h2.2.1)
/-- the smallest machine of a machine in order is in order -/
theorem qm_io {M : ma_} (hM : wm_ M) (hi : io_ M) : io_ (qm_ M) := by
  intro v hv hz
  have hv' : v < nn_ M := hv
  obtain ⟨v1, v2, v3⟩ := rp_1 hv'
  have hs : rp_ M v ≠ 0 := by
    intro z
    rw [z, nf_0 hM] at v2
    omega
  obtain ⟨i, l, q1, q2, q3, q4⟩ := hi _ v1 hs
  have hi' : i < M.2.1 := by omega
  have e1 := (nf_1 M).2.2.1 i hi'
  have e2 := rp_1 e1
  have e3 := rp_le hi'
  have e4 : nfs_ M (M.2.2.2.1 (rp_ M (nfs_ M i)) l) = v := by rw [qm_nx hM hi' q2, q3, v2]
  have e5 : rp_ M (nfs_ M i) = i := by
    rcases Nat.lt_or_ge (rp_ M (nfs_ M i)) i with z | z
    · have h1 := q4 _ l q2 (Or.inl z)
      have h2 := v3 _ h1
      exact absurd e4 h2
    · omega
  have e6 : nfs_ M i < v := by
    rcases Nat.lt_or_ge (nfs_ M i) v with z | z
    · exact z
    · rcases Nat.eq_or_lt_of_le z with y | y
      · rw [← y] at e5
        omega
      · have := rp_mono y e1
        omega
  refine ⟨nfs_ M i, l, e6, q2, e4, fun i' l' hl' hb => ?_⟩
  have hi2 : i' < nn_ M := by
    unfold bef_ at hb
    omega
  have g1 := rp_1 hi2
  have g2 : bef_ (rp_ M i') l' i l := by
    rcases hb with z | ⟨z, y⟩
    · have := rp_mono z e1
      rw [e5] at this
      exact Or.inl this
    · rw [z, e5]
      exact Or.inr ⟨rfl, y⟩
  have g3 := q4 _ l' hl' g2
  have g4 : M.2.2.2.1 (rp_ M i') l' < M.2.1 := hM.2.2.2 _ l' g1.1 hl'
  show nfs_ M (M.2.2.2.1 (rp_ M i') l') < v
  rcases Nat.lt_or_ge (nfs_ M (M.2.2.2.1 (rp_ M i') l')) v with z | z
  · exact z
  · have h1 := rp_le g4
    rcases Nat.eq_or_lt_of_le z with y | y
    · rw [← y] at h1
      omega
    · have := rp_mono y ((nf_1 M).2.2.1 _ g4)
      omega
