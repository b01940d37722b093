/-! the way to a state of a machine in order -/
def fst1_ (M : ma_) (v i l : Nat) : Prop := i < v ∧ l < M.1 ∧ M.2.2.2.1 i l = v ∧ ∀ i' l', l' < M.1 → bef_ i' l' i l → M.2.2.2.1 i' l' < v
theorem fst_u {M : ma_} {v i l i' l' : Nat} (h : fst1_ M v i l) (g : fst1_ M v i' l') : i = i' ∧ l = l' := by
  obtain ⟨h1, h2, h3, h4⟩ := h
  obtain ⟨g1, g2, g3, g4⟩ := g
  rcases Nat.lt_trichotomy i i' with z | z | z
  · have := g4 i l h2 (Or.inl z)
    omega
  · subst z
    rcases Nat.lt_trichotomy l l' with y | y | y
    · have := g4 i l h2 (Or.inr ⟨rfl, y⟩)
      omega
    · exact ⟨rfl, y⟩
    · have := h4 i l' g2 (Or.inr ⟨rfl, y⟩)
      omega
  · have := h4 i' l' g2 (Or.inl z)
    omega
noncomputable def par_ (M : ma_) (v : Nat) : Nat × Nat := @dite _ (∃ z : Nat × Nat, fst1_ M v z.1 z.2) (Classical.propDecidable _) (fun h => Classical.choose h) (fun _ => (0, 0))
theorem par_e {M : ma_} {v i l : Nat} (h : fst1_ M v i l) : par_ M v = (i, l) := by
  have ex : ∃ z : Nat × Nat, fst1_ M v z.1 z.2 := ⟨(i, l), h⟩
  unfold par_
  rw [dif_pos ex]
  have := fst_u (Classical.choose_spec ex) h
  exact Prod.ext this.1 this.2
theorem par_1 {M : ma_} (hio : io_ M) {v : Nat} (hv : v < M.2.1) (hz : v ≠ 0) : fst1_ M v (par_ M v).1 (par_ M v).2 := by
  obtain ⟨i, l, h⟩ := hio v hv hz
  have h' : fst1_ M v i l := h
  rw [par_e h']
  exact h'
/-- the one before -/
noncomputable def bfr_ (M : ma_) (v : Nat) : Nat := min (par_ M v).1 (v - 1)
noncomputable def dep_ (M : ma_) (v : Nat) : Nat := if h : v = 0 then 0 else dep_ M (bfr_ M v) + 1
termination_by v
decreasing_by
  unfold bfr_
  omega
theorem dep_0 (M : ma_) : dep_ M 0 = 0 := by
  rw [dep_]
  rfl
theorem dep_s (M : ma_) {v : Nat} (h : v ≠ 0) : dep_ M v = dep_ M (bfr_ M v) + 1 := by
  rw [dep_, dif_neg h]
theorem bfr_e {M : ma_} (hio : io_ M) {v : Nat} (hv : v < M.2.1) (hz : v ≠ 0) : bfr_ M v = (par_ M v).1 := by
  have := (par_1 hio hv hz).1
  unfold bfr_
  omega
/-- j steps back -/
noncomputable def pit_ (M : ma_) : Nat → Nat → Nat
  | 0, v => v
  | j + 1, v => pit_ M j (bfr_ M v)
theorem pit_lt {M : ma_} (hio : io_ M) {v : Nat} (hv : v < M.2.1) : ∀ j, j ≤ dep_ M v → pit_ M j v < M.2.1 ∧ dep_ M (pit_ M j v) = dep_ M v - j := by
  intro j
  induction j generalizing v with
  | zero => exact fun _ => ⟨hv, (Nat.sub_zero _).symm⟩
  | succ j ih =>
    intro hj
    have hz : v ≠ 0 := fun z => by
      rw [z, dep_0] at hj
      omega
    have h1 := (par_1 hio hv hz).1
    have h2 := bfr_e hio hv hz
    have h3 := dep_s M hz
    obtain ⟨a1, a2⟩ := ih (v := bfr_ M v) (by omega) (by omega)
    exact ⟨a1, by show dep_ M (pit_ M j (bfr_ M v)) = _; omega⟩
theorem pit_s {M : ma_} : ∀ j v, pit_ M (j + 1) v = bfr_ M (pit_ M j v) := by
  intro j
  induction j with
  | zero => exact fun _ => rfl
  | succ j ih => exact fun v => ih (bfr_ M v)
theorem dep_z {M : ma_} {v : Nat} : dep_ M v = 0 ↔ v = 0 := by
  constructor
  · intro h
    rcases Nat.eq_zero_or_pos v with z | z
    · exact z
    · rw [dep_s M (by omega)] at h
      omega
  · rintro rfl
    exact dep_0 M
theorem dep_mono {M : ma_} (hio : io_ M) : ∀ v' v, v ≤ v' → v' < M.2.1 → dep_ M v ≤ dep_ M v' := by
  intro v'
  induction v' using Nat.strongRecOn with
  | _ v' ih =>
    intro v hv hv'
    rcases Nat.eq_zero_or_pos v with z | z
    · rw [z, dep_0]; omega
    · have hz : v ≠ 0 := by omega
      have hz' : v' ≠ 0 := by omega
      rcases Nat.eq_or_lt_of_le hv with y | y
      · rw [y]; exact Nat.le_refl _
      · obtain ⟨a1, a2, a3, a4⟩ := par_1 hio (show v < M.2.1 by omega) hz
        obtain ⟨b1, b2, b3, b4⟩ := par_1 hio hv' hz'
        have hle : (par_ M v).1 ≤ (par_ M v').1 := by
          rcases Nat.lt_or_ge (par_ M v').1 (par_ M v).1 with x | x
          · have := a4 _ _ b2 (Or.inl x)
            omega
          · exact x
        rw [dep_s M hz, dep_s M hz', bfr_e hio (by omega) hz, bfr_e hio hv' hz']
        have := ih _ b1 _ hle (by omega)
        omega
theorem dep_nx {M : ma_} (hM : wm_ M) (hio : io_ M) {i l : Nat} (hi : i < M.2.1) (hl : l < M.1) : dep_ M (M.2.2.2.1 i l) ≤ dep_ M i + 1 := by
  have hv := hM.2.2.2 i l hi hl
  rcases Nat.eq_zero_or_pos (M.2.2.2.1 i l) with z | z
  · rw [z, dep_0]; omega
  · have hz : M.2.2.2.1 i l ≠ 0 := by omega
    obtain ⟨a1, a2, a3, a4⟩ := par_1 hio hv hz
    rw [dep_s M hz, bfr_e hio hv hz]
    have : (par_ M (M.2.2.2.1 i l)).1 ≤ i := by
      rcases Nat.lt_or_ge i (par_ M (M.2.2.2.1 i l)).1 with x | x
      · have := a4 i l hl (Or.inl x)
        omega
      · exact x
    have := dep_mono hio i _ this hi
    omega
/-- two machines side by side -/
def um_ (A B : ma_) : ma_ := (km_ A B, A.2.1 + B.2.1, 0, fun x l => if x < A.2.1 then A.2.2.2.1 x l else A.2.1 + B.2.2.2.1 (x - A.2.1) l, fun x => if x < A.2.1 then A.2.2.2.2 x else B.2.2.2.2 (x - A.2.1))
theorem um_wm {A B : ma_} (wA : wm_ A) (wB : wm_ B) : wm_ (um_ A B) := by
  have h1 := wA.1
  have h2 := wB.1
  have h3 := wA.2.1
  have hk := km_le A B
  refine ⟨⟨by show 1 ≤ min _ _; omega, by show min _ _ ≤ 4; omega⟩, by show 1 ≤ A.2.1 + B.2.1; omega, by show 0 < A.2.1 + B.2.1; omega, fun p l hp hl => ?_⟩
  have hp' : p < A.2.1 + B.2.1 := hp
  have hl' : l < km_ A B := hl
  show (if p < A.2.1 then A.2.2.2.1 p l else A.2.1 + B.2.2.2.1 (p - A.2.1) l) < A.2.1 + B.2.1
  by_cases z : p < A.2.1
  · rw [if_pos z]
    have := wA.2.2.2 p l z (by omega)
    omega
  · rw [if_neg z]
    have := wB.2.2.2 (p - A.2.1) l (by omega) (by omega)
    omega
/-- the way to the first pair that is told apart is short -/
theorem dep_le {A B : ma_} (wA : wm_ A) (wB : wm_ B) (nA : A.2.1 ≤ 60) (nB : B.2.1 ≤ 60) {x0 : Nat × Nat} (h0 : dp_ A B x0) {v : Nat} (hv : v < (bm_ A B 3 x0).2.1) (ha : (bm_ A B 3 x0).2.2.2.2 v = true) (hf : ∀ u, u < v → (bm_ A B 3 x0).2.2.2.2 u = false) : dep_ (bm_ A B 3 x0) v ≤ 120 := by
  have hM := bm_wm wA wB nA nB 3 h0
  have hio := bm_io wA wB nA nB 3 h0
  have h36 := n36_e
  have hlen := gp_len wA wB (km_le A B) nA nB h0 n36_
  have hkm := km_le A B
  have hU := um_wm wA wB
  generalize hG : bm_ A B 3 x0 = G at *
  have hkG : G.1 = km_ A B := by rw [← hG]; rfl
  have hnG : G.2.1 = (kq_ (gp_ A B) (km_ A B) x0 n36_).length := by rw [← hG]; rfl
  have hdp : ∀ i, i < G.2.1 → dp_ A B (pf_ A B x0 i) := fun i hi => kf_dom (gp_ A B) (km_ A B) x0 h0 (dp_g wA wB hkm) (by rw [← hnG]; exact hi)
  have hpf : ∀ i l, i < G.2.1 → l < km_ A B → pf_ A B x0 (G.2.2.2.1 i l) = gp_ A B (pf_ A B x0 i) l := fun i l hi hl => by
    rw [← hG]
    exact kf_kt (gp_ A B) (km_ A B) x0 (by omega) (by rw [← hnG]; exact hi) hl
  have hac : ∀ i, G.2.2.2.2 i = (A.2.2.2.2 (pf_ A B x0 i).1 != B.2.2.2.2 (pf_ A B x0 i).2) := fun i => by rw [← hG]; rfl
  have unx : ∀ x l, dp_ A B x → l < km_ A B → (um_ A B).2.2.2.1 x.1 l = (gp_ A B x l).1 ∧ (um_ A B).2.2.2.1 (A.2.1 + x.2) l = A.2.1 + (gp_ A B x l).2 := fun x l hx hl => by
    constructor
    · show (if x.1 < A.2.1 then A.2.2.2.1 x.1 l else _) = _
      rw [if_pos hx.1]
      rfl
    · show (if A.2.1 + x.2 < A.2.1 then _ else A.2.1 + B.2.2.2.1 (A.2.1 + x.2 - A.2.1) l) = _
      rw [if_neg (by omega), Nat.add_sub_cancel_left]
      rfl
  have uac : ∀ x, dp_ A B x → (mrr_ (um_ A B) 0 x.1 (A.2.1 + x.2) ↔ A.2.2.2.2 x.1 = B.2.2.2.2 x.2) := fun x hx => by
    show ((if x.1 < A.2.1 then A.2.2.2.2 x.1 else _) = (if A.2.1 + x.2 < A.2.1 then _ else B.2.2.2.2 (A.2.1 + x.2 - A.2.1))) ↔ _
    rw [if_pos hx.1, if_neg (by omega), Nat.add_sub_cancel_left]
  -- no short word tells apart
  have C : ∀ r i, i < G.2.1 → (∀ u, u < G.2.1 → dep_ G u ≤ dep_ G i + r → G.2.2.2.2 u = false) → mrr_ (um_ A B) r (pf_ A B x0 i).1 (A.2.1 + (pf_ A B x0 i).2) := by
    intro r
    induction r with
    | zero =>
      intro i hi h
      rw [uac _ (hdp i hi)]
      have := h i hi (by omega)
      rw [hac i] at this
      exact Classical.byContradiction fun z => by
        rw [bne_iff_ne.mpr z] at this
        cases this
    | succ r ih =>
      intro i hi h
      refine ⟨ih i hi fun u hu hd => h u hu (by omega), fun l hl => ?_⟩
      have hl' : l < km_ A B := hl
      obtain ⟨e1, e2⟩ := unx _ l (hdp i hi) hl'
      rw [e1, e2, ← hpf i l hi hl']
      have hl2 : l < G.1 := by rw [hkG]; exact hl'
      refine ih _ (hM.2.2.2 i l hi hl2) fun u hu hd => h u hu ?_
      have := dep_nx hM hio hi hl2
      omega
  -- and the way to v does
  have W : ∀ u, u < G.2.1 → ∀ r, mrr_ (um_ A B) (r + dep_ G u) x0.1 (A.2.1 + x0.2) → mrr_ (um_ A B) r (pf_ A B x0 u).1 (A.2.1 + (pf_ A B x0 u).2) := by
    intro u
    induction u using Nat.strongRecOn with
    | _ u ih =>
      intro hu r h
      rcases Nat.eq_zero_or_pos u with z | z
      · subst z
        rw [show pf_ A B x0 0 = x0 from kf_0 (gp_ A B) (km_ A B) x0]
        rw [dep_0] at h
        exact h
      · have hz : u ≠ 0 := by omega
        obtain ⟨a1, a2, a3, a4⟩ := par_1 hio hu hz
        have a2' : (par_ G u).2 < km_ A B := by rw [← hkG]; exact a2
        have hd := dep_s G hz
        rw [bfr_e hio hu hz] at hd
        have := ih _ a1 (by omega) (r + 1) (by rw [show r + 1 + dep_ G (par_ G u).1 = r + dep_ G u by omega]; exact h)
        have h2 := this.2 (par_ G u).2 a2'
        obtain ⟨e1, e2⟩ := unx _ _ (hdp (par_ G u).1 (by omega)) a2'
        rw [e1, e2, ← hpf _ _ (by omega) a2', a3] at h2
        exact h2
  have not1 : ¬ mrr_ (um_ A B) (dep_ G v) x0.1 (A.2.1 + x0.2) := fun z => by
    have := W v hv 0 (by rw [Nat.zero_add]; exact z)
    rw [uac _ (hdp v hv)] at this
    rw [hac v, this] at ha
    simp at ha
  have yes1 : ∀ r, r < dep_ G v → mrr_ (um_ A B) r x0.1 (A.2.1 + x0.2) := fun r hr => by
    have := C r 0 hM.2.1 fun u hu hd => by
      rw [dep_0] at hd
      rcases Nat.lt_or_ge u v with y | y
      · exact hf u y
      · have := dep_mono hio u v y hu
        omega
    rw [show pf_ A B x0 0 = x0 from kf_0 (gp_ A B) (km_ A B) x0] at this
    exact this
  have grow : ∀ s, s < dep_ G v → mct_ (um_ A B) s < mct_ (um_ A B) (s + 1) := fun s hs => by
    refine Nat.lt_of_not_le fun z => not1 ?_
    exact mo_st hU (ct_st z) _ _ _ (by show x0.1 < A.2.1 + B.2.1; have := h0.1; omega) (by show A.2.1 + x0.2 < A.2.1 + B.2.1; have := h0.2; omega) (yes1 s hs)
  have h1 := ct_grow (um_ A B) (dep_ G v) grow
  have h2 : mct_ (um_ A B) (dep_ G v) ≤ A.2.1 + B.2.1 := cn_m (nc_1 (mo_qv (um_ A B) (dep_ G v)) ((um_ A B).2.1))
  omega
