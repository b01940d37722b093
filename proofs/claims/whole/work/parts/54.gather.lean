/-! gather -/
/-- 500, not to be unfolded -/
noncomputable def n50_ : Nat := Classical.choose (⟨500, rfl⟩ : ∃ n : Nat, n = 500)
theorem n50_e : n50_ = 500 := Classical.choose_spec (⟨500, rfl⟩ : ∃ n : Nat, n = 500)
theorem kt_t1 {α : Type} [DecidableEq α] (g : α → Nat → α) (k : Nat) (x0 : α) {N : Nat} {i l : Nat} (hN : i < N) (hin : i < (kq_ g k x0 i).length) (hl : l < k) (c : g (kf_ g k x0 N i) l ∈ li_ g (kf_ g k x0 N i) (kq_ g k x0 i) l) : li_ g (kf_ g k x0 N i) (kq_ g k x0 i) (l + 1) = li_ g (kf_ g k x0 N i) (kq_ g k x0 i) l ∧ kt_ g k x0 N i l < (li_ g (kf_ g k x0 N i) (kq_ g k x0 i) l).length ∧ kf_ g k x0 N (kt_ g k x0 N i l) = g (kf_ g k x0 N i) l := by
  have p1 := li_f g k x0 (N := N) (l := l) hN hin (by omega)
  have e : kt_ g k x0 N i l = ix_ (li_ g (kf_ g k x0 N i) (kq_ g k x0 i) l) (g (kf_ g k x0 N i) l) := pre_idx p1 c
  refine ⟨?_, by rw [e]; exact ix_lt c, ?_⟩
  · show me_ _ _ = _
    unfold me_
    rw [if_pos c]
  · have h := List.idxOf_lt_length_of_mem (p1.subset c)
    unfold kt_
    show ((kq_ g k x0 N)[(kq_ g k x0 N).idxOf (g (kf_ g k x0 N i) l)]?).getD x0 = _
    rw [List.getElem?_eq_getElem h]
    exact List.getElem_idxOf h
theorem kt_t2 {α : Type} [DecidableEq α] (g : α → Nat → α) (k : Nat) (x0 : α) {N : Nat} {i l : Nat} (hN : i < N) (hin : i < (kq_ g k x0 i).length) (hl : l < k) (c : g (kf_ g k x0 N i) l ∉ li_ g (kf_ g k x0 N i) (kq_ g k x0 i) l) : (li_ g (kf_ g k x0 N i) (kq_ g k x0 i) (l + 1)).length = (li_ g (kf_ g k x0 N i) (kq_ g k x0 i) l).length + 1 ∧ kt_ g k x0 N i l = (li_ g (kf_ g k x0 N i) (kq_ g k x0 i) l).length ∧ kf_ g k x0 N (li_ g (kf_ g k x0 N i) (kq_ g k x0 i) l).length = g (kf_ g k x0 N i) l ∧ (li_ g (kf_ g k x0 N i) (kq_ g k x0 i) l).length < (kq_ g k x0 N).length := by
  have e2 : li_ g (kf_ g k x0 N i) (kq_ g k x0 i) (l + 1) = li_ g (kf_ g k x0 N i) (kq_ g k x0 i) l ++ [g (kf_ g k x0 N i) l] := by
    show me_ _ _ = _
    unfold me_
    rw [if_neg c]
  have p2 := li_f g k x0 (N := N) (l := l + 1) hN hin (by omega)
  have et : kt_ g k x0 N i l = (li_ g (kf_ g k x0 N i) (kq_ g k x0 i) (l + 1)).idxOf (g (kf_ g k x0 N i) l) := pre_idx p2 (me_m _ _)
  have h5 := p2.length_le
  rw [e2, List.length_append] at h5
  have h5' : (li_ g (kf_ g k x0 N i) (kq_ g k x0 i) l).length + 1 ≤ _ := h5
  refine ⟨by rw [e2, List.length_append]; rfl, ?_, ?_, by omega⟩
  · rw [et, e2, List.idxOf_append, if_neg c, List.idxOf_cons_self, Nat.zero_add]
  · have h6 : (li_ g (kf_ g k x0 N i) (kq_ g k x0 i) (l + 1))[(li_ g (kf_ g k x0 N i) (kq_ g k x0 i) l).length]? = some (g (kf_ g k x0 N i) l) := by
      rw [e2, List.getElem?_append_right (Nat.le_refl _), Nat.sub_self]
      rfl
    have h7 := kf_pre g k x0 p2 (List.getElem?_eq_some_iff.mp h6).1
    rw [h6] at h7
    exact (Option.some.inj h7).symm
theorem kf_mem {α : Type} [DecidableEq α] (g : α → Nat → α) (k : Nat) (x0 : α) {N : Nat} {K : List α} (h : K <+: kq_ g k x0 N) {j : Nat} (hj : j < K.length) : kf_ g k x0 N j ∈ K := List.mem_of_getElem? (kf_pre g k x0 h hj)
/-- the machine of sets -/
noncomputable def gsm_ (k : Nat) (g : Nat × Nat → Nat → Nat × Nat) (x0 : Nat × Nat) (ai : Nat → Bool) : ma_ := (k, (kq_ g k x0 n50_).length, 0, kt_ g k x0 n50_, ai)
theorem gsm_wm {k : Nat} {g : Nat × Nat → Nat → Nat × Nat} {x0 : Nat × Nat} {ai : Nat → Bool} (hk : 1 ≤ k ∧ k ≤ 4) (hc : (kq_ g k x0 n50_).length ≤ n50_) : wm_ (gsm_ k g x0 ai) := ⟨hk, kq_1 g k x0 n50_, kq_1 g k x0 n50_, fun p l hp hl => kt_lt g k x0 hc hp hl⟩
theorem gsm_io {k : Nat} {g : Nat × Nat → Nat → Nat × Nat} {x0 : Nat × Nat} {ai : Nat → Bool} (hc : (kq_ g k x0 n50_).length ≤ n50_) : io_ (gsm_ k g x0 ai) := by
  intro v hv hz
  obtain ⟨i, l, q1, q2, q3, q4⟩ := io_og g k x0 hc hv hz
  exact ⟨i, l, q1, q2, q3, q4⟩
/-- keys of sets -/
def dm_ (x : Nat × Nat) : Prop := x.1 < 60 ∧ x.2 < 2 ^ 60
/-- the cells of gather -/
def gw_ (b : Nat) : Prop := (24 ≤ b ∧ b ≤ 26) ∨ (36 ≤ b ∧ b ≤ 40) ∨ b = 49
/-- how set i accepts -/
def aci_ (h je : Nat) (f : Nat → Nat × Nat) (i : Nat) : Bool := (!decide ((f i).2 &&& je = 0)) || (decide (h = 5) && decide (i = 0))
def gaq_ (g : Nat × Nat → Nat → Nat × Nat) (k : Nat) (x0 : Nat × Nat) (ai : Nat → Bool) (D : dy_) (n i l e : Nat) (E : dy_) : Prop := sr5_ E (kf_ g k x0 n50_) n ∧ E.1 24 2 = nI k ∧ E.1 24 4 = D.1 24 4 ∧ (∀ i' l', l' < k → bef_ i' l' i l → E.1 25 (i' * k + l') = nI (kt_ g k x0 n50_ i' l')) ∧ (∀ i', i' < e → E.1 26 i' = b2_ (ai i')) ∧ sx_ gw_ D E
section GATHER
variable {w : (Nat → Int32) × Nat} {d : Nat} {D : dy_} {A B : ma_}
theorem sr5_fr {D D' : dy_} {f : Nat → Nat × Nat} {n : Nat} (h : sr5_ D f n) (h1 : ∀ b, 36 ≤ b → b ≤ 40 → D'.1 b = D.1 b) (h2 : D'.2 37 = D.2 37) : sr5_ D' f n := by
  unfold sr5_ at *
  rw [h1 36 (by omega) (by omega), h1 38 (by omega) (by omega), h1 39 (by omega) (by omega), h1 40 (by omega) (by omega), h2]
  exact h
/-- the letters of one set -/
theorem x76l {g : Nat × Nat → Nat → Nat × Nat} {k : Nat} {x0 : Nat × Nat} {ai : Nat → Bool} {a b h je i : Nat} (ha : a ∈ ml_) (hb : b ∈ ml_) (ha24 : a ≠ 24) (hA : cm_ D a A) (wA : wm_ A) (nA : A.2.1 ≤ 60) (cA : A.2.1 ≤ cap_ a) (hk : A.1 = k) (hdom : ∀ x, x ∈ kq_ g k x0 n50_ → dm_ x) (hdg : ∀ x l, x ∈ kq_ g k x0 n50_ → l < k → dm_ (g x l)) (hh : h = 4 ∨ h = 5 ∨ h = 6) (hl4 : h = 4 → ∀ x l, (g x l).1 = A.2.2.2.1 x.1 l) (hln : h ≠ 4 → ∀ x l, (g x l).1 = 0) (hl5 : h = 4 → ∀ x, x ∈ kq_ g k x0 n50_ → x.1 < A.2.1) (hi5 : i < 500) (hin : i < (kq_ g k x0 i).length) : ∀ u l (E : dy_), l + u = k → (li_ g (kf_ g k x0 n50_ i) (kq_ g k x0 i) l).length ≤ 500 → gaq_ g k x0 ai D (li_ g (kf_ g k x0 n50_ i) (kq_ g k x0 i) l).length i l (i + 1) E → (∀ l', l' < k → E.2 49 l' = lN (g (kf_ g k x0 n50_ i) l').2) → (∃ D', k76_141 w (d + 2) (nI h) a b (lN je) (nI i) (nI l) E = k76_58 w (d + 2) (nI h) a b (lN je) (nI (i + 1)) D' ∧ (kq_ g k x0 (i + 1)).length ≤ 500 ∧ gaq_ g k x0 ai D (kq_ g k x0 (i + 1)).length (i + 1) 0 (i + 1) D') ∨ (∃ D', k76_141 w (d + 2) (nI h) a b (lN je) (nI i) (nI l) E = some (some (.int (nI 0)), D') ∧ 500 < (kq_ g k x0 n50_).length ∧ sx_ gw_ D D' ∧ D'.1 24 4 = D.1 24 4) := by
  have h50 := n50_e
  have pa := ml_p ha ha24
  have hkA := wA.1
  have hst := kq_step g k x0 (N := n50_) (show i ≤ n50_ by omega) hin
  intro u
  induction u with
  | zero =>
    intro l E hu hlen q hs
    obtain rfl : l = k := by omega
    rw [← hst] at hlen q
    refine Or.inl ⟨E, ?_, hlen, q.1, q.2.1, q.2.2.1, fun i' l' h1 h2 => q.2.2.2.1 i' l' h1 (by unfold bef_ at *; omega), q.2.2.2.2⟩
    have hA' := cm_sx hA q.2.2.2.2.2 (by unfold gw_; omega) (by unfold gw_; omega) (by unfold gw_; omega)
    rw [e76_141 ha hb]
    simp (disch := omega) only [nI_add, pk_mul, nI_clamp, nI_leI, nI_ltI, nI_eq, inb_, iz1_, iz2_, iz3_, iz4_, iz5_, reduceIte, if_pos, if_neg, op_os, op_vIs, op_vLs, op_vRs, op_vNs, dI_at, dL_at, dI_2, dL_1, Nat.reduceEqDiff, Nat.reduceAdd, Nat.reduceMul, false_and, and_false, true_and, and_true, ne_eq, not_true_eq_false, not_false_eq_true, b2_z, b2_o, b2_n, b2_01, nar_b, nar_0, nar_1, Bool.false_eq_true, Bool.true_eq_false, hA'.1, hk, Nat.le_refl]
  | succ u ih =>
    intro l E hu hlen q hs
    have hl : l < k := by omega
    have hA' := cm_sx hA q.2.2.2.2.2 (by unfold gw_; omega) (by unfold gw_; omega) (by unfold gw_; omega)
    have pK := li_f g k x0 (N := n50_) (l := l) (show i < n50_ by omega) hin (by omega)
    have hfd : ∀ j, j < (li_ g (kf_ g k x0 n50_ i) (kq_ g k x0 i) l).length → dm_ (kf_ g k x0 n50_ j) := fun j hj => hdom _ (pK.subset (kf_mem g k x0 pK hj))
    have hil : i < (li_ g (kf_ g k x0 n50_ i) (kq_ g k x0 i) l).length := Nat.lt_of_lt_of_le hin (li_p g _ _ (Nat.zero_le l)).length_le
    have hdi := hfd i hil
    have hdx := hdg _ l (pK.subset (kf_mem g k x0 pK hil)) hl
    have hinj : ∀ i' j, i' < (li_ g (kf_ g k x0 n50_ i) (kq_ g k x0 i) l).length → j < (li_ g (kf_ g k x0 n50_ i) (kq_ g k x0 i) l).length → kf_ g k x0 n50_ i' = kf_ g k x0 n50_ j → i' = j := fun i' j h1 h2 e => kf_inj g k x0 (Nat.lt_of_lt_of_le h1 pK.length_le) (Nat.lt_of_lt_of_le h2 pK.length_le) e
    have st : k76_141 w (d + 2) (nI h) a b (lN je) (nI i) (nI l) E = k76_175 w (d + 2) (nI h) a b (lN je) (nI i) (nI l) (nI (g (kf_ g k x0 n50_ i) l).1) E := by
      rw [e76_141 ha hb]
      by_cases z : h = 4
      · have h38 : E.1 38 i = nI (kf_ g k x0 n50_ i).1 := (q.1.2.1 i hil).2.1
        have hx1 : (kf_ g k x0 n50_ i).1 < A.2.1 := hl5 z _ (pK.subset (kf_mem g k x0 pK hil))
        have hd1 := hdi.1
        simp (disch := omega) only [nI_add, pk_mul, nI_clamp, nI_leI, nI_ltI, nI_eq, inb_, iz1_, iz2_, iz3_, iz4_, iz5_, reduceIte, if_pos, if_neg, op_os, op_vIs, op_vLs, op_vRs, op_vNs, dI_at, dL_at, dI_2, dL_1, Nat.reduceEqDiff, Nat.reduceAdd, Nat.reduceMul, false_and, and_false, true_and, and_true, ne_eq, not_true_eq_false, not_false_eq_true, b2_z, b2_o, b2_n, b2_01, nar_b, nar_0, nar_1, Bool.false_eq_true, Bool.true_eq_false, hA'.1, hk, z, h38, cx9 ha hA' cA hkA.2 hx1 (show l < A.1 by omega)]
        rw [hl4 z]
      · rw [hln z]
        simp (disch := omega) only [nI_add, pk_mul, nI_clamp, nI_leI, nI_ltI, nI_eq, inb_, iz1_, iz2_, iz3_, iz4_, iz5_, reduceIte, if_pos, if_neg, op_os, op_vIs, op_vLs, op_vRs, op_vNs, dI_at, dL_at, dI_2, dL_1, Nat.reduceEqDiff, Nat.reduceAdd, Nat.reduceMul, false_and, and_false, true_and, and_true, ne_eq, not_true_eq_false, not_false_eq_true, b2_z, b2_o, b2_n, b2_01, nar_b, nar_0, nar_1, Bool.false_eq_true, Bool.true_eq_false, hA'.1, hk]
    rw [st, e76_175 ha hb]
    have hlead : ∀ (E2 : dy_) (v : Nat), E2.1 24 2 = nI k → k10_0 w (d + 1) 24 (nI i) (nI l) (nI v) E2 = some (none, dI_ E2 25 (i * k + l) (nI v)) := fun E2 v h2 => m_lead ml_24 (k := k) h2 (by
      rw [cap_24]
      have := mul_in (show i < 500 by omega) hl
      have h4 : 500 * k ≤ 500 * 4 := Nat.mul_le_mul_left _ (by omega)
      omega)
    have huniq : ∀ i' l', l' < k → (i' * k + l' = i * k + l ↔ i' = i ∧ l' = l) := fun i' l' hl' => pl_inj hl hl'
    have hs' := hs l hl
    by_cases c : g (kf_ g k x0 n50_ i) l ∈ li_ g (kf_ g k x0 n50_ i) (kq_ g k x0 i) l
    · obtain ⟨k1, k2, k3⟩ := kt_t1 g k x0 (show i < n50_ by omega) hin hl c
      have hm := x48i (w := w) (d := d) q.1 hlen hfd hdx hinj k2 k3
      have := ih (l + 1) (dI_ E 25 (i * k + l) (nI (kt_ g k x0 n50_ i l))) (by omega) (by rw [k1]; exact hlen) (by
        rw [k1]
        refine ⟨sr5_fr q.1 (fun b h1 h2 => dI_ne (by omega)) rfl, by simp (disch := omega) only [nI_add, pk_mul, nI_clamp, nI_leI, nI_ltI, nI_eq, inb_, iz1_, iz2_, iz3_, iz4_, iz5_, reduceIte, if_pos, if_neg, op_os, op_vIs, op_vLs, op_vRs, op_vNs, dI_at, dL_at, dI_2, dL_1, Nat.reduceEqDiff, Nat.reduceAdd, Nat.reduceMul, false_and, and_false, true_and, and_true, ne_eq, not_true_eq_false, not_false_eq_true, b2_z, b2_o, b2_n, b2_01, nar_b, nar_0, nar_1, Bool.false_eq_true, Bool.true_eq_false]; exact q.2.1, by simp (disch := omega) only [nI_add, pk_mul, nI_clamp, nI_leI, nI_ltI, nI_eq, inb_, iz1_, iz2_, iz3_, iz4_, iz5_, reduceIte, if_pos, if_neg, op_os, op_vIs, op_vLs, op_vRs, op_vNs, dI_at, dL_at, dI_2, dL_1, Nat.reduceEqDiff, Nat.reduceAdd, Nat.reduceMul, false_and, and_false, true_and, and_true, ne_eq, not_true_eq_false, not_false_eq_true, b2_z, b2_o, b2_n, b2_01, nar_b, nar_0, nar_1, Bool.false_eq_true, Bool.true_eq_false]; exact q.2.2.1, fun i' l' h1 h2 => ?_, fun i' hi' => by simp (disch := omega) only [nI_add, pk_mul, nI_clamp, nI_leI, nI_ltI, nI_eq, inb_, iz1_, iz2_, iz3_, iz4_, iz5_, reduceIte, if_pos, if_neg, op_os, op_vIs, op_vLs, op_vRs, op_vNs, dI_at, dL_at, dI_2, dL_1, Nat.reduceEqDiff, Nat.reduceAdd, Nat.reduceMul, false_and, and_false, true_and, and_true, ne_eq, not_true_eq_false, not_false_eq_true, b2_z, b2_o, b2_n, b2_01, nar_b, nar_0, nar_1, Bool.false_eq_true, Bool.true_eq_false]; exact q.2.2.2.2.1 i' hi', sx_1 q.2.2.2.2.2 (by unfold gw_; omega)⟩
        simp (disch := omega) only [nI_add, pk_mul, nI_clamp, nI_leI, nI_ltI, nI_eq, inb_, iz1_, iz2_, iz3_, iz4_, iz5_, reduceIte, op_os, op_vIs, op_vLs, op_vRs, op_vNs, dI_at, dL_at, dI_2, dL_1, Nat.reduceEqDiff, Nat.reduceAdd, Nat.reduceMul, false_and, and_false, true_and, and_true, ne_eq, not_true_eq_false, not_false_eq_true, b2_z, b2_o, b2_n, b2_01, nar_b, nar_0, nar_1, Bool.false_eq_true, Bool.true_eq_false, huniq i' l' h1]
        by_cases z : i' = i ∧ l' = l
        · rw [if_pos z, z.1, z.2]
        · rw [if_neg z]
          exact q.2.2.2.1 i' l' h1 (by unfold bef_ at *; omega)) (fun l' hl' => hs l' hl')
      simp (disch := omega) only [nI_add, pk_mul, nI_clamp, nI_leI, nI_ltI, nI_eq, inb_, iz1_, iz2_, iz3_, iz4_, iz5_, reduceIte, if_pos, if_neg, op_os, op_vIs, op_vLs, op_vRs, op_vNs, dI_at, dL_at, dI_2, dL_1, Nat.reduceEqDiff, Nat.reduceAdd, Nat.reduceMul, false_and, and_false, true_and, and_true, ne_eq, not_true_eq_false, not_false_eq_true, b2_z, b2_o, b2_n, b2_01, nar_b, nar_0, nar_1, Bool.false_eq_true, Bool.true_eq_false, hs', hm, hlead _ _ q.2.1]
      exact this
    · obtain ⟨k1, k2, k3, k4⟩ := kt_t2 g k x0 (show i < n50_ by omega) hin hl c
      have hne : ∀ j, j < (li_ g (kf_ g k x0 n50_ i) (kq_ g k x0 i) l).length → kf_ g k x0 n50_ j ≠ g (kf_ g k x0 n50_ i) l := fun j hj e => c (by rw [← e]; exact kf_mem g k x0 pK hj)
      have hm := x48n (w := w) (d := d) q.1 hlen hfd hdx hne
      by_cases z : (li_ g (kf_ g k x0 n50_ i) (kq_ g k x0 i) l).length = 500
      · refine Or.inr ⟨E, ?_, by omega, q.2.2.2.2.2, q.2.2.1⟩
        have hm2 := x48f (w := w) (d := d) (x := g (kf_ g k x0 n50_ i) l) q.1 z
        simp (disch := omega) only [nI_add, pk_mul, nI_clamp, nI_leI, nI_ltI, nI_eq, inb_, iz1_, iz2_, iz3_, iz4_, iz5_, reduceIte, if_pos, if_neg, op_os, op_vIs, op_vLs, op_vRs, op_vNs, dI_at, dL_at, dI_2, dL_1, Nat.reduceEqDiff, Nat.reduceAdd, Nat.reduceMul, false_and, and_false, true_and, and_true, ne_eq, not_true_eq_false, not_false_eq_true, b2_z, b2_o, b2_n, b2_01, nar_b, nar_0, nar_1, Bool.false_eq_true, Bool.true_eq_false, hs', hm, hm2]
      · obtain ⟨E2, m1, m2, m3⟩ := x48a (w := w) (d := d) q.1 (by omega) k3
        have hE2 : ∀ b, ¬ (36 ≤ b ∧ b ≤ 40) → E2.1 b = E.1 b := fun b hb => (m3 b hb).1
        have := ih (l + 1) (dI_ E2 25 (i * k + l) (nI (kt_ g k x0 n50_ i l))) (by omega) (by omega) (by
          rw [k1]
          refine ⟨sr5_fr m2 (fun b h1 h2 => dI_ne (by omega)) rfl, by simp (disch := omega) only [nI_add, pk_mul, nI_clamp, nI_leI, nI_ltI, nI_eq, inb_, iz1_, iz2_, iz3_, iz4_, iz5_, reduceIte, if_pos, if_neg, op_os, op_vIs, op_vLs, op_vRs, op_vNs, dI_at, dL_at, dI_2, dL_1, Nat.reduceEqDiff, Nat.reduceAdd, Nat.reduceMul, false_and, and_false, true_and, and_true, ne_eq, not_true_eq_false, not_false_eq_true, b2_z, b2_o, b2_n, b2_01, nar_b, nar_0, nar_1, Bool.false_eq_true, Bool.true_eq_false]; rw [hE2 24 (by omega)]; exact q.2.1, by simp (disch := omega) only [nI_add, pk_mul, nI_clamp, nI_leI, nI_ltI, nI_eq, inb_, iz1_, iz2_, iz3_, iz4_, iz5_, reduceIte, if_pos, if_neg, op_os, op_vIs, op_vLs, op_vRs, op_vNs, dI_at, dL_at, dI_2, dL_1, Nat.reduceEqDiff, Nat.reduceAdd, Nat.reduceMul, false_and, and_false, true_and, and_true, ne_eq, not_true_eq_false, not_false_eq_true, b2_z, b2_o, b2_n, b2_01, nar_b, nar_0, nar_1, Bool.false_eq_true, Bool.true_eq_false]; rw [hE2 24 (by omega)]; exact q.2.2.1, fun i' l' h1 h2 => ?_, fun i' hi' => by simp (disch := omega) only [nI_add, pk_mul, nI_clamp, nI_leI, nI_ltI, nI_eq, inb_, iz1_, iz2_, iz3_, iz4_, iz5_, reduceIte, if_pos, if_neg, op_os, op_vIs, op_vLs, op_vRs, op_vNs, dI_at, dL_at, dI_2, dL_1, Nat.reduceEqDiff, Nat.reduceAdd, Nat.reduceMul, false_and, and_false, true_and, and_true, ne_eq, not_true_eq_false, not_false_eq_true, b2_z, b2_o, b2_n, b2_01, nar_b, nar_0, nar_1, Bool.false_eq_true, Bool.true_eq_false]; rw [hE2 26 (by omega)]; exact q.2.2.2.2.1 i' hi', sx_1 (sx_t q.2.2.2.2.2 (sx_w m3 (fun b hb => Or.inr (Or.inl hb)))) (by unfold gw_; omega)⟩
          simp (disch := omega) only [nI_add, pk_mul, nI_clamp, nI_leI, nI_ltI, nI_eq, inb_, iz1_, iz2_, iz3_, iz4_, iz5_, reduceIte, op_os, op_vIs, op_vLs, op_vRs, op_vNs, dI_at, dL_at, dI_2, dL_1, Nat.reduceEqDiff, Nat.reduceAdd, Nat.reduceMul, false_and, and_false, true_and, and_true, ne_eq, not_true_eq_false, not_false_eq_true, b2_z, b2_o, b2_n, b2_01, nar_b, nar_0, nar_1, Bool.false_eq_true, Bool.true_eq_false, huniq i' l' h1]
          by_cases z : i' = i ∧ l' = l
          · rw [if_pos z, z.1, z.2]
          · rw [if_neg z, hE2 25 (by omega)]
            exact q.2.2.2.1 i' l' h1 (by unfold bef_ at *; omega)) (fun l' hl' => by
            show E2.2 49 l' = _
            rw [(m3 49 (by omega)).2]
            exact hs l' hl')
        have h24 : E2.1 24 2 = nI k := by rw [hE2 24 (by omega)]; exact q.2.1
        simp (disch := omega) only [nI_add, pk_mul, nI_clamp, nI_leI, nI_ltI, nI_eq, inb_, iz1_, iz2_, iz3_, iz4_, iz5_, reduceIte, if_pos, if_neg, op_os, op_vIs, op_vLs, op_vRs, op_vNs, dI_at, dL_at, dI_2, dL_1, Nat.reduceEqDiff, Nat.reduceAdd, Nat.reduceMul, false_and, and_false, true_and, and_true, ne_eq, not_true_eq_false, not_false_eq_true, b2_z, b2_o, b2_n, b2_01, nar_b, nar_0, nar_1, Bool.false_eq_true, Bool.true_eq_false, hs', hm, m1]
        rw [← k2, hlead _ _ h24]
        simp (disch := omega) only [nI_add, pk_mul, nI_clamp, nI_leI, nI_ltI, nI_eq, inb_, iz1_, iz2_, iz3_, iz4_, iz5_, reduceIte, if_pos, if_neg, op_os, op_vIs, op_vLs, op_vRs, op_vNs, dI_at, dL_at, dI_2, dL_1, Nat.reduceEqDiff, Nat.reduceAdd, Nat.reduceMul, false_and, and_false, true_and, and_true, ne_eq, not_true_eq_false, not_false_eq_true, b2_z, b2_o, b2_n, b2_01, nar_b, nar_0, nar_1, Bool.false_eq_true, Bool.true_eq_false]
        exact this
/-- the loop of sets -/
theorem x76r {g : Nat × Nat → Nat → Nat × Nat} {k : Nat} {x0 : Nat × Nat} {a b h je : Nat} (ha : a ∈ ml_) (hb : b ∈ ml_) (ha24 : a ≠ 24) (hA : cm_ D a A) (wA : wm_ A) (nA : A.2.1 ≤ 60) (cA : A.2.1 ≤ cap_ a) (hk : A.1 = k) (hdom : ∀ x, x ∈ kq_ g k x0 n50_ → dm_ x) (hdg : ∀ x l, x ∈ kq_ g k x0 n50_ → l < k → dm_ (g x l)) (hh : h = 4 ∨ h = 5 ∨ h = 6) (hl4 : h = 4 → ∀ x l, (g x l).1 = A.2.2.2.1 x.1 l) (hln : h ≠ 4 → ∀ x l, (g x l).1 = 0) (hl5 : h = 4 → ∀ x, x ∈ kq_ g k x0 n50_ → x.1 < A.2.1) (hlook : ∀ E i n, sx_ gw_ D E → sr5_ E (kf_ g k x0 n50_) n → i < n → n ≤ 500 → i < (kq_ g k x0 n50_).length → (∀ l, l < 4 → E.2 49 l = lN 0) → ∃ E', k78_0 w (d + 1) (nI h) (nI i) a b E = some (none, E') ∧ (∀ l, l < k → E'.2 49 l = lN (g (kf_ g k x0 n50_ i) l).2) ∧ ol_ 49 E E') : ∀ u i (E : dy_), i + u = 501 → (kq_ g k x0 i).length ≤ 500 → gaq_ g k x0 (aci_ h je (kf_ g k x0 n50_)) D (kq_ g k x0 i).length i 0 i E → (∃ D', k76_58 w (d + 2) (nI h) a b (lN je) (nI i) E = some (some (.int (nI 1)), D') ∧ (kq_ g k x0 n50_).length ≤ 500 ∧ D'.1 24 3 = nI (kq_ g k x0 n50_).length ∧ D'.1 24 2 = nI k ∧ D'.1 24 4 = D.1 24 4 ∧ (∀ i l, i < (kq_ g k x0 n50_).length → l < k → D'.1 25 (i * k + l) = nI (kt_ g k x0 n50_ i l)) ∧ (∀ i, i < (kq_ g k x0 n50_).length → D'.1 26 i = b2_ (aci_ h je (kf_ g k x0 n50_) i)) ∧ sx_ gw_ D D') ∨ (∃ D', k76_58 w (d + 2) (nI h) a b (lN je) (nI i) E = some (some (.int (nI 0)), D') ∧ 500 < (kq_ g k x0 n50_).length ∧ sx_ gw_ D D' ∧ D'.1 24 4 = D.1 24 4) := by
  have h50 := n50_e
  have pa := ml_p ha ha24
  have hkA := wA.1
  intro u
  induction u with
  | zero =>
    intro i E hu hlen q
    have hle := (kq_p g k x0 (show n50_ ≤ i by omega)).length_le
    have hst := kq_st g k x0 (i := n50_) (j := i) (by omega) (by omega)
    rw [hst] at hlen q
    refine Or.inl ⟨dI_ E 24 3 (nI (kq_ g k x0 n50_).length), ?_, hlen, by simp (disch := omega) only [nI_add, pk_mul, nI_clamp, nI_leI, nI_ltI, nI_eq, inb_, iz1_, iz2_, iz3_, iz4_, iz5_, reduceIte, if_pos, if_neg, op_os, op_vIs, op_vLs, op_vRs, op_vNs, dI_at, dL_at, dI_2, dL_1, Nat.reduceEqDiff, Nat.reduceAdd, Nat.reduceMul, false_and, and_false, true_and, and_true, ne_eq, not_true_eq_false, not_false_eq_true, b2_z, b2_o, b2_n, b2_01, nar_b, nar_0, nar_1, Bool.false_eq_true, Bool.true_eq_false], by simp (disch := omega) only [nI_add, pk_mul, nI_clamp, nI_leI, nI_ltI, nI_eq, inb_, iz1_, iz2_, iz3_, iz4_, iz5_, reduceIte, if_pos, if_neg, op_os, op_vIs, op_vLs, op_vRs, op_vNs, dI_at, dL_at, dI_2, dL_1, Nat.reduceEqDiff, Nat.reduceAdd, Nat.reduceMul, false_and, and_false, true_and, and_true, ne_eq, not_true_eq_false, not_false_eq_true, b2_z, b2_o, b2_n, b2_01, nar_b, nar_0, nar_1, Bool.false_eq_true, Bool.true_eq_false]; exact q.2.1, by simp (disch := omega) only [nI_add, pk_mul, nI_clamp, nI_leI, nI_ltI, nI_eq, inb_, iz1_, iz2_, iz3_, iz4_, iz5_, reduceIte, if_pos, if_neg, op_os, op_vIs, op_vLs, op_vRs, op_vNs, dI_at, dL_at, dI_2, dL_1, Nat.reduceEqDiff, Nat.reduceAdd, Nat.reduceMul, false_and, and_false, true_and, and_true, ne_eq, not_true_eq_false, not_false_eq_true, b2_z, b2_o, b2_n, b2_01, nar_b, nar_0, nar_1, Bool.false_eq_true, Bool.true_eq_false]; exact q.2.2.1, fun i' l' h1 h2 => by simp (disch := omega) only [nI_add, pk_mul, nI_clamp, nI_leI, nI_ltI, nI_eq, inb_, iz1_, iz2_, iz3_, iz4_, iz5_, reduceIte, if_pos, if_neg, op_os, op_vIs, op_vLs, op_vRs, op_vNs, dI_at, dL_at, dI_2, dL_1, Nat.reduceEqDiff, Nat.reduceAdd, Nat.reduceMul, false_and, and_false, true_and, and_true, ne_eq, not_true_eq_false, not_false_eq_true, b2_z, b2_o, b2_n, b2_01, nar_b, nar_0, nar_1, Bool.false_eq_true, Bool.true_eq_false]; exact q.2.2.2.1 i' l' h2 (Or.inl (by omega)), fun i' hi' => by simp (disch := omega) only [nI_add, pk_mul, nI_clamp, nI_leI, nI_ltI, nI_eq, inb_, iz1_, iz2_, iz3_, iz4_, iz5_, reduceIte, if_pos, if_neg, op_os, op_vIs, op_vLs, op_vRs, op_vNs, dI_at, dL_at, dI_2, dL_1, Nat.reduceEqDiff, Nat.reduceAdd, Nat.reduceMul, false_and, and_false, true_and, and_true, ne_eq, not_true_eq_false, not_false_eq_true, b2_z, b2_o, b2_n, b2_01, nar_b, nar_0, nar_1, Bool.false_eq_true, Bool.true_eq_false]; exact q.2.2.2.2.1 i' (by omega), sx_1 q.2.2.2.2.2 (by unfold gw_; omega)⟩
    rw [e76_58 ha hb]
    simp (disch := omega) only [nI_add, pk_mul, nI_clamp, nI_leI, nI_ltI, nI_eq, inb_, iz1_, iz2_, iz3_, iz4_, iz5_, reduceIte, if_pos, if_neg, op_os, op_vIs, op_vLs, op_vRs, op_vNs, dI_at, dL_at, dI_2, dL_1, Nat.reduceEqDiff, Nat.reduceAdd, Nat.reduceMul, false_and, and_false, true_and, and_true, ne_eq, not_true_eq_false, not_false_eq_true, b2_z, b2_o, b2_n, b2_01, nar_b, nar_0, nar_1, Bool.false_eq_true, Bool.true_eq_false, q.1.1, e76_228]
  | succ u ih =>
    intro i E hu hlen q
    by_cases z : (kq_ g k x0 i).length ≤ i
    · have hst := kq_st g k x0 (i := i) (j := n50_) (by omega) z
      rw [← hst] at hlen q z
      refine Or.inl ⟨dI_ E 24 3 (nI (kq_ g k x0 n50_).length), ?_, hlen, by simp (disch := omega) only [nI_add, pk_mul, nI_clamp, nI_leI, nI_ltI, nI_eq, inb_, iz1_, iz2_, iz3_, iz4_, iz5_, reduceIte, if_pos, if_neg, op_os, op_vIs, op_vLs, op_vRs, op_vNs, dI_at, dL_at, dI_2, dL_1, Nat.reduceEqDiff, Nat.reduceAdd, Nat.reduceMul, false_and, and_false, true_and, and_true, ne_eq, not_true_eq_false, not_false_eq_true, b2_z, b2_o, b2_n, b2_01, nar_b, nar_0, nar_1, Bool.false_eq_true, Bool.true_eq_false], by simp (disch := omega) only [nI_add, pk_mul, nI_clamp, nI_leI, nI_ltI, nI_eq, inb_, iz1_, iz2_, iz3_, iz4_, iz5_, reduceIte, if_pos, if_neg, op_os, op_vIs, op_vLs, op_vRs, op_vNs, dI_at, dL_at, dI_2, dL_1, Nat.reduceEqDiff, Nat.reduceAdd, Nat.reduceMul, false_and, and_false, true_and, and_true, ne_eq, not_true_eq_false, not_false_eq_true, b2_z, b2_o, b2_n, b2_01, nar_b, nar_0, nar_1, Bool.false_eq_true, Bool.true_eq_false]; exact q.2.1, by simp (disch := omega) only [nI_add, pk_mul, nI_clamp, nI_leI, nI_ltI, nI_eq, inb_, iz1_, iz2_, iz3_, iz4_, iz5_, reduceIte, if_pos, if_neg, op_os, op_vIs, op_vLs, op_vRs, op_vNs, dI_at, dL_at, dI_2, dL_1, Nat.reduceEqDiff, Nat.reduceAdd, Nat.reduceMul, false_and, and_false, true_and, and_true, ne_eq, not_true_eq_false, not_false_eq_true, b2_z, b2_o, b2_n, b2_01, nar_b, nar_0, nar_1, Bool.false_eq_true, Bool.true_eq_false]; exact q.2.2.1, fun i' l' h1 h2 => by simp (disch := omega) only [nI_add, pk_mul, nI_clamp, nI_leI, nI_ltI, nI_eq, inb_, iz1_, iz2_, iz3_, iz4_, iz5_, reduceIte, if_pos, if_neg, op_os, op_vIs, op_vLs, op_vRs, op_vNs, dI_at, dL_at, dI_2, dL_1, Nat.reduceEqDiff, Nat.reduceAdd, Nat.reduceMul, false_and, and_false, true_and, and_true, ne_eq, not_true_eq_false, not_false_eq_true, b2_z, b2_o, b2_n, b2_01, nar_b, nar_0, nar_1, Bool.false_eq_true, Bool.true_eq_false]; exact q.2.2.2.1 i' l' h2 (Or.inl (by omega)), fun i' hi' => by simp (disch := omega) only [nI_add, pk_mul, nI_clamp, nI_leI, nI_ltI, nI_eq, inb_, iz1_, iz2_, iz3_, iz4_, iz5_, reduceIte, if_pos, if_neg, op_os, op_vIs, op_vLs, op_vRs, op_vNs, dI_at, dL_at, dI_2, dL_1, Nat.reduceEqDiff, Nat.reduceAdd, Nat.reduceMul, false_and, and_false, true_and, and_true, ne_eq, not_true_eq_false, not_false_eq_true, b2_z, b2_o, b2_n, b2_01, nar_b, nar_0, nar_1, Bool.false_eq_true, Bool.true_eq_false]; exact q.2.2.2.2.1 i' (by omega), sx_1 q.2.2.2.2.2 (by unfold gw_; omega)⟩
      rw [e76_58 ha hb]
      simp (disch := omega) only [nI_add, pk_mul, nI_clamp, nI_leI, nI_ltI, nI_eq, inb_, iz1_, iz2_, iz3_, iz4_, iz5_, reduceIte, if_pos, if_neg, op_os, op_vIs, op_vLs, op_vRs, op_vNs, dI_at, dL_at, dI_2, dL_1, Nat.reduceEqDiff, Nat.reduceAdd, Nat.reduceMul, false_and, and_false, true_and, and_true, ne_eq, not_true_eq_false, not_false_eq_true, b2_z, b2_o, b2_n, b2_01, nar_b, nar_0, nar_1, Bool.false_eq_true, Bool.true_eq_false, q.1.1, e76_228]
    · have hin : i < (kq_ g k x0 i).length := by omega
      have hi5 : i < 500 := by omega
      have pK := kq_p g k x0 (show i ≤ n50_ by omega)
      have hdi : dm_ (kf_ g k x0 n50_ i) := hdom _ (pK.subset (kf_mem g k x0 pK hin))
      have h37 := (q.1.2.1 i hin).1
      generalize hE1 : dI_ E 26 i (b2_ (aci_ h je (kf_ g k x0 n50_) i)) = E1
      have s1 : sx_ gw_ D E1 := by
        rw [← hE1]
        exact sx_1 q.2.2.2.2.2 (by unfold gw_; omega)
      obtain ⟨E2, f1, f2, f3⟩ := x185 (w := w) (d := d) (D := E1) (v := lN 0)
      have s2 : sx_ gw_ D E2 := sx_t s1 (fun b hb => ⟨by rw [f3.1], f3.2 b (fun y => hb (by unfold gw_; omega))⟩)
      have hsr1 : sr5_ E1 (kf_ g k x0 n50_) (kq_ g k x0 i).length := by
        rw [← hE1]
        exact sr5_fr q.1 (fun b h1 h2 => dI_ne (by omega)) rfl
      have hsr2 : sr5_ E2 (kf_ g k x0 n50_) (kq_ g k x0 i).length := sr5_fr hsr1 (fun b _ _ => by rw [f3.1]) (f3.2 37 (by omega))
      obtain ⟨E3, l1, l2, l3⟩ := hlook E2 i _ s2 hsr2 hin hlen (Nat.lt_of_lt_of_le hin pK.length_le) f2
      have s3 : sx_ gw_ D E3 := sx_t s2 (fun b hb => ⟨by rw [l3.1], l3.2 b (fun y => hb (by unfold gw_; omega))⟩)
      have e31 : E3.1 = E1.1 := l3.1.trans f3.1
      have q3 : gaq_ g k x0 (aci_ h je (kf_ g k x0 n50_)) D (kq_ g k x0 i).length i 0 (i + 1) E3 := by
        refine ⟨sr5_fr hsr2 (fun b _ _ => by rw [l3.1]) (l3.2 37 (by omega)), ?_, ?_, fun i' l' h1 h2 => ?_, fun i' hi' => ?_, s3⟩
        · rw [e31, ← hE1]; simp (disch := omega) only [nI_add, pk_mul, nI_clamp, nI_leI, nI_ltI, nI_eq, inb_, iz1_, iz2_, iz3_, iz4_, iz5_, reduceIte, if_pos, if_neg, op_os, op_vIs, op_vLs, op_vRs, op_vNs, dI_at, dL_at, dI_2, dL_1, Nat.reduceEqDiff, Nat.reduceAdd, Nat.reduceMul, false_and, and_false, true_and, and_true, ne_eq, not_true_eq_false, not_false_eq_true, b2_z, b2_o, b2_n, b2_01, nar_b, nar_0, nar_1, Bool.false_eq_true, Bool.true_eq_false]; exact q.2.1
        · rw [e31, ← hE1]; simp (disch := omega) only [nI_add, pk_mul, nI_clamp, nI_leI, nI_ltI, nI_eq, inb_, iz1_, iz2_, iz3_, iz4_, iz5_, reduceIte, if_pos, if_neg, op_os, op_vIs, op_vLs, op_vRs, op_vNs, dI_at, dL_at, dI_2, dL_1, Nat.reduceEqDiff, Nat.reduceAdd, Nat.reduceMul, false_and, and_false, true_and, and_true, ne_eq, not_true_eq_false, not_false_eq_true, b2_z, b2_o, b2_n, b2_01, nar_b, nar_0, nar_1, Bool.false_eq_true, Bool.true_eq_false]; exact q.2.2.1
        · rw [e31, ← hE1]; simp (disch := omega) only [nI_add, pk_mul, nI_clamp, nI_leI, nI_ltI, nI_eq, inb_, iz1_, iz2_, iz3_, iz4_, iz5_, reduceIte, if_pos, if_neg, op_os, op_vIs, op_vLs, op_vRs, op_vNs, dI_at, dL_at, dI_2, dL_1, Nat.reduceEqDiff, Nat.reduceAdd, Nat.reduceMul, false_and, and_false, true_and, and_true, ne_eq, not_true_eq_false, not_false_eq_true, b2_z, b2_o, b2_n, b2_01, nar_b, nar_0, nar_1, Bool.false_eq_true, Bool.true_eq_false]; exact q.2.2.2.1 i' l' h1 h2
        · rw [e31, ← hE1]
          simp (disch := omega) only [nI_add, pk_mul, nI_clamp, nI_leI, nI_ltI, nI_eq, inb_, iz1_, iz2_, iz3_, iz4_, iz5_, reduceIte, op_os, op_vIs, op_vLs, op_vRs, op_vNs, dI_at, dL_at, dI_2, dL_1, Nat.reduceEqDiff, Nat.reduceAdd, Nat.reduceMul, false_and, and_false, true_and, and_true, ne_eq, not_true_eq_false, not_false_eq_true, b2_z, b2_o, b2_n, b2_01, nar_b, nar_0, nar_1, Bool.false_eq_true, Bool.true_eq_false]
          by_cases y : i' = i
          · rw [if_pos y, y]
          · rw [if_neg y]
            exact q.2.2.2.2.1 i' (by omega)
      have st : k76_58 w (d + 2) (nI h) a b (lN je) (nI i) E = k76_141 w (d + 2) (nI h) a b (lN je) (nI i) (nI 0) E3 := by
        have key : k76_58 w (d + 2) (nI h) a b (lN je) (nI i) E = k76_120 w (d + 2) (nI h) a b (lN je) (nI i) 26 (nI i) (b2_ (aci_ h je (kf_ g k x0 n50_) i)) E := by
          have hd2 := hdi.2
          rw [e76_58 ha hb]
          simp (disch := omega) only [nI_add, pk_mul, nI_clamp, nI_leI, nI_ltI, nI_eq, inb_, iz1_, iz2_, iz3_, iz4_, iz5_, reduceIte, op_os, op_vIs, op_vLs, op_vRs, op_vNs, dI_at, dL_at, dI_2, dL_1, Nat.reduceEqDiff, Nat.reduceAdd, Nat.reduceMul, false_and, and_false, true_and, and_true, ne_eq, not_true_eq_false, not_false_eq_true, b2_z, b2_o, b2_n, b2_01, nar_b, nar_0, nar_1, Bool.false_eq_true, Bool.true_eq_false, q.1.1, h37, tb3]
          rw [if_neg z, if_neg (by omega)]
          unfold aci_
          by_cases y : (kf_ g k x0 n50_ i).2 &&& je = 0
          · rw [if_neg (fun v => v y), decide_eq_true y]
            by_cases y5 : h = 5
            · rw [if_neg (fun v => v y5), decide_eq_true y5]
              by_cases y0 : i = 0
              · rw [if_neg (fun v => v y0), decide_eq_true y0, e76_115 ha hb]
                rfl
              · rw [if_pos y0, decide_eq_false y0, e76_119 ha hb]
                rfl
            · rw [if_pos y5, decide_eq_false y5, e76_119 ha hb]
              rfl
          · rw [if_pos y, decide_eq_false y, e76_115 ha hb]
            rfl
        rw [key, e76_120 ha hb]
        simp (disch := omega) only [nI_add, pk_mul, nI_clamp, nI_leI, nI_ltI, nI_eq, inb_, iz1_, iz2_, iz3_, iz4_, iz5_, reduceIte, if_pos, if_neg, op_os, op_vIs, op_vLs, op_vRs, op_vNs, dI_at, dL_at, dI_2, dL_1, Nat.reduceEqDiff, Nat.reduceAdd, Nat.reduceMul, false_and, and_false, true_and, and_true, ne_eq, not_true_eq_false, not_false_eq_true, b2_z, b2_o, b2_n, b2_01, nar_b, nar_0, nar_1, Bool.false_eq_true, Bool.true_eq_false, sf_26]
        rw [hE1, f1]
        simp (disch := omega) only [nI_add, pk_mul, nI_clamp, nI_leI, nI_ltI, nI_eq, inb_, iz1_, iz2_, iz3_, iz4_, iz5_, reduceIte, if_pos, if_neg, op_os, op_vIs, op_vLs, op_vRs, op_vNs, dI_at, dL_at, dI_2, dL_1, Nat.reduceEqDiff, Nat.reduceAdd, Nat.reduceMul, false_and, and_false, true_and, and_true, ne_eq, not_true_eq_false, not_false_eq_true, b2_z, b2_o, b2_n, b2_01, nar_b, nar_0, nar_1, Bool.false_eq_true, Bool.true_eq_false, l1]
      rcases x76l (w := w) (d := d) (je := je) ha hb ha24 hA wA nA cA hk hdom hdg hh hl4 hln hl5 hi5 hin k 0 E3 (by omega) hlen q3 l2 with ⟨D', a1, a2, a3⟩ | ⟨D', a1, a2, a3⟩
      · rcases ih (i + 1) D' (by omega) a2 a3 with ⟨D2, b1, b2⟩ | ⟨D2, b1, b2⟩
        · exact Or.inl ⟨D2, (st.trans a1).trans b1, b2⟩
        · exact Or.inr ⟨D2, (st.trans a1).trans b1, b2⟩
      · exact Or.inr ⟨D', st.trans a1, a2, a3⟩
end GATHER
