/-- x is the byte of one of k letters -/
def lt_ (k x : Nat) : Bool := decide (97 ≤ x ∧ x - 97 < k)
/-- the first n bytes are letters -/
def aw_ (k : Nat) (t : Nat → Nat) : Nat → Bool
  | 0 => true
  | n + 1 => aw_ k t n && lt_ k (t n)
/-- where they lead -/
def wy_ (M : ma_) (t : Nat → Nat) : Nat → Nat
  | 0 => M.2.2.1
  | n + 1 => M.2.2.2.1 (wy_ M t n) (t n - 97)
theorem aw_s (k : Nat) (t : Nat → Nat) (n : Nat) : aw_ k t (n + 1) = (aw_ k t n && lt_ k (t n)) := rfl
theorem wy_s (M : ma_) (t : Nat → Nat) (n : Nat) : wy_ M t (n + 1) = M.2.2.2.1 (wy_ M t n) (t n - 97) := rfl
theorem aw_m {k : Nat} {t : Nat → Nat} {n i : Nat} (h : aw_ k t n = true) (hi : i ≤ n) : aw_ k t i = true := by
  induction n with
  | zero =>
    obtain rfl : i = 0 := by omega
    exact h
  | succ n ih =>
    by_cases q : i = n + 1
    · rw [q]; exact h
    · exact ih (Bool.and_eq_true_iff.mp h).1 (by omega)
theorem aw_l {k : Nat} {t : Nat → Nat} {n i : Nat} (h : aw_ k t n = true) (hi : i < n) : 97 ≤ t i ∧ t i - 97 < k := of_decide_eq_true (Bool.and_eq_true_iff.mp (aw_m h (show i + 1 ≤ n by omega))).2
theorem wy_lt {M : ma_} (hM : wm_ M) {t : Nat → Nat} {n : Nat} (h : aw_ (M.1) t n = true) : wy_ M t n < M.2.1 := by
  induction n with
  | zero => exact hM.2.2.1
  | succ n ih => exact hM.2.2.2 _ _ (ih (aw_m h (by omega))) (aw_l h (by omega)).2
theorem ls_97 {k x : Nat} (hx : x < 256) (hk : k < 2 ^ 31) : ls_ k (nI x - nI 97) = lt_ k x := by
  unfold ls_ lt_
  refine decide_eq_decide.mpr ?_
  by_cases h : 97 ≤ x
  · rw [pk_sub h]
    constructor
    · intro q
      refine ⟨h, ?_⟩
      by_cases z : x - 97 < k
      · exact z
      · exact absurd (Or.inr (nI_le (by omega) (by omega))) q
    · rintro ⟨-, q⟩ (z | z)
      · exact nI_pos (by omega) z
      · exact nI_ge q hk z
  · refine ⟨fun q => absurd (Or.inl (pk_sneg (by omega) (by omega))) q, fun q => absurd q.1 h⟩
section TAKES
variable {w : (Nat → Int32) × Nat} {d : Nat} {D : dy_} {S : sp_} {B : Nat}
theorem x52 {n : Nat} {t : Nat → Nat} (h : tp_ D n t) (hn : n ≤ 500) {j : Nat} (hj : j < n) : k52_0 w (d + 1) (nI j) D = some (some (.int (nI (t j) - nI 97)), D) := by
  rw [e52_0]
  simp (disch := omega) only [nI_add, pk_mul, nI_clamp, nI_leI, nI_ltI, nI_eq, inb_, iz1_, iz2_, iz3_, iz4_, iz5_, reduceIte, if_pos, if_neg, op_os, op_vIs, op_vLs, op_vRs, op_vNs, dI_at, dL_at, dI_2, dL_1, Nat.reduceEqDiff, Nat.reduceAdd, Nat.reduceMul, false_and, and_false, true_and, and_true, ne_eq, not_true_eq_false, not_false_eq_true, b2_z, b2_o, b2_n, b2_01, nar_b, nar_0, nar_1, Bool.false_eq_true, Bool.true_eq_false, h.2 j hj]
/-- Tape.isWordOf -/
theorem x53 {a : Nat} {M : ma_} {n : Nat} {t : Nat → Nat} (ha : a ∈ ml_) (hc : cm_ D a M) (hk : M.1 ≤ 4) (h : tp_ D n t) (hn : n ≤ 500) (ht : ∀ j, j < n → t j < 256) : k53_0 w (d + 2) a D = some (some (.int (b2_ (aw_ (M.1) t n))), D) := by
  have key : ∀ r i, i + r = n → aw_ (M.1) t i = true → k53_2 w (d + 2) a (nI i) D = some (some (.int (b2_ (aw_ (M.1) t n))), D) := by
    intro r
    induction r with
    | zero =>
      intro i hi hw
      obtain rfl : i = n := by omega
      rw [e53_2 ha, hw]
      simp (disch := omega) only [nI_add, pk_mul, nI_clamp, nI_leI, nI_ltI, nI_eq, inb_, iz1_, iz2_, iz3_, iz4_, iz5_, reduceIte, if_pos, if_neg, op_os, op_vIs, op_vLs, op_vRs, op_vNs, dI_at, dL_at, dI_2, dL_1, Nat.reduceEqDiff, Nat.reduceAdd, Nat.reduceMul, false_and, and_false, true_and, and_true, ne_eq, not_true_eq_false, not_false_eq_true, b2_z, b2_o, b2_n, b2_01, nar_b, nar_0, nar_1, Bool.false_eq_true, Bool.true_eq_false, h.1, Nat.le_refl]
      rfl
    | succ r ih =>
      intro i hi hw
      rw [e53_2 ha]
      simp (disch := omega) only [nI_add, pk_mul, nI_clamp, nI_leI, nI_ltI, nI_eq, inb_, iz1_, iz2_, iz3_, iz4_, iz5_, reduceIte, if_pos, if_neg, op_os, op_vIs, op_vLs, op_vRs, op_vNs, dI_at, dL_at, dI_2, dL_1, Nat.reduceEqDiff, Nat.reduceAdd, Nat.reduceMul, false_and, and_false, true_and, and_true, ne_eq, not_true_eq_false, not_false_eq_true, b2_z, b2_o, b2_n, b2_01, nar_b, nar_0, nar_1, Bool.false_eq_true, Bool.true_eq_false, h.1, x52 h hn (show i < n by omega), cx8 ha hc]
      rw [ls_97 (ht i (by omega)) (by omega)]
      by_cases c : lt_ (M.1) (t i) = true
      · rw [c]
        simp (disch := omega) only [nI_add, pk_mul, nI_clamp, nI_leI, nI_ltI, nI_eq, inb_, iz1_, iz2_, iz3_, iz4_, iz5_, reduceIte, if_pos, if_neg, op_os, op_vIs, op_vLs, op_vRs, op_vNs, dI_at, dL_at, dI_2, dL_1, Nat.reduceEqDiff, Nat.reduceAdd, Nat.reduceMul, false_and, and_false, true_and, and_true, ne_eq, not_true_eq_false, not_false_eq_true, b2_z, b2_o, b2_n, b2_01, nar_b, nar_0, nar_1, Bool.false_eq_true, Bool.true_eq_false]
        exact ih (i + 1) (by omega) (by rw [aw_s, hw, c]; rfl)
      · rw [bf_ c, show aw_ (M.1) t n = false from bf_ fun z => c (by
          have := aw_m z (show i + 1 ≤ n by omega)
          exact (Bool.and_eq_true_iff.mp this).2)]
        rfl
  rw [e53_0 ha]
  exact key n 0 (by omega) rfl
/-- Tape.walk -/
theorem x54 {a : Nat} {M : ma_} {n : Nat} {t : Nat → Nat} (ha : a ∈ ml_) (hc : cm_ D a M) (hM : wm_ M) (hm : M.2.1 ≤ cap_ a) (h : tp_ D n t) (hn : n ≤ 500) (hw : aw_ (M.1) t n = true) : k54_0 w (d + 2) a D = some (some (.int (nI (wy_ M t n))), D) := by
  rw [e54_0 ha, hc.2.2.1]
  have := lq_ (fun i (x : Nat) => k54_7 w (d + 2) a (nI x) (nI i) D) (fun i => wy_ M t i) n (by
    intro i hi
    have hl := aw_l hw hi
    show k54_7 w (d + 2) a (nI (wy_ M t i)) (nI i) D = _
    rw [e54_7 ha]
    simp (disch := omega) only [nI_add, pk_mul, nI_clamp, nI_leI, nI_ltI, nI_eq, inb_, iz1_, iz2_, iz3_, iz4_, iz5_, reduceIte, if_pos, if_neg, op_os, op_vIs, op_vLs, op_vRs, op_vNs, dI_at, dL_at, dI_2, dL_1, Nat.reduceEqDiff, Nat.reduceAdd, Nat.reduceMul, false_and, and_false, true_and, and_true, ne_eq, not_true_eq_false, not_false_eq_true, b2_z, b2_o, b2_n, b2_01, nar_b, nar_0, nar_1, Bool.false_eq_true, Bool.true_eq_false, h.1, x52 h hn hi, pk_sub, cx9 ha hc hm hM.1.2 (wy_lt hM (aw_m hw (Nat.le_of_lt hi))) hl.2]
    rfl)
  refine this.trans ?_
  show k54_7 w (d + 2) a (nI (wy_ M t n)) (nI n) D = _
  rw [e54_7 ha]
  simp (disch := omega) only [nI_add, pk_mul, nI_clamp, nI_leI, nI_ltI, nI_eq, inb_, iz1_, iz2_, iz3_, iz4_, iz5_, reduceIte, if_pos, if_neg, op_os, op_vIs, op_vLs, op_vRs, op_vNs, dI_at, dL_at, dI_2, dL_1, Nat.reduceEqDiff, Nat.reduceAdd, Nat.reduceMul, false_and, and_false, true_and, and_true, ne_eq, not_true_eq_false, not_false_eq_true, b2_z, b2_o, b2_n, b2_01, nar_b, nar_0, nar_1, Bool.false_eq_true, Bool.true_eq_false, h.1, Nat.le_refl]
/-- the reference's tape alone -/
def yp_ (D : dy_) (n : Nat) (t : Nat → Nat) : Prop := D.1 351 7 = nI n ∧ ∀ j, j < n → D.1 357 j &&& nI 255 = nI (t j)
theorem x148 {n : Nat} {t : Nat → Nat} (h : yp_ D n t) (hn : n ≤ 500) {j : Nat} (hj : j < n) : k148_0 w (d + 1) (nI j) D = some (some (.int (nI (t j))), D) := by
  rw [e148_0]
  simp (disch := omega) only [nI_add, pk_mul, nI_clamp, nI_leI, nI_ltI, nI_eq, inb_, iz1_, iz2_, iz3_, iz4_, iz5_, reduceIte, if_pos, if_neg, op_os, op_vIs, op_vLs, op_vRs, op_vNs, dI_at, dL_at, dI_2, dL_1, Nat.reduceEqDiff, Nat.reduceAdd, Nat.reduceMul, false_and, and_false, true_and, and_true, ne_eq, not_true_eq_false, not_false_eq_true, b2_z, b2_o, b2_n, b2_01, nar_b, nar_0, nar_1, Bool.false_eq_true, Bool.true_eq_false, h.1, h.2 j hj]
/-- lead -/
theorem x164 {m : Nat} {M : ma_} {n : Nat} {t : Nat → Nat} (hm : m < 110) (hM : wm_ M) (hn6 : M.2.1 ≤ 60) (hr : rm_ D m M) (h : yp_ D n t) (hn : n ≤ 500) (ht : ∀ j, j < n → t j < 256) : k164_0 w (d + 2) (nI m) D = some (some (.int (if aw_ (M.1) t n then nI (wy_ M t n) else -1)), D) := by
  have hk := hM.1
  have stop : ∀ i, k164_9 w (d + 2) (nI m) (-1) (nI i) D = some (some (.int (-1)), D) := by
    intro i
    rw [e164_9]
    by_cases c : D.1 351 7 ≤ nI i
    · rw [if_pos c]
    · rw [if_neg c, if_pos rfl]
  have key : ∀ r i, i + r = n → aw_ (M.1) t i = true → k164_9 w (d + 2) (nI m) (nI (wy_ M t i)) (nI i) D = some (some (.int (if aw_ (M.1) t n then nI (wy_ M t n) else -1)), D) := by
    intro r
    induction r with
    | zero =>
      intro i hi hw
      obtain rfl : i = n := by omega
      have hlt := wy_lt hM hw
      rw [e164_9, hw]
      simp (disch := omega) only [nI_add, pk_mul, nI_clamp, nI_leI, nI_ltI, nI_eq, inb_, iz1_, iz2_, iz3_, iz4_, iz5_, reduceIte, if_pos, if_neg, op_os, op_vIs, op_vLs, op_vRs, op_vNs, dI_at, dL_at, dI_2, dL_1, Nat.reduceEqDiff, Nat.reduceAdd, Nat.reduceMul, false_and, and_false, true_and, and_true, ne_eq, not_true_eq_false, not_false_eq_true, b2_z, b2_o, b2_n, b2_01, nar_b, nar_0, nar_1, Bool.false_eq_true, Bool.true_eq_false, h.1, Nat.le_refl]
    | succ r ih =>
      intro i hi hw
      have hlt := wy_lt hM hw
      rw [e164_9]
      simp (disch := omega) only [nI_add, pk_mul, nI_clamp, nI_leI, nI_ltI, nI_eq, inb_, iz1_, iz2_, iz3_, iz4_, iz5_, reduceIte, if_pos, if_neg, op_os, op_vIs, op_vLs, op_vRs, op_vNs, dI_at, dL_at, dI_2, dL_1, Nat.reduceEqDiff, Nat.reduceAdd, Nat.reduceMul, false_and, and_false, true_and, and_true, ne_eq, not_true_eq_false, not_false_eq_true, b2_z, b2_o, b2_n, b2_01, nar_b, nar_0, nar_1, Bool.false_eq_true, Bool.true_eq_false, h.1, x148 h hn (show i < n by omega), hr.1, x111a (show M.1 < 2 ^ 31 by omega)]
      rw [ls_97 (ht i (by omega)) (by omega)]
      by_cases c : lt_ (M.1) (t i) = true
      · have c' := of_decide_eq_true c
        rw [c]
        simp (disch := omega) only [nI_add, pk_mul, nI_clamp, nI_leI, nI_ltI, nI_eq, inb_, iz1_, iz2_, iz3_, iz4_, iz5_, reduceIte, if_pos, if_neg, op_os, op_vIs, op_vLs, op_vRs, op_vNs, dI_at, dL_at, dI_2, dL_1, Nat.reduceEqDiff, Nat.reduceAdd, Nat.reduceMul, false_and, and_false, true_and, and_true, ne_eq, not_true_eq_false, not_false_eq_true, b2_z, b2_o, b2_n, b2_01, nar_b, nar_0, nar_1, Bool.false_eq_true, Bool.true_eq_false, pk_sub, x112 hm ⟨hn6, hk.2⟩ hr hlt c'.2, e164_63]
        exact ih (i + 1) (by omega) (by rw [aw_s, hw, c]; rfl)
      · rw [bf_ c, show aw_ (M.1) t n = false from bf_ fun z => c (by
          have := aw_m z (show i + 1 ≤ n by omega)
          exact (Bool.and_eq_true_iff.mp this).2)]
        simp (disch := omega) only [nI_add, pk_mul, nI_clamp, nI_leI, nI_ltI, nI_eq, inb_, iz1_, iz2_, iz3_, iz4_, iz5_, reduceIte, if_pos, if_neg, op_os, op_vIs, op_vLs, op_vRs, op_vNs, dI_at, dL_at, dI_2, dL_1, Nat.reduceEqDiff, Nat.reduceAdd, Nat.reduceMul, false_and, and_false, true_and, and_true, ne_eq, not_true_eq_false, not_false_eq_true, b2_z, b2_o, b2_n, b2_01, nar_b, nar_0, nar_1, Bool.false_eq_true, Bool.true_eq_false, e164_63, stop]
  have h3 := hM.2.2.1
  rw [e164_0]
  simp (disch := omega) only [nI_add, pk_mul, nI_clamp, nI_leI, nI_ltI, nI_eq, inb_, iz1_, iz2_, iz3_, iz4_, iz5_, reduceIte, if_pos, if_neg, op_os, op_vIs, op_vLs, op_vRs, op_vNs, dI_at, dL_at, dI_2, dL_1, Nat.reduceEqDiff, Nat.reduceAdd, Nat.reduceMul, false_and, and_false, true_and, and_true, ne_eq, not_true_eq_false, not_false_eq_true, b2_z, b2_o, b2_n, b2_01, nar_b, nar_0, nar_1, Bool.false_eq_true, Bool.true_eq_false, hr.2.2.1]
  exact key n 0 (by omega) rfl
theorem bo_takes (hS : ok_ S) (s : Int32) : bo_ S B (fun D => k94_0 w (d + 200) s D) (fun D => k165_0 w (d + 200) s D) := by
  have hl := hS.2.1.1
  by_cases c1 : ls_ 6 s = true
  · obtain ⟨i, rfl, hi⟩ := ls_t (by omega) c1
    obtain ⟨hM, hn⟩ := hS.1 i hi
    have hk4 := hM.1.2
    by_cases c2 : aw_ ((S.1 i).1) S.2.1.2 S.2.1.1 = true
    · have hlt := wy_lt hM c2
      refine bo_o (.int (b2_ ((S.1 i).2.2.2.2 (wy_ (S.1 i) S.2.1.2 S.2.1.1)))) hS (fun D h => ?_) (fun D h => ?_)
      · have hc := h.1 i hi
        rw [e94_0, x106s, c1]
        simp (disch := omega) only [nI_add, pk_mul, nI_clamp, nI_leI, nI_ltI, nI_eq, inb_, iz1_, iz2_, iz3_, iz4_, iz5_, reduceIte, if_pos, if_neg, op_os, op_vIs, op_vLs, op_vRs, op_vNs, dI_at, dL_at, dI_2, dL_1, Nat.reduceEqDiff, Nat.reduceAdd, Nat.reduceMul, false_and, and_false, true_and, and_true, ne_eq, not_true_eq_false, not_false_eq_true, b2_z, b2_o, b2_n, b2_01, nar_b, nar_0, nar_1, Bool.false_eq_true, Bool.true_eq_false, sl1_, sl2_, sl3_, sl5_, x53 (sl_ hi).2 hc hk4 h.2.1 hl hS.2.1.2, c2, x54 (sl_ hi).2 hc hM (by rw [sl4_ hi]; exact hn) h.2.1 hl c2, hc.2.2.2.2 _ hlt, x105]
      · have h' := mr_0 (v := nI 0) h
        rw [e165_0, x114s, c1]
        simp (disch := omega) only [nI_add, pk_mul, nI_clamp, nI_leI, nI_ltI, nI_eq, inb_, iz1_, iz2_, iz3_, iz4_, iz5_, reduceIte, if_pos, if_neg, op_os, op_vIs, op_vLs, op_vRs, op_vNs, dI_at, dL_at, dI_2, dL_1, Nat.reduceEqDiff, Nat.reduceAdd, Nat.reduceMul, false_and, and_false, true_and, and_true, ne_eq, not_true_eq_false, not_false_eq_true, b2_z, b2_o, b2_n, b2_01, nar_b, nar_0, nar_1, Bool.false_eq_true, Bool.true_eq_false, x164 (show i < 110 by omega) hM hn (h'.1 i hi) h'.2.1 hl hS.2.1.2, c2, e165_21, x113 (show i < 110 by omega) ⟨hn, hk4⟩ (h'.1 i hi) hlt]
        cases (S.1 i).2.2.2.2 (wy_ (S.1 i) S.2.1.2 S.2.1.1) <;> rfl
    · refine bo_o (.int (-102)) hS (fun D h => ?_) (fun D h => ?_)
      · have hc := h.1 i hi
        rw [e94_0, x106s, c1]
        simp (disch := omega) only [nI_add, pk_mul, nI_clamp, nI_leI, nI_ltI, nI_eq, inb_, iz1_, iz2_, iz3_, iz4_, iz5_, reduceIte, if_pos, if_neg, op_os, op_vIs, op_vLs, op_vRs, op_vNs, dI_at, dL_at, dI_2, dL_1, Nat.reduceEqDiff, Nat.reduceAdd, Nat.reduceMul, false_and, and_false, true_and, and_true, ne_eq, not_true_eq_false, not_false_eq_true, b2_z, b2_o, b2_n, b2_01, nar_b, nar_0, nar_1, Bool.false_eq_true, Bool.true_eq_false, sl1_, sl2_, x53 (sl_ hi).2 hc hk4 h.2.1 hl hS.2.1.2, bf_ c2]
      · have h' := mr_0 (v := nI 0) h
        rw [e165_0, x114s, c1]
        simp (disch := omega) only [nI_add, pk_mul, nI_clamp, nI_leI, nI_ltI, nI_eq, inb_, iz1_, iz2_, iz3_, iz4_, iz5_, reduceIte, if_pos, if_neg, op_os, op_vIs, op_vLs, op_vRs, op_vNs, dI_at, dL_at, dI_2, dL_1, Nat.reduceEqDiff, Nat.reduceAdd, Nat.reduceMul, false_and, and_false, true_and, and_true, ne_eq, not_true_eq_false, not_false_eq_true, b2_z, b2_o, b2_n, b2_01, nar_b, nar_0, nar_1, Bool.false_eq_true, Bool.true_eq_false, x164 (show i < 110 by omega) hM hn (h'.1 i hi) h'.2.1 hl hS.2.1.2, bf_ c2, e165_21]
  · refine bo_o (.int (-102)) hS (fun D h => ?_) (fun D h => ?_)
    · rw [e94_0, x106s, bf_ c1]
      rfl
    · rw [e165_0, x114s, bf_ c1]
      simp (disch := omega) only [nI_add, pk_mul, nI_clamp, nI_leI, nI_ltI, nI_eq, inb_, iz1_, iz2_, iz3_, iz4_, iz5_, reduceIte, if_pos, if_neg, op_os, op_vIs, op_vLs, op_vRs, op_vNs, dI_at, dL_at, dI_2, dL_1, Nat.reduceEqDiff, Nat.reduceAdd, Nat.reduceMul, false_and, and_false, true_and, and_true, ne_eq, not_true_eq_false, not_false_eq_true, b2_z, b2_o, b2_n, b2_01, nar_b, nar_0, nar_1, Bool.false_eq_true, Bool.true_eq_false, e165_21]
end TAKES
