/-! bySplitters, from its start -/
section SPS
variable {w : (Nat → Int32) × Nat} {d : Nat} {D : dy_} {M : ma_}
theorem x133 (hM : wm_ M) (hb : bg_ D M) (hN : M.2.1 ≤ 60) : ∃ D', k133_0 w (d + 3) D = some (some (.int (nI (M.1 * (nn_ M - 1)))), D') ∧ fx_ fsp_ fsq_ D D' := by
  have hk := hM.1
  have h1 := hM.2.1
  let P : Nat → Nat := fun p => if M.2.2.2.2 p = M.2.2.2.2 0 then 0 else 1
  have P01 : ∀ p, P p = 0 ∨ P p = 1 := fun p => by
    show (if M.2.2.2.2 p = M.2.2.2.2 0 then 0 else 1) = 0 ∨ (if M.2.2.2.2 p = M.2.2.2.2 0 then 0 else 1) = 1
    by_cases z : M.2.2.2.2 p = M.2.2.2.2 0
    · rw [if_pos z]; exact Or.inl rfl
    · rw [if_neg z]; exact Or.inr rfl
  have P0 : P 0 = 0 := if_pos rfl
  have Pac : ∀ p q, P p = P q ↔ M.2.2.2.2 p = M.2.2.2.2 q := fun p q => by
    show ((if M.2.2.2.2 p = M.2.2.2.2 0 then 0 else 1) = if M.2.2.2.2 q = M.2.2.2.2 0 then 0 else 1) ↔ M.2.2.2.2 p = M.2.2.2.2 q
    cases M.2.2.2.2 p <;> cases M.2.2.2.2 q <;> cases M.2.2.2.2 0 <;> decide
  generalize hE0 : dI_ (dI_ (dI_ (dI_ (dI_ D 351 22 (nI 1)) 369 0 (nI 0)) 369 1 (nI 0)) 351 24 (nI 0)) 351 25 (nI 0) = E0
  have f0 : fx_ fsp_ fsq_ D E0 := by
    rw [← hE0]
    refine fx_1 (fx_1 (fx_1 (fx_1 (fx_1 (fx_r _ _ D) ?_) ?_) ?_) ?_) ?_ <;> (unfold fsp_ fsq_; omega)
  have hbF : ∀ F, fx_ fsp_ fsq_ D F → bg_ F M := fun F hF => bg_fx hb hF (by unfold fsq_; omega) (by unfold fsq_; omega) (by unfold fsp_; omega) (by unfold fsp_; omega)
  obtain ⟨E1, a1, a2, ⟨a3, a3'⟩, ⟨m, a4, a5⟩, ⟨a6, a6'⟩, a7⟩ := lp_ (fun p (F : dy_) => k133_31 w (d + 3) (nI p) F) (fun p F => nwr_ F 362 p P ∧ (F.1 369 0 = nI (cq_ (fun q => decide (P q = 0)) p) ∧ F.1 369 1 = nI (cq_ (fun q => decide (P q = 1)) p)) ∧ (∃ m, F.1 351 22 = nI m ∧ ((m = 1 ∧ ∀ q, q < p → P q = 0) ∨ (m = 2 ∧ ∃ q, q < p ∧ P q = 1))) ∧ (F.1 351 24 = nI 0 ∧ F.1 351 25 = nI 0) ∧ fx_ fsp_ fsq_ D F) (M.2.1) (s := E0) (by
    rintro p F hp ⟨t1, ⟨t2, t2'⟩, ⟨m, t3, t4⟩, ⟨t5, t5'⟩, t6⟩
    have hbf := hbF F t6
    have key : k133_31 w (d + 3) (nI p) F = k133_64 w (d + 3) (nI p) 362 (nI p) (nI (P p)) F := by
      rw [e133_31]
      simp (disch := omega) only [nI_add, pk_mul, nI_clamp, nI_leI, nI_ltI, nI_eq, inb_, iz1_, iz2_, iz3_, iz4_, iz5_, reduceIte, if_pos, if_neg, op_os, op_vIs, op_vLs, op_vRs, op_vNs, dI_at, dL_at, dI_2, dL_1, Nat.reduceEqDiff, Nat.reduceAdd, Nat.reduceMul, false_and, and_false, true_and, and_true, ne_eq, not_true_eq_false, not_false_eq_true, b2_z, b2_o, b2_n, b2_01, nar_b, nar_0, nar_1, Bool.false_eq_true, Bool.true_eq_false, hbf.2.1, hbf.2.2.2 p hp, hbf.2.2.2 0 (show 0 < M.2.1 by omega)]
      show _ = k133_64 w (d + 3) (nI p) 362 (nI p) (nI (if M.2.2.2.2 p = M.2.2.2.2 0 then 0 else 1)) F
      cases M.2.2.2.2 p <;> cases M.2.2.2.2 0 <;> rfl
    have nw1 : nwr_ (dI_ F 362 p (nI (P p))) 362 (p + 1) P := by
      intro q hq
      simp (disch := omega) only [nI_add, pk_mul, nI_clamp, nI_leI, nI_ltI, nI_eq, inb_, iz1_, iz2_, iz3_, iz4_, iz5_, reduceIte, op_os, op_vIs, op_vLs, op_vRs, op_vNs, dI_at, dL_at, dI_2, dL_1, Nat.reduceEqDiff, Nat.reduceAdd, Nat.reduceMul, false_and, and_false, true_and, and_true, ne_eq, not_true_eq_false, not_false_eq_true, b2_z, b2_o, b2_n, b2_01, nar_b, nar_0, nar_1, Bool.false_eq_true, Bool.true_eq_false]
      by_cases z : q = p
      · rw [if_pos z, z]
      · rw [if_neg z]
        exact t1 q (by omega)
    have hcq := cq_le (fun q => decide (P q = 0)) p
    have hcq' := cq_le (fun q => decide (P q = 1)) p
    rcases P01 p with z | z
    · refine ⟨dI_ (dI_ (dI_ F 362 p (nI 0)) 351 22 (nI m)) 369 0 (nI (cq_ (fun q => decide (P q = 0)) p + 1)), key.trans ?_, fun q hq => ?_, ⟨?_, ?_⟩, ⟨m, by simp (disch := omega) only [nI_add, pk_mul, nI_clamp, nI_leI, nI_ltI, nI_eq, inb_, iz1_, iz2_, iz3_, iz4_, iz5_, reduceIte, if_pos, if_neg, op_os, op_vIs, op_vLs, op_vRs, op_vNs, dI_at, dL_at, dI_2, dL_1, Nat.reduceEqDiff, Nat.reduceAdd, Nat.reduceMul, false_and, and_false, true_and, and_true, ne_eq, not_true_eq_false, not_false_eq_true, b2_z, b2_o, b2_n, b2_01, nar_b, nar_0, nar_1, Bool.false_eq_true, Bool.true_eq_false], ?_⟩, ⟨by simp (disch := omega) only [nI_add, pk_mul, nI_clamp, nI_leI, nI_ltI, nI_eq, inb_, iz1_, iz2_, iz3_, iz4_, iz5_, reduceIte, if_pos, if_neg, op_os, op_vIs, op_vLs, op_vRs, op_vNs, dI_at, dL_at, dI_2, dL_1, Nat.reduceEqDiff, Nat.reduceAdd, Nat.reduceMul, false_and, and_false, true_and, and_true, ne_eq, not_true_eq_false, not_false_eq_true, b2_z, b2_o, b2_n, b2_01, nar_b, nar_0, nar_1, Bool.false_eq_true, Bool.true_eq_false]; exact t5, by simp (disch := omega) only [nI_add, pk_mul, nI_clamp, nI_leI, nI_ltI, nI_eq, inb_, iz1_, iz2_, iz3_, iz4_, iz5_, reduceIte, if_pos, if_neg, op_os, op_vIs, op_vLs, op_vRs, op_vNs, dI_at, dL_at, dI_2, dL_1, Nat.reduceEqDiff, Nat.reduceAdd, Nat.reduceMul, false_and, and_false, true_and, and_true, ne_eq, not_true_eq_false, not_false_eq_true, b2_z, b2_o, b2_n, b2_01, nar_b, nar_0, nar_1, Bool.false_eq_true, Bool.true_eq_false]; exact t5'⟩, ?_⟩
      · rw [z, e133_64]
        have hm : m = 1 ∨ m = 2 := by omega
        simp (disch := omega) only [nI_add, pk_mul, nI_clamp, nI_leI, nI_ltI, nI_eq, inb_, iz1_, iz2_, iz3_, iz4_, iz5_, reduceIte, if_pos, if_neg, op_os, op_vIs, op_vLs, op_vRs, op_vNs, dI_at, dL_at, dI_2, dL_1, Nat.reduceEqDiff, Nat.reduceAdd, Nat.reduceMul, false_and, and_false, true_and, and_true, ne_eq, not_true_eq_false, not_false_eq_true, b2_z, b2_o, b2_n, b2_01, nar_b, nar_0, nar_1, Bool.false_eq_true, Bool.true_eq_false, sf_362, t3, e133_84, t2]
      · have := nw1 q hq
        rw [z] at this
        simp (disch := omega) only [nI_add, pk_mul, nI_clamp, nI_leI, nI_ltI, nI_eq, inb_, iz1_, iz2_, iz3_, iz4_, iz5_, reduceIte, if_pos, if_neg, op_os, op_vIs, op_vLs, op_vRs, op_vNs, dI_at, dL_at, dI_2, dL_1, Nat.reduceEqDiff, Nat.reduceAdd, Nat.reduceMul, false_and, and_false, true_and, and_true, ne_eq, not_true_eq_false, not_false_eq_true, b2_z, b2_o, b2_n, b2_01, nar_b, nar_0, nar_1, Bool.false_eq_true, Bool.true_eq_false]
        simp (disch := omega) only [nI_add, pk_mul, nI_clamp, nI_leI, nI_ltI, nI_eq, inb_, iz1_, iz2_, iz3_, iz4_, iz5_, reduceIte, op_os, op_vIs, op_vLs, op_vRs, op_vNs, dI_at, dL_at, dI_2, dL_1, Nat.reduceEqDiff, Nat.reduceAdd, Nat.reduceMul, false_and, and_false, true_and, and_true, ne_eq, not_true_eq_false, not_false_eq_true, b2_z, b2_o, b2_n, b2_01, nar_b, nar_0, nar_1, Bool.false_eq_true, Bool.true_eq_false] at this
        exact this
      · simp (disch := omega) only [nI_add, pk_mul, nI_clamp, nI_leI, nI_ltI, nI_eq, inb_, iz1_, iz2_, iz3_, iz4_, iz5_, reduceIte, if_pos, if_neg, op_os, op_vIs, op_vLs, op_vRs, op_vNs, dI_at, dL_at, dI_2, dL_1, Nat.reduceEqDiff, Nat.reduceAdd, Nat.reduceMul, false_and, and_false, true_and, and_true, ne_eq, not_true_eq_false, not_false_eq_true, b2_z, b2_o, b2_n, b2_01, nar_b, nar_0, nar_1, Bool.false_eq_true, Bool.true_eq_false]; rw [cq_s, decide_eq_true z, if_pos rfl]
      · simp (disch := omega) only [nI_add, pk_mul, nI_clamp, nI_leI, nI_ltI, nI_eq, inb_, iz1_, iz2_, iz3_, iz4_, iz5_, reduceIte, if_pos, if_neg, op_os, op_vIs, op_vLs, op_vRs, op_vNs, dI_at, dL_at, dI_2, dL_1, Nat.reduceEqDiff, Nat.reduceAdd, Nat.reduceMul, false_and, and_false, true_and, and_true, ne_eq, not_true_eq_false, not_false_eq_true, b2_z, b2_o, b2_n, b2_01, nar_b, nar_0, nar_1, Bool.false_eq_true, Bool.true_eq_false]; rw [cq_s, decide_eq_false (by omega), if_neg (by decide)]; exact t2'
      · rcases t4 with ⟨q1, q2⟩ | ⟨q1, q, q2, q3⟩
        · refine Or.inl ⟨q1, fun q hq => ?_⟩
          by_cases y : q = p
          · rw [y]; exact z
          · exact q2 q (by omega)
        · exact Or.inr ⟨q1, q, by omega, q3⟩
      · refine fx_1 (fx_1 (fx_1 t6 ?_) ?_) ?_ <;> (unfold fsp_ fsq_; omega)
    · refine ⟨dI_ (dI_ (dI_ F 362 p (nI 1)) 351 22 (nI 2)) 369 1 (nI (cq_ (fun q => decide (P q = 1)) p + 1)), key.trans ?_, fun q hq => ?_, ⟨?_, ?_⟩, ⟨2, by simp (disch := omega) only [nI_add, pk_mul, nI_clamp, nI_leI, nI_ltI, nI_eq, inb_, iz1_, iz2_, iz3_, iz4_, iz5_, reduceIte, if_pos, if_neg, op_os, op_vIs, op_vLs, op_vRs, op_vNs, dI_at, dL_at, dI_2, dL_1, Nat.reduceEqDiff, Nat.reduceAdd, Nat.reduceMul, false_and, and_false, true_and, and_true, ne_eq, not_true_eq_false, not_false_eq_true, b2_z, b2_o, b2_n, b2_01, nar_b, nar_0, nar_1, Bool.false_eq_true, Bool.true_eq_false], Or.inr ⟨rfl, p, by omega, z⟩⟩, ⟨by simp (disch := omega) only [nI_add, pk_mul, nI_clamp, nI_leI, nI_ltI, nI_eq, inb_, iz1_, iz2_, iz3_, iz4_, iz5_, reduceIte, if_pos, if_neg, op_os, op_vIs, op_vLs, op_vRs, op_vNs, dI_at, dL_at, dI_2, dL_1, Nat.reduceEqDiff, Nat.reduceAdd, Nat.reduceMul, false_and, and_false, true_and, and_true, ne_eq, not_true_eq_false, not_false_eq_true, b2_z, b2_o, b2_n, b2_01, nar_b, nar_0, nar_1, Bool.false_eq_true, Bool.true_eq_false]; exact t5, by simp (disch := omega) only [nI_add, pk_mul, nI_clamp, nI_leI, nI_ltI, nI_eq, inb_, iz1_, iz2_, iz3_, iz4_, iz5_, reduceIte, if_pos, if_neg, op_os, op_vIs, op_vLs, op_vRs, op_vNs, dI_at, dL_at, dI_2, dL_1, Nat.reduceEqDiff, Nat.reduceAdd, Nat.reduceMul, false_and, and_false, true_and, and_true, ne_eq, not_true_eq_false, not_false_eq_true, b2_z, b2_o, b2_n, b2_01, nar_b, nar_0, nar_1, Bool.false_eq_true, Bool.true_eq_false]; exact t5'⟩, ?_⟩
      · rw [z, e133_64]
        simp (disch := omega) only [nI_add, pk_mul, nI_clamp, nI_leI, nI_ltI, nI_eq, inb_, iz1_, iz2_, iz3_, iz4_, iz5_, reduceIte, if_pos, if_neg, op_os, op_vIs, op_vLs, op_vRs, op_vNs, dI_at, dL_at, dI_2, dL_1, Nat.reduceEqDiff, Nat.reduceAdd, Nat.reduceMul, false_and, and_false, true_and, and_true, ne_eq, not_true_eq_false, not_false_eq_true, b2_z, b2_o, b2_n, b2_01, nar_b, nar_0, nar_1, Bool.false_eq_true, Bool.true_eq_false, sf_362, e133_84, t2']
      · have := nw1 q hq
        rw [z] at this
        simp (disch := omega) only [nI_add, pk_mul, nI_clamp, nI_leI, nI_ltI, nI_eq, inb_, iz1_, iz2_, iz3_, iz4_, iz5_, reduceIte, if_pos, if_neg, op_os, op_vIs, op_vLs, op_vRs, op_vNs, dI_at, dL_at, dI_2, dL_1, Nat.reduceEqDiff, Nat.reduceAdd, Nat.reduceMul, false_and, and_false, true_and, and_true, ne_eq, not_true_eq_false, not_false_eq_true, b2_z, b2_o, b2_n, b2_01, nar_b, nar_0, nar_1, Bool.false_eq_true, Bool.true_eq_false]
        simp (disch := omega) only [nI_add, pk_mul, nI_clamp, nI_leI, nI_ltI, nI_eq, inb_, iz1_, iz2_, iz3_, iz4_, iz5_, reduceIte, op_os, op_vIs, op_vLs, op_vRs, op_vNs, dI_at, dL_at, dI_2, dL_1, Nat.reduceEqDiff, Nat.reduceAdd, Nat.reduceMul, false_and, and_false, true_and, and_true, ne_eq, not_true_eq_false, not_false_eq_true, b2_z, b2_o, b2_n, b2_01, nar_b, nar_0, nar_1, Bool.false_eq_true, Bool.true_eq_false] at this
        exact this
      · simp (disch := omega) only [nI_add, pk_mul, nI_clamp, nI_leI, nI_ltI, nI_eq, inb_, iz1_, iz2_, iz3_, iz4_, iz5_, reduceIte, if_pos, if_neg, op_os, op_vIs, op_vLs, op_vRs, op_vNs, dI_at, dL_at, dI_2, dL_1, Nat.reduceEqDiff, Nat.reduceAdd, Nat.reduceMul, false_and, and_false, true_and, and_true, ne_eq, not_true_eq_false, not_false_eq_true, b2_z, b2_o, b2_n, b2_01, nar_b, nar_0, nar_1, Bool.false_eq_true, Bool.true_eq_false]; rw [cq_s, decide_eq_false (by omega), if_neg (by decide)]; exact t2
      · simp (disch := omega) only [nI_add, pk_mul, nI_clamp, nI_leI, nI_ltI, nI_eq, inb_, iz1_, iz2_, iz3_, iz4_, iz5_, reduceIte, if_pos, if_neg, op_os, op_vIs, op_vLs, op_vRs, op_vNs, dI_at, dL_at, dI_2, dL_1, Nat.reduceEqDiff, Nat.reduceAdd, Nat.reduceMul, false_and, and_false, true_and, and_true, ne_eq, not_true_eq_false, not_false_eq_true, b2_z, b2_o, b2_n, b2_01, nar_b, nar_0, nar_1, Bool.false_eq_true, Bool.true_eq_false]; rw [cq_s, decide_eq_true z, if_pos rfl]
      · refine fx_1 (fx_1 (fx_1 t6 ?_) ?_) ?_ <;> (unfold fsp_ fsq_; omega)) ⟨fun q hq => absurd hq (by omega), ⟨by rw [← hE0]; simp (disch := omega) only [nI_add, pk_mul, nI_clamp, nI_leI, nI_ltI, nI_eq, inb_, iz1_, iz2_, iz3_, iz4_, iz5_, reduceIte, if_pos, if_neg, op_os, op_vIs, op_vLs, op_vRs, op_vNs, dI_at, dL_at, dI_2, dL_1, Nat.reduceEqDiff, Nat.reduceAdd, Nat.reduceMul, false_and, and_false, true_and, and_true, ne_eq, not_true_eq_false, not_false_eq_true, b2_z, b2_o, b2_n, b2_01, nar_b, nar_0, nar_1, Bool.false_eq_true, Bool.true_eq_false]; rfl, by rw [← hE0]; simp (disch := omega) only [nI_add, pk_mul, nI_clamp, nI_leI, nI_ltI, nI_eq, inb_, iz1_, iz2_, iz3_, iz4_, iz5_, reduceIte, if_pos, if_neg, op_os, op_vIs, op_vLs, op_vRs, op_vNs, dI_at, dL_at, dI_2, dL_1, Nat.reduceEqDiff, Nat.reduceAdd, Nat.reduceMul, false_and, and_false, true_and, and_true, ne_eq, not_true_eq_false, not_false_eq_true, b2_z, b2_o, b2_n, b2_01, nar_b, nar_0, nar_1, Bool.false_eq_true, Bool.true_eq_false]; rfl⟩, ⟨1, by rw [← hE0]; simp (disch := omega) only [nI_add, pk_mul, nI_clamp, nI_leI, nI_ltI, nI_eq, inb_, iz1_, iz2_, iz3_, iz4_, iz5_, reduceIte, if_pos, if_neg, op_os, op_vIs, op_vLs, op_vRs, op_vNs, dI_at, dL_at, dI_2, dL_1, Nat.reduceEqDiff, Nat.reduceAdd, Nat.reduceMul, false_and, and_false, true_and, and_true, ne_eq, not_true_eq_false, not_false_eq_true, b2_z, b2_o, b2_n, b2_01, nar_b, nar_0, nar_1, Bool.false_eq_true, Bool.true_eq_false], Or.inl ⟨rfl, fun q hq => absurd hq (by omega)⟩⟩, ⟨by rw [← hE0]; simp (disch := omega) only [nI_add, pk_mul, nI_clamp, nI_leI, nI_ltI, nI_eq, inb_, iz1_, iz2_, iz3_, iz4_, iz5_, reduceIte, if_pos, if_neg, op_os, op_vIs, op_vLs, op_vRs, op_vNs, dI_at, dL_at, dI_2, dL_1, Nat.reduceEqDiff, Nat.reduceAdd, Nat.reduceMul, false_and, and_false, true_and, and_true, ne_eq, not_true_eq_false, not_false_eq_true, b2_z, b2_o, b2_n, b2_01, nar_b, nar_0, nar_1, Bool.false_eq_true, Bool.true_eq_false], by rw [← hE0]; simp (disch := omega) only [nI_add, pk_mul, nI_clamp, nI_leI, nI_ltI, nI_eq, inb_, iz1_, iz2_, iz3_, iz4_, iz5_, reduceIte, if_pos, if_neg, op_os, op_vIs, op_vLs, op_vRs, op_vNs, dI_at, dL_at, dI_2, dL_1, Nat.reduceEqDiff, Nat.reduceAdd, Nat.reduceMul, false_and, and_false, true_and, and_true, ne_eq, not_true_eq_false, not_false_eq_true, b2_z, b2_o, b2_n, b2_01, nar_b, nar_0, nar_1, Bool.false_eq_true, Bool.true_eq_false]⟩, f0⟩
  have st : k133_0 w (d + 3) D = k133_110 w (d + 3) (nI 0) E1 := by
    rw [e133_0]
    simp (disch := omega) only [nI_add, pk_mul, nI_clamp, nI_leI, nI_ltI, nI_eq, inb_, iz1_, iz2_, iz3_, iz4_, iz5_, reduceIte, if_pos, if_neg, op_os, op_vIs, op_vLs, op_vRs, op_vNs, dI_at, dL_at, dI_2, dL_1, Nat.reduceEqDiff, Nat.reduceAdd, Nat.reduceMul, false_and, and_false, true_and, and_true, ne_eq, not_true_eq_false, not_false_eq_true, b2_z, b2_o, b2_n, b2_01, nar_b, nar_0, nar_1, Bool.false_eq_true, Bool.true_eq_false]
    rw [hE0]
    refine Eq.trans (show _ = k133_31 w (d + 3) (nI (M.2.1)) E1 from a1) ?_
    rw [e133_31]
    simp (disch := omega) only [nI_add, pk_mul, nI_clamp, nI_leI, nI_ltI, nI_eq, inb_, iz1_, iz2_, iz3_, iz4_, iz5_, reduceIte, if_pos, if_neg, op_os, op_vIs, op_vLs, op_vRs, op_vNs, dI_at, dL_at, dI_2, dL_1, Nat.reduceEqDiff, Nat.reduceAdd, Nat.reduceMul, false_and, and_false, true_and, and_true, ne_eq, not_true_eq_false, not_false_eq_true, b2_z, b2_o, b2_n, b2_01, nar_b, nar_0, nar_1, Bool.false_eq_true, Bool.true_eq_false, (hbF E1 a7).2.1, Nat.le_refl]
  have hcq := cq_le (fun q => decide (P q = 0)) (M.2.1)
  have hcq' := cq_le (fun q => decide (P q = 1)) (M.2.1)
  have hC : ∀ p q, p < M.2.1 → q < M.2.1 → mnd_ M p q → P p = P q := fun p q _ _ e => (Pac p q).mpr (mi_ac e)
  have hA : ∀ p q, p < M.2.1 → q < M.2.1 → P p = P q → M.2.2.2.2 p = M.2.2.2.2 q := fun p q _ _ e => (Pac p q).mp e
  rcases a5 with ⟨m1, hz⟩ | ⟨m2, q, hq, eq⟩
  · subst m1
    obtain ⟨D', i1, i2⟩ := x133w (w := w) (d := d) hM hN 237 0 1 0 E1 P (fun _ => 0) (fun _ => 0) (by omega) ⟨hbF E1 a7, a2, ⟨a4, a6, a6'⟩, fun i hi => absurd hi (by omega), fun v hv => by
      rw [show v = 0 by omega]
      exact a3, fun p hp => by rw [hz p hp]; omega, fun v hv => ⟨0, by omega, by omega⟩, by rw [Nat.sub_self, Nat.mul_zero], by omega⟩ (by omega) ⟨hC, hA, fun p q l hp hq hl _ e => absurd (by rw [hz _ (hM.2.2.2 p l hp hl), hz _ (hM.2.2.2 q l hq hl)]) e⟩
    refine ⟨D', ?_, fx_t a7 i2⟩
    rw [st, e133_110]
    simp (disch := omega) only [nI_add, pk_mul, nI_clamp, nI_leI, nI_ltI, nI_eq, inb_, iz1_, iz2_, iz3_, iz4_, iz5_, reduceIte, if_pos, if_neg, op_os, op_vIs, op_vLs, op_vRs, op_vNs, dI_at, dL_at, dI_2, dL_1, Nat.reduceEqDiff, Nat.reduceAdd, Nat.reduceMul, false_and, and_false, true_and, and_true, ne_eq, not_true_eq_false, not_false_eq_true, b2_z, b2_o, b2_n, b2_01, nar_b, nar_0, nar_1, Bool.false_eq_true, Bool.true_eq_false, (hbF E1 a7).1, a4]
    exact i1
  · subst m2
    let v : Nat := if cq_ (fun q => decide (P q = 1)) (M.2.1) ≤ cq_ (fun q => decide (P q = 0)) (M.2.1) then 1 else 0
    have hv : v = 0 ∨ v = 1 := by
      show (if _ then 1 else 0) = 0 ∨ (if _ then 1 else 0) = 1
      by_cases z : cq_ (fun q => decide (P q = 1)) (M.2.1) ≤ cq_ (fun q => decide (P q = 0)) (M.2.1)
      · rw [if_pos z]; exact Or.inr rfl
      · rw [if_neg z]; exact Or.inl rfl
    obtain ⟨E2, b1, b2, b3, b4⟩ := lp_ (fun l (F : dy_) => k133_110 w (d + 3) (nI l) F) (fun l F => F.1 351 24 = nI l ∧ (∀ i, i < l → F.1 370 i = nI v ∧ F.1 371 i = nI i) ∧ fx_ (fun b => b = 370 ∨ b = 371) (fun j => j = 24) E1 F) (M.1) (s := E1) (by
      rintro l F hl ⟨t1, t2, t3⟩
      have hbf : bg_ F M := bg_fx (hbF E1 a7) t3 (by omega) (by omega) (by omega) (by omega)
      have g22 : F.1 351 22 = nI 2 := by rw [t3.2.1 22 (by omega)]; exact a4
      have g0 : F.1 369 0 = nI (cq_ (fun q => decide (P q = 0)) (M.2.1)) := by rw [t3.1 369 (by omega) (by omega)]; exact a3
      have g1 : F.1 369 1 = nI (cq_ (fun q => decide (P q = 1)) (M.2.1)) := by rw [t3.1 369 (by omega) (by omega)]; exact a3'
      refine ⟨dI_ (dI_ (dI_ F 370 l (nI v)) 371 l (nI l)) 351 24 (nI (l + 1)), ?_, by simp (disch := omega) only [nI_add, pk_mul, nI_clamp, nI_leI, nI_ltI, nI_eq, inb_, iz1_, iz2_, iz3_, iz4_, iz5_, reduceIte, if_pos, if_neg, op_os, op_vIs, op_vLs, op_vRs, op_vNs, dI_at, dL_at, dI_2, dL_1, Nat.reduceEqDiff, Nat.reduceAdd, Nat.reduceMul, false_and, and_false, true_and, and_true, ne_eq, not_true_eq_false, not_false_eq_true, b2_z, b2_o, b2_n, b2_01, nar_b, nar_0, nar_1, Bool.false_eq_true, Bool.true_eq_false], fun i hi => ?_, fx_1 (fx_1 (fx_1 t3 (by omega)) (by omega)) (by omega)⟩
      · have key : k133_110 w (d + 3) (nI l) F = k133_147 w (d + 3) (nI l) (nI v) F := by
          show _ = k133_147 w (d + 3) (nI l) (nI (if cq_ (fun q => decide (P q = 1)) (M.2.1) ≤ cq_ (fun q => decide (P q = 0)) (M.2.1) then 1 else 0)) F
          rw [e133_110]
          simp (disch := omega) only [nI_add, pk_mul, nI_clamp, nI_leI, nI_ltI, nI_eq, inb_, iz1_, iz2_, iz3_, iz4_, iz5_, reduceIte, op_os, op_vIs, op_vLs, op_vRs, op_vNs, dI_at, dL_at, dI_2, dL_1, Nat.reduceEqDiff, Nat.reduceAdd, Nat.reduceMul, false_and, and_false, true_and, and_true, ne_eq, not_true_eq_false, not_false_eq_true, b2_z, b2_o, b2_n, b2_01, nar_b, nar_0, nar_1, Bool.false_eq_true, Bool.true_eq_false, hbf.1, g22, g0, g1]
          rw [if_neg (by omega)]
          by_cases z : cq_ (fun q => decide (P q = 1)) (M.2.1) ≤ cq_ (fun q => decide (P q = 0)) (M.2.1)
          · rw [if_pos z, if_pos z]
          · rw [if_neg z, if_neg z]
        refine Eq.trans (show _ = _ from key) ?_
        rw [e133_147]
        simp (disch := omega) only [nI_add, pk_mul, nI_clamp, nI_leI, nI_ltI, nI_eq, inb_, iz1_, iz2_, iz3_, iz4_, iz5_, reduceIte, if_pos, if_neg, op_os, op_vIs, op_vLs, op_vRs, op_vNs, dI_at, dL_at, dI_2, dL_1, Nat.reduceEqDiff, Nat.reduceAdd, Nat.reduceMul, false_and, and_false, true_and, and_true, ne_eq, not_true_eq_false, not_false_eq_true, b2_z, b2_o, b2_n, b2_01, nar_b, nar_0, nar_1, Bool.false_eq_true, Bool.true_eq_false, x131 t1 (show l < 2000 by omega)]
      · simp (disch := omega) only [nI_add, pk_mul, nI_clamp, nI_leI, nI_ltI, nI_eq, inb_, iz1_, iz2_, iz3_, iz4_, iz5_, reduceIte, op_os, op_vIs, op_vLs, op_vRs, op_vNs, dI_at, dL_at, dI_2, dL_1, Nat.reduceEqDiff, Nat.reduceAdd, Nat.reduceMul, false_and, and_false, true_and, and_true, ne_eq, not_true_eq_false, not_false_eq_true, b2_z, b2_o, b2_n, b2_01, nar_b, nar_0, nar_1, Bool.false_eq_true, Bool.true_eq_false]
        by_cases y : i = l
        · rw [if_pos y, if_pos y, y]
          exact ⟨rfl, rfl⟩
        · rw [if_neg y, if_neg y]
          exact t2 i (by omega)) ⟨a6, fun i hi => absurd hi (by omega), fx_r _ _ E1⟩
    have hbE2 : bg_ E2 M := bg_fx (hbF E1 a7) b4 (by omega) (by omega) (by omega) (by omega)
    have hP2 : ∀ p, P p < 2 := fun p => by have := P01 p; omega
    obtain ⟨D', i1, i2⟩ := x133w (w := w) (d := d) hM hN 237 0 2 (M.1) E2 P (fun _ => v) (fun i => i) (by omega) ⟨hbE2, fun p hp => by rw [b4.1 362 (by omega) (by omega)]; exact a2 p hp, ⟨by rw [b4.2.1 22 (by omega)]; exact a4, b2, by rw [b4.2.1 25 (by omega)]; exact a6'⟩, fun i hi => ⟨(b3 i hi).1, (b3 i hi).2, by show v < 2; omega, hi⟩, fun u hu => by
      rw [b4.1 369 (by omega) (by omega)]
      by_cases y : u = 0
      · rw [y]; exact a3
      · rw [show u = 1 by omega]; exact a3', fun p _ => hP2 p, fun u hu => by
      by_cases y : u = 0
      · exact ⟨0, by omega, by omega⟩
      · exact ⟨q, hq, by omega⟩, by omega, by omega⟩ (by omega) ⟨hC, hA, fun p q l hp hq hl _ e => ⟨l, by omega, hl, rfl, by
      have := P01 (M.2.2.2.1 p l)
      have := P01 (M.2.2.2.1 q l)
      show v = P (M.2.2.2.1 p l) ∨ v = P (M.2.2.2.1 q l)
      omega⟩⟩
    refine ⟨D', ?_, fx_t a7 (fx_t (fx_w b4 (fun b hb => by unfold fsp_; omega) (fun j hj => by unfold fsq_; omega)) i2)⟩
    rw [st]
    refine Eq.trans (show _ = k133_110 w (d + 3) (nI (M.1)) E2 from b1) ?_
    rw [e133_110]
    simp (disch := omega) only [nI_add, pk_mul, nI_clamp, nI_leI, nI_ltI, nI_eq, inb_, iz1_, iz2_, iz3_, iz4_, iz5_, reduceIte, if_pos, if_neg, op_os, op_vIs, op_vLs, op_vRs, op_vNs, dI_at, dL_at, dI_2, dL_1, Nat.reduceEqDiff, Nat.reduceAdd, Nat.reduceMul, false_and, and_false, true_and, and_true, ne_eq, not_true_eq_false, not_false_eq_true, b2_z, b2_o, b2_n, b2_01, nar_b, nar_0, nar_1, Bool.false_eq_true, Bool.true_eq_false, hbE2.1, Nat.le_refl]
    exact i1
end SPS
