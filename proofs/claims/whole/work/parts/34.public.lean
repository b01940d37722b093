/-- how many -/
def cq_ (f : Nat → Bool) : Nat → Nat
  | 0 => 0
  | n + 1 => if f n then cq_ f n + 1 else cq_ f n
theorem cq_s (f : Nat → Bool) (n : Nat) : cq_ f (n + 1) = if f n then cq_ f n + 1 else cq_ f n := rfl
theorem cq_le (f : Nat → Bool) (n : Nat) : cq_ f n ≤ n := by
  induction n with
  | zero => exact Nat.le_refl _
  | succ n ih =>
    unfold cq_
    by_cases h : f n = true
    · rw [if_pos h]; omega
    · rw [if_neg h]; omega
theorem cq_e {f g : Nat → Bool} {n : Nat} (h : ∀ i, i < n → f i = g i) : cq_ f n = cq_ g n := by
  induction n with
  | zero => rfl
  | succ n ih =>
    unfold cq_
    rw [h n (by omega), ih fun i hi => h i (by omega)]
section PUB
variable {w : (Nat → Int32) × Nat} {d : Nat} {D : dy_} {S : sp_} {B : Nat}
/-- Machine.countEnds -/
theorem x12 {a : Nat} {M : ma_} (ha : a ∈ ml_) (h : cm_ D a M) (hn : M.2.1 ≤ cap_ a) : k12_0 w (d + 1) a D = some (some (.int (nI (cq_ (M.2.2.2.2) (M.2.1)))), D) := by
  have hcap := (mM_ ha).2.2.2.2.2
  rw [e12_0 ha]
  have := lq_ (fun i (x : Nat) => k12_4 w (d + 1) a (nI x) (nI i) D) (fun i => cq_ (M.2.2.2.2) i) (M.2.1) (by
    intro i hi
    have hc := cq_le (M.2.2.2.2) i
    show k12_4 w (d + 1) a (nI (cq_ (M.2.2.2.2) i)) (nI i) D = _
    rw [e12_4 ha]
    simp (disch := omega) only [nI_add, pk_mul, nI_clamp, nI_leI, nI_ltI, nI_eq, inb_, iz1_, iz2_, iz3_, iz4_, iz5_, reduceIte, if_pos, if_neg, op_os, op_vIs, op_vLs, op_vRs, op_vNs, dI_at, dL_at, dI_2, dL_1, Nat.reduceEqDiff, Nat.reduceAdd, Nat.reduceMul, false_and, and_false, true_and, and_true, ne_eq, not_true_eq_false, not_false_eq_true, b2_z, b2_o, b2_n, b2_01, nar_b, nar_0, nar_1, Bool.false_eq_true, Bool.true_eq_false, h.2.1, h.2.2.2.2 i hi, e12_24 ha]
    rw [cq_s]
    cases M.2.2.2.2 i <;> rfl)
  refine this.trans ?_
  show k12_4 w (d + 1) a (nI (cq_ (M.2.2.2.2) (M.2.1))) (nI (M.2.1)) D = _
  rw [e12_4 ha]
  simp (disch := omega) only [nI_add, pk_mul, nI_clamp, nI_leI, nI_ltI, nI_eq, inb_, iz1_, iz2_, iz3_, iz4_, iz5_, reduceIte, if_pos, if_neg, op_os, op_vIs, op_vLs, op_vRs, op_vNs, dI_at, dL_at, dI_2, dL_1, Nat.reduceEqDiff, Nat.reduceAdd, Nat.reduceMul, false_and, and_false, true_and, and_true, ne_eq, not_true_eq_false, not_false_eq_true, b2_z, b2_o, b2_n, b2_01, nar_b, nar_0, nar_1, Bool.false_eq_true, Bool.true_eq_false, h.2.1, Nat.le_refl]
theorem bo_about (hS : ok_ S) (s x : Int32) : bo_ S B (fun D => k86_0 w (d + 200) s x D) (fun D => k120_0 w (d + 200) s x D) := by
  by_cases c1 : ls_ 6 s = true
  · obtain ⟨i, rfl, hi⟩ := ls_t (by omega) c1
    obtain ⟨⟨⟨hk1, hk4⟩, hn1, hs, hwf⟩, hn⟩ := hS.1 i hi
    have hcap := sl4_ hi
    have hin : ∀ D, k111_0 w (d + 199) x.toInt64 (lN 0) (lN 3) D = some (some (.int (b2_ (ls_ 4 x))), D) := by
      intro D
      rw [lt64 (n := 3) (by omega)]
      exact x111a (n := 4) (by omega) x
    by_cases c2 : ls_ 4 x = true
    · obtain ⟨j, rfl, hj⟩ := ls_t (by omega) c2
      refine bo_o (.int (nI (if j = 0 then (S.1 i).1 else if j = 1 then (S.1 i).2.1 else if j = 2 then (S.1 i).2.2.1 else cq_ ((S.1 i).2.2.2.2) ((S.1 i).2.1)))) hS (fun D h => ?_) (fun D h => ?_)
      · have hc := h.1 i hi
        rw [e86_0, x106s, c1]
        simp (disch := omega) only [nI_add, pk_mul, nI_clamp, nI_leI, nI_ltI, nI_eq, inb_, iz1_, iz2_, iz3_, iz4_, iz5_, reduceIte, op_os, op_vIs, op_vLs, op_vRs, op_vNs, dI_at, dL_at, dI_2, dL_1, Nat.reduceEqDiff, Nat.reduceAdd, Nat.reduceMul, false_and, and_false, true_and, and_true, ne_eq, not_true_eq_false, not_false_eq_true, b2_z, b2_o, b2_n, b2_01, nar_b, nar_0, nar_1, Bool.false_eq_true, Bool.true_eq_false, sl1_, sl2_, hc.1, hc.2.1, hc.2.2.1, x12 (sl_ hi).2 hc (by omega)]
        rcases (show j = 0 ∨ j = 1 ∨ j = 2 ∨ j = 3 by omega) with rfl | rfl | rfl | rfl <;> simp (disch := omega) only [nI_add, pk_mul, nI_clamp, nI_leI, nI_ltI, nI_eq, inb_, iz1_, iz2_, iz3_, iz4_, iz5_, reduceIte, if_pos, if_neg, op_os, op_vIs, op_vLs, op_vRs, op_vNs, dI_at, dL_at, dI_2, dL_1, Nat.reduceEqDiff, Nat.reduceAdd, Nat.reduceMul, false_and, and_false, true_and, and_true, ne_eq, not_true_eq_false, not_false_eq_true, b2_z, b2_o, b2_n, b2_01, nar_b, nar_0, nar_1, Bool.false_eq_true, Bool.true_eq_false]
      · have h' := mr_0 (v := nI 0) h
        have hm := h'.1 i hi
        rw [e120_0, x114s, c1]
        simp (disch := omega) only [nI_add, pk_mul, nI_clamp, nI_leI, nI_ltI, nI_eq, inb_, iz1_, iz2_, iz3_, iz4_, iz5_, reduceIte, if_pos, if_neg, op_os, op_vIs, op_vLs, op_vRs, op_vNs, dI_at, dL_at, dI_2, dL_1, Nat.reduceEqDiff, Nat.reduceAdd, Nat.reduceMul, false_and, and_false, true_and, and_true, ne_eq, not_true_eq_false, not_false_eq_true, b2_z, b2_o, b2_n, b2_01, nar_b, nar_0, nar_1, Bool.false_eq_true, Bool.true_eq_false, hin, c2]
        have := lq_ (fun p (x : Nat) => k120_32 w (d + 200) (nI i) (nI j) (nI x) (nI p) (dI_ D 351 0 (nI 0))) (fun p => cq_ ((S.1 i).2.2.2.2) p) ((S.1 i).2.1) (by
          intro p hp
          have hcc := cq_le ((S.1 i).2.2.2.2) p
          show k120_32 w (d + 200) (nI i) (nI j) (nI (cq_ ((S.1 i).2.2.2.2) p)) (nI p) (dI_ D 351 0 (nI 0)) = _
          rw [e120_32]
          simp (disch := omega) only [nI_add, pk_mul, nI_clamp, nI_leI, nI_ltI, nI_eq, inb_, iz1_, iz2_, iz3_, iz4_, iz5_, reduceIte, if_pos, if_neg, op_os, op_vIs, op_vLs, op_vRs, op_vNs, dI_at, dL_at, dI_2, dL_1, Nat.reduceEqDiff, Nat.reduceAdd, Nat.reduceMul, false_and, and_false, true_and, and_true, ne_eq, not_true_eq_false, not_false_eq_true, b2_z, b2_o, b2_n, b2_01, nar_b, nar_0, nar_1, Bool.false_eq_true, Bool.true_eq_false, hm.2.1, (h.1 i hi).2.1, x113 (show i < 110 by omega) ⟨hn, hk4⟩ hm hp, e120_60]
          show _ = k120_32 w (d + 200) (nI i) (nI j) (nI (if (S.1 i).2.2.2.2 p then cq_ ((S.1 i).2.2.2.2) p + 1 else cq_ ((S.1 i).2.2.2.2) p)) (nI (p + 1)) (dI_ D 351 0 (nI 0))
          cases (S.1 i).2.2.2.2 p <;> rfl)
        refine this.trans ?_
        show k120_32 w (d + 200) (nI i) (nI j) (nI (cq_ ((S.1 i).2.2.2.2) ((S.1 i).2.1))) (nI ((S.1 i).2.1)) (dI_ D 351 0 (nI 0)) = _
        rw [e120_32]
        simp (disch := omega) only [nI_add, pk_mul, nI_clamp, nI_leI, nI_ltI, nI_eq, inb_, iz1_, iz2_, iz3_, iz4_, iz5_, reduceIte, if_pos, if_neg, op_os, op_vIs, op_vLs, op_vRs, op_vNs, dI_at, dL_at, dI_2, dL_1, Nat.reduceEqDiff, Nat.reduceAdd, Nat.reduceMul, false_and, and_false, true_and, and_true, ne_eq, not_true_eq_false, not_false_eq_true, b2_z, b2_o, b2_n, b2_01, nar_b, nar_0, nar_1, Bool.false_eq_true, Bool.true_eq_false, (h.1 i hi).1, (h.1 i hi).2.1, (h.1 i hi).2.2.1, Nat.le_refl]
        rcases (show j = 0 ∨ j = 1 ∨ j = 2 ∨ j = 3 by omega) with rfl | rfl | rfl | rfl <;> simp (disch := omega) only [nI_add, pk_mul, nI_clamp, nI_leI, nI_ltI, nI_eq, inb_, iz1_, iz2_, iz3_, iz4_, iz5_, reduceIte, if_pos, if_neg, op_os, op_vIs, op_vLs, op_vRs, op_vNs, dI_at, dL_at, dI_2, dL_1, Nat.reduceEqDiff, Nat.reduceAdd, Nat.reduceMul, false_and, and_false, true_and, and_true, ne_eq, not_true_eq_false, not_false_eq_true, b2_z, b2_o, b2_n, b2_01, nar_b, nar_0, nar_1, Bool.false_eq_true, Bool.true_eq_false]
    · have hx : ∀ c, c < 4 → ¬ x = nI c := fun c hc e => c2 (by rw [e]; exact ls_n hc (by omega))
      refine bo_o (.int (-102)) hS (fun D h => ?_) (fun D h => ?_)
      · rw [e86_0, x106s, c1]
        simp (disch := omega) only [nI_add, pk_mul, nI_clamp, nI_leI, nI_ltI, nI_eq, inb_, iz1_, iz2_, iz3_, iz4_, iz5_, reduceIte, if_pos, if_neg, op_os, op_vIs, op_vLs, op_vRs, op_vNs, dI_at, dL_at, dI_2, dL_1, Nat.reduceEqDiff, Nat.reduceAdd, Nat.reduceMul, false_and, and_false, true_and, and_true, ne_eq, not_true_eq_false, not_false_eq_true, b2_z, b2_o, b2_n, b2_01, nar_b, nar_0, nar_1, Bool.false_eq_true, Bool.true_eq_false, hx 0 (by omega), hx 1 (by omega), hx 2 (by omega), hx 3 (by omega)]
      · rw [e120_0, x114s, c1]
        simp (disch := omega) only [nI_add, pk_mul, nI_clamp, nI_leI, nI_ltI, nI_eq, inb_, iz1_, iz2_, iz3_, iz4_, iz5_, reduceIte, if_pos, if_neg, op_os, op_vIs, op_vLs, op_vRs, op_vNs, dI_at, dL_at, dI_2, dL_1, Nat.reduceEqDiff, Nat.reduceAdd, Nat.reduceMul, false_and, and_false, true_and, and_true, ne_eq, not_true_eq_false, not_false_eq_true, b2_z, b2_o, b2_n, b2_01, nar_b, nar_0, nar_1, Bool.false_eq_true, Bool.true_eq_false, hin, bf_ c2]
  · refine bo_o (.int (-102)) hS (fun D h => ?_) (fun D h => ?_)
    · rw [e86_0, x106s, bf_ c1]
      rfl
    · rw [e120_0, x114s, bf_ c1]
      rfl
theorem bo_start (hS : ok_ S) (s p : Int32) : bo_ S B (fun D => k85_0 w (d + 200) s p D) (fun D => k119_0 w (d + 200) s p D) := by
  by_cases c1 : vs_ S s p = true
  · obtain ⟨i, p, rfl, rfl, hi, hp⟩ := vs_t hS c1
    obtain ⟨⟨⟨hk1, hk4⟩, hn1, hs, hwf⟩, hn⟩ := hS.1 i hi
    refine bo_i (.int (nI ((S.1 i).2.2.1))) (us_ S i ((S.1 i).1, (S.1 i).2.1, p, (S.1 i).2.2.2.1, (S.1 i).2.2.2.2)) (us_ok hS ⟨⟨hk1, hk4⟩, hn1, hp, hwf⟩ hn) (fun D h => ?_) (fun D h => ?_)
    · have hc := h.1 i hi
      refine ⟨dI_ D (3 + 3 * i) 4 (nI p), ?_, rc_us h hi ⟨?_, ?_, ?_, fun p' l' hp' hl' => ?_, fun p' hp' => ?_⟩ (fun b hb => up_ne (f := D.1) (fun z => hb (Or.inl (by omega)))) (rsp_m (rsp_fr h.2.2.2.2 (up_ne (f := D.1) (by omega)) (up_ne (f := D.1) (by omega)) (up_ne (f := D.1) (by omega))) (by omega)), hi_I (by omega)⟩
      · rw [e85_0, x108 hS h.1, c1]
        simp (disch := omega) only [nI_add, pk_mul, nI_clamp, nI_leI, nI_ltI, nI_eq, inb_, iz1_, iz2_, iz3_, iz4_, iz5_, reduceIte, if_pos, if_neg, op_os, op_vIs, op_vLs, op_vRs, op_vNs, dI_at, dL_at, dI_2, dL_1, Nat.reduceEqDiff, Nat.reduceAdd, Nat.reduceMul, false_and, and_false, true_and, and_true, ne_eq, not_true_eq_false, not_false_eq_true, b2_z, b2_o, b2_n, b2_01, nar_b, nar_0, nar_1, Bool.false_eq_true, Bool.true_eq_false, sl1_, sl2_, hc.2.2.1]
      · simp (disch := omega) only [nI_add, pk_mul, nI_clamp, nI_leI, nI_ltI, nI_eq, inb_, iz1_, iz2_, iz3_, iz4_, iz5_, reduceIte, if_pos, if_neg, op_os, op_vIs, op_vLs, op_vRs, op_vNs, dI_at, dL_at, dI_2, dL_1, Nat.reduceEqDiff, Nat.reduceAdd, Nat.reduceMul, false_and, and_false, true_and, and_true, ne_eq, not_true_eq_false, not_false_eq_true, b2_z, b2_o, b2_n, b2_01, nar_b, nar_0, nar_1, Bool.false_eq_true, Bool.true_eq_false]; exact hc.1
      · simp (disch := omega) only [nI_add, pk_mul, nI_clamp, nI_leI, nI_ltI, nI_eq, inb_, iz1_, iz2_, iz3_, iz4_, iz5_, reduceIte, if_pos, if_neg, op_os, op_vIs, op_vLs, op_vRs, op_vNs, dI_at, dL_at, dI_2, dL_1, Nat.reduceEqDiff, Nat.reduceAdd, Nat.reduceMul, false_and, and_false, true_and, and_true, ne_eq, not_true_eq_false, not_false_eq_true, b2_z, b2_o, b2_n, b2_01, nar_b, nar_0, nar_1, Bool.false_eq_true, Bool.true_eq_false]; exact hc.2.1
      · simp (disch := omega) only [nI_add, pk_mul, nI_clamp, nI_leI, nI_ltI, nI_eq, inb_, iz1_, iz2_, iz3_, iz4_, iz5_, reduceIte, if_pos, if_neg, op_os, op_vIs, op_vLs, op_vRs, op_vNs, dI_at, dL_at, dI_2, dL_1, Nat.reduceEqDiff, Nat.reduceAdd, Nat.reduceMul, false_and, and_false, true_and, and_true, ne_eq, not_true_eq_false, not_false_eq_true, b2_z, b2_o, b2_n, b2_01, nar_b, nar_0, nar_1, Bool.false_eq_true, Bool.true_eq_false]
      · simp (disch := omega) only [nI_add, pk_mul, nI_clamp, nI_leI, nI_ltI, nI_eq, inb_, iz1_, iz2_, iz3_, iz4_, iz5_, reduceIte, if_pos, if_neg, op_os, op_vIs, op_vLs, op_vRs, op_vNs, dI_at, dL_at, dI_2, dL_1, Nat.reduceEqDiff, Nat.reduceAdd, Nat.reduceMul, false_and, and_false, true_and, and_true, ne_eq, not_true_eq_false, not_false_eq_true, b2_z, b2_o, b2_n, b2_01, nar_b, nar_0, nar_1, Bool.false_eq_true, Bool.true_eq_false]; exact hc.2.2.2.1 p' l' hp' hl'
      · simp (disch := omega) only [nI_add, pk_mul, nI_clamp, nI_leI, nI_ltI, nI_eq, inb_, iz1_, iz2_, iz3_, iz4_, iz5_, reduceIte, if_pos, if_neg, op_os, op_vIs, op_vLs, op_vRs, op_vNs, dI_at, dL_at, dI_2, dL_1, Nat.reduceEqDiff, Nat.reduceAdd, Nat.reduceMul, false_and, and_false, true_and, and_true, ne_eq, not_true_eq_false, not_false_eq_true, b2_z, b2_o, b2_n, b2_01, nar_b, nar_0, nar_1, Bool.false_eq_true, Bool.true_eq_false]; exact hc.2.2.2.2 p' hp'
    · have h' := mr_0 (v := nI 0) h
      have hm := h.1 i hi
      refine ⟨dI_ (dI_ D 351 0 (nI 0)) 354 i (nI p), ?_, mr_om hS h ⟨?_, ?_, ?_, fun p' l' hp' hl' => ?_, fun p' hp' => ?_⟩ (om_t (om_I (i := 0) (Or.inl ⟨rfl, rfl⟩)) (om_I (Or.inr (Or.inl ⟨Or.inr (Or.inr rfl), rfl⟩)))), lw_t (lw_I (by omega)) (lw_I (by omega))⟩
      · rw [e119_0, x116 hS h'.1, c1]
        simp (disch := omega) only [nI_add, pk_mul, nI_clamp, nI_leI, nI_ltI, nI_eq, inb_, iz1_, iz2_, iz3_, iz4_, iz5_, reduceIte, if_pos, if_neg, op_os, op_vIs, op_vLs, op_vRs, op_vNs, dI_at, dL_at, dI_2, dL_1, Nat.reduceEqDiff, Nat.reduceAdd, Nat.reduceMul, false_and, and_false, true_and, and_true, ne_eq, not_true_eq_false, not_false_eq_true, b2_z, b2_o, b2_n, b2_01, nar_b, nar_0, nar_1, Bool.false_eq_true, Bool.true_eq_false, hm.2.2.1]
      · simp (disch := omega) only [nI_add, pk_mul, nI_clamp, nI_leI, nI_ltI, nI_eq, inb_, iz1_, iz2_, iz3_, iz4_, iz5_, reduceIte, if_pos, if_neg, op_os, op_vIs, op_vLs, op_vRs, op_vNs, dI_at, dL_at, dI_2, dL_1, Nat.reduceEqDiff, Nat.reduceAdd, Nat.reduceMul, false_and, and_false, true_and, and_true, ne_eq, not_true_eq_false, not_false_eq_true, b2_z, b2_o, b2_n, b2_01, nar_b, nar_0, nar_1, Bool.false_eq_true, Bool.true_eq_false]; exact hm.1
      · simp (disch := omega) only [nI_add, pk_mul, nI_clamp, nI_leI, nI_ltI, nI_eq, inb_, iz1_, iz2_, iz3_, iz4_, iz5_, reduceIte, if_pos, if_neg, op_os, op_vIs, op_vLs, op_vRs, op_vNs, dI_at, dL_at, dI_2, dL_1, Nat.reduceEqDiff, Nat.reduceAdd, Nat.reduceMul, false_and, and_false, true_and, and_true, ne_eq, not_true_eq_false, not_false_eq_true, b2_z, b2_o, b2_n, b2_01, nar_b, nar_0, nar_1, Bool.false_eq_true, Bool.true_eq_false]; exact hm.2.1
      · simp (disch := omega) only [nI_add, pk_mul, nI_clamp, nI_leI, nI_ltI, nI_eq, inb_, iz1_, iz2_, iz3_, iz4_, iz5_, reduceIte, if_pos, if_neg, op_os, op_vIs, op_vLs, op_vRs, op_vNs, dI_at, dL_at, dI_2, dL_1, Nat.reduceEqDiff, Nat.reduceAdd, Nat.reduceMul, false_and, and_false, true_and, and_true, ne_eq, not_true_eq_false, not_false_eq_true, b2_z, b2_o, b2_n, b2_01, nar_b, nar_0, nar_1, Bool.false_eq_true, Bool.true_eq_false]
      · simp (disch := omega) only [nI_add, pk_mul, nI_clamp, nI_leI, nI_ltI, nI_eq, inb_, iz1_, iz2_, iz3_, iz4_, iz5_, reduceIte, if_pos, if_neg, op_os, op_vIs, op_vLs, op_vRs, op_vNs, dI_at, dL_at, dI_2, dL_1, Nat.reduceEqDiff, Nat.reduceAdd, Nat.reduceMul, false_and, and_false, true_and, and_true, ne_eq, not_true_eq_false, not_false_eq_true, b2_z, b2_o, b2_n, b2_01, nar_b, nar_0, nar_1, Bool.false_eq_true, Bool.true_eq_false]; exact hm.2.2.2.1 p' l' hp' hl'
      · simp (disch := omega) only [nI_add, pk_mul, nI_clamp, nI_leI, nI_ltI, nI_eq, inb_, iz1_, iz2_, iz3_, iz4_, iz5_, reduceIte, if_pos, if_neg, op_os, op_vIs, op_vLs, op_vRs, op_vNs, dI_at, dL_at, dI_2, dL_1, Nat.reduceEqDiff, Nat.reduceAdd, Nat.reduceMul, false_and, and_false, true_and, and_true, ne_eq, not_true_eq_false, not_false_eq_true, b2_z, b2_o, b2_n, b2_01, nar_b, nar_0, nar_1, Bool.false_eq_true, Bool.true_eq_false]; exact hm.2.2.2.2 p' hp'
  · refine bo_o (.int (-102)) hS (fun D h => ?_) (fun D h => ?_)
    · rw [e85_0, x108 hS h.1, bf_ c1]
      rfl
    · rw [e119_0, x116 hS (mr_0 h).1, bf_ c1]
      rfl
theorem bo_accept (hS : ok_ S) (s p : Int32) (on : Bool) : bo_ S B (fun D => k84_0 w (d + 200) s p (b2_ on) D) (fun D => k118_0 w (d + 200) s p (b2_ on) D) := by
  by_cases c1 : vs_ S s p = true
  · obtain ⟨i, p, rfl, rfl, hi, hp⟩ := vs_t hS c1
    obtain ⟨⟨⟨hk1, hk4⟩, hn1, hs, hwf⟩, hn⟩ := hS.1 i hi
    refine bo_i (.int (b2_ ((S.1 i).2.2.2.2 p))) (us_ S i ((S.1 i).1, (S.1 i).2.1, (S.1 i).2.2.1, (S.1 i).2.2.2.1, fun p' => if p' = p then on else (S.1 i).2.2.2.2 p')) (us_ok hS ⟨⟨hk1, hk4⟩, hn1, hs, hwf⟩ hn) (fun D h => ?_) (fun D h => ?_)
    · have hc := h.1 i hi
      refine ⟨dI_ D (3 + 3 * i + 2) p (b2_ on), ?_, rc_us h hi ⟨?_, ?_, ?_, fun p' l' hp' hl' => ?_, fun p' hp' => ?_⟩ (fun b hb => up_ne (f := D.1) (fun z => hb (Or.inl (by omega)))) (rsp_m (rsp_fr h.2.2.2.2 (up_ne (f := D.1) (by omega)) (up_ne (f := D.1) (by omega)) (up_ne (f := D.1) (by omega))) (by omega)), hi_I (by omega)⟩
      · rw [e84_0, x108 hS h.1, c1]
        simp (disch := omega) only [nI_add, pk_mul, nI_clamp, nI_leI, nI_ltI, nI_eq, inb_, iz1_, iz2_, iz3_, iz4_, iz5_, reduceIte, if_pos, if_neg, op_os, op_vIs, op_vLs, op_vRs, op_vNs, dI_at, dL_at, dI_2, dL_1, Nat.reduceEqDiff, Nat.reduceAdd, Nat.reduceMul, false_and, and_false, true_and, and_true, ne_eq, not_true_eq_false, not_false_eq_true, b2_z, b2_o, b2_n, b2_01, nar_b, nar_0, nar_1, Bool.false_eq_true, Bool.true_eq_false, sl1_, sl2_, sl3_, sl5_, hc.2.2.2.2 p hp, x105]
      · simp (disch := omega) only [nI_add, pk_mul, nI_clamp, nI_leI, nI_ltI, nI_eq, inb_, iz1_, iz2_, iz3_, iz4_, iz5_, reduceIte, if_pos, if_neg, op_os, op_vIs, op_vLs, op_vRs, op_vNs, dI_at, dL_at, dI_2, dL_1, Nat.reduceEqDiff, Nat.reduceAdd, Nat.reduceMul, false_and, and_false, true_and, and_true, ne_eq, not_true_eq_false, not_false_eq_true, b2_z, b2_o, b2_n, b2_01, nar_b, nar_0, nar_1, Bool.false_eq_true, Bool.true_eq_false]; exact hc.1
      · simp (disch := omega) only [nI_add, pk_mul, nI_clamp, nI_leI, nI_ltI, nI_eq, inb_, iz1_, iz2_, iz3_, iz4_, iz5_, reduceIte, if_pos, if_neg, op_os, op_vIs, op_vLs, op_vRs, op_vNs, dI_at, dL_at, dI_2, dL_1, Nat.reduceEqDiff, Nat.reduceAdd, Nat.reduceMul, false_and, and_false, true_and, and_true, ne_eq, not_true_eq_false, not_false_eq_true, b2_z, b2_o, b2_n, b2_01, nar_b, nar_0, nar_1, Bool.false_eq_true, Bool.true_eq_false]; exact hc.2.1
      · simp (disch := omega) only [nI_add, pk_mul, nI_clamp, nI_leI, nI_ltI, nI_eq, inb_, iz1_, iz2_, iz3_, iz4_, iz5_, reduceIte, if_pos, if_neg, op_os, op_vIs, op_vLs, op_vRs, op_vNs, dI_at, dL_at, dI_2, dL_1, Nat.reduceEqDiff, Nat.reduceAdd, Nat.reduceMul, false_and, and_false, true_and, and_true, ne_eq, not_true_eq_false, not_false_eq_true, b2_z, b2_o, b2_n, b2_01, nar_b, nar_0, nar_1, Bool.false_eq_true, Bool.true_eq_false]; exact hc.2.2.1
      · simp (disch := omega) only [nI_add, pk_mul, nI_clamp, nI_leI, nI_ltI, nI_eq, inb_, iz1_, iz2_, iz3_, iz4_, iz5_, reduceIte, if_pos, if_neg, op_os, op_vIs, op_vLs, op_vRs, op_vNs, dI_at, dL_at, dI_2, dL_1, Nat.reduceEqDiff, Nat.reduceAdd, Nat.reduceMul, false_and, and_false, true_and, and_true, ne_eq, not_true_eq_false, not_false_eq_true, b2_z, b2_o, b2_n, b2_01, nar_b, nar_0, nar_1, Bool.false_eq_true, Bool.true_eq_false]; exact hc.2.2.2.1 p' l' hp' hl'
      · simp (disch := omega) only [nI_add, pk_mul, nI_clamp, nI_leI, nI_ltI, nI_eq, inb_, iz1_, iz2_, iz3_, iz4_, iz5_, reduceIte, op_os, op_vIs, op_vLs, op_vRs, op_vNs, dI_at, dL_at, dI_2, dL_1, Nat.reduceEqDiff, Nat.reduceAdd, Nat.reduceMul, false_and, and_false, true_and, and_true, ne_eq, not_true_eq_false, not_false_eq_true, b2_z, b2_o, b2_n, b2_01, nar_b, nar_0, nar_1, Bool.false_eq_true, Bool.true_eq_false]
        by_cases e : p' = p
        · rw [if_pos e, if_pos e]
        · rw [if_neg e, if_neg e]
          exact hc.2.2.2.2 p' hp'
    · have h' := mr_0 (v := nI 0) h
      have hm := h.1 i hi
      have hm' := h'.1 i hi
      refine ⟨dI_ (dI_ D 351 0 (nI 0)) 356 (60 * i + p) (b2_ on), ?_, mr_om hS h ⟨?_, ?_, ?_, fun p' l' hp' hl' => ?_, fun p' hp' => ?_⟩ (om_t (om_I (i := 0) (Or.inl ⟨rfl, rfl⟩)) (om_I (Or.inr (Or.inr (Or.inr ⟨rfl, by omega, by omega⟩))))), lw_t (lw_I (by omega)) (lw_I (by omega))⟩
      · rw [e118_0, x116 hS h'.1, c1]
        simp (disch := omega) only [nI_add, pk_mul, nI_clamp, nI_leI, nI_ltI, nI_eq, inb_, iz1_, iz2_, iz3_, iz4_, iz5_, reduceIte, if_pos, if_neg, op_os, op_vIs, op_vLs, op_vRs, op_vNs, dI_at, dL_at, dI_2, dL_1, Nat.reduceEqDiff, Nat.reduceAdd, Nat.reduceMul, false_and, and_false, true_and, and_true, ne_eq, not_true_eq_false, not_false_eq_true, b2_z, b2_o, b2_n, b2_01, nar_b, nar_0, nar_1, Bool.false_eq_true, Bool.true_eq_false, x113 (show i < 110 by omega) ⟨hn, hk4⟩ hm' hp, e118_31]
        cases (S.1 i).2.2.2.2 p <;> rfl
      · simp (disch := omega) only [nI_add, pk_mul, nI_clamp, nI_leI, nI_ltI, nI_eq, inb_, iz1_, iz2_, iz3_, iz4_, iz5_, reduceIte, if_pos, if_neg, op_os, op_vIs, op_vLs, op_vRs, op_vNs, dI_at, dL_at, dI_2, dL_1, Nat.reduceEqDiff, Nat.reduceAdd, Nat.reduceMul, false_and, and_false, true_and, and_true, ne_eq, not_true_eq_false, not_false_eq_true, b2_z, b2_o, b2_n, b2_01, nar_b, nar_0, nar_1, Bool.false_eq_true, Bool.true_eq_false]; exact hm.1
      · simp (disch := omega) only [nI_add, pk_mul, nI_clamp, nI_leI, nI_ltI, nI_eq, inb_, iz1_, iz2_, iz3_, iz4_, iz5_, reduceIte, if_pos, if_neg, op_os, op_vIs, op_vLs, op_vRs, op_vNs, dI_at, dL_at, dI_2, dL_1, Nat.reduceEqDiff, Nat.reduceAdd, Nat.reduceMul, false_and, and_false, true_and, and_true, ne_eq, not_true_eq_false, not_false_eq_true, b2_z, b2_o, b2_n, b2_01, nar_b, nar_0, nar_1, Bool.false_eq_true, Bool.true_eq_false]; exact hm.2.1
      · simp (disch := omega) only [nI_add, pk_mul, nI_clamp, nI_leI, nI_ltI, nI_eq, inb_, iz1_, iz2_, iz3_, iz4_, iz5_, reduceIte, if_pos, if_neg, op_os, op_vIs, op_vLs, op_vRs, op_vNs, dI_at, dL_at, dI_2, dL_1, Nat.reduceEqDiff, Nat.reduceAdd, Nat.reduceMul, false_and, and_false, true_and, and_true, ne_eq, not_true_eq_false, not_false_eq_true, b2_z, b2_o, b2_n, b2_01, nar_b, nar_0, nar_1, Bool.false_eq_true, Bool.true_eq_false]; exact hm.2.2.1
      · simp (disch := omega) only [nI_add, pk_mul, nI_clamp, nI_leI, nI_ltI, nI_eq, inb_, iz1_, iz2_, iz3_, iz4_, iz5_, reduceIte, if_pos, if_neg, op_os, op_vIs, op_vLs, op_vRs, op_vNs, dI_at, dL_at, dI_2, dL_1, Nat.reduceEqDiff, Nat.reduceAdd, Nat.reduceMul, false_and, and_false, true_and, and_true, ne_eq, not_true_eq_false, not_false_eq_true, b2_z, b2_o, b2_n, b2_01, nar_b, nar_0, nar_1, Bool.false_eq_true, Bool.true_eq_false]; exact hm.2.2.2.1 p' l' hp' hl'
      · simp (disch := omega) only [nI_add, pk_mul, nI_clamp, nI_leI, nI_ltI, nI_eq, inb_, iz1_, iz2_, iz3_, iz4_, iz5_, reduceIte, op_os, op_vIs, op_vLs, op_vRs, op_vNs, dI_at, dL_at, dI_2, dL_1, Nat.reduceEqDiff, Nat.reduceAdd, Nat.reduceMul, false_and, and_false, true_and, and_true, ne_eq, not_true_eq_false, not_false_eq_true, b2_z, b2_o, b2_n, b2_01, nar_b, nar_0, nar_1, Bool.false_eq_true, Bool.true_eq_false]
        by_cases e : p' = p
        · rw [if_pos (by omega), if_pos e]
        · rw [if_neg (by omega), if_neg e]
          exact hm.2.2.2.2 p' hp'
  · refine bo_o (.int (-102)) hS (fun D h => ?_) (fun D h => ?_)
    · rw [e84_0, x108 hS h.1, bf_ c1]
      rfl
    · rw [e118_0, x116 hS (mr_0 h).1, bf_ c1]
      rfl
theorem bo_to (hS : ok_ S) (s p l : Int32) : bo_ S B (fun D => k87_0 w (d + 200) s p l D) (fun D => k121_0 w (d + 200) s p l D) := by
  by_cases c1 : vs_ S s p = true
  · obtain ⟨i, p, rfl, rfl, hi, hp⟩ := vs_t hS c1
    obtain ⟨⟨⟨hk1, hk4⟩, hn1, hs, hwf⟩, hn⟩ := hS.1 i hi
    have hin : ∀ D, k111_0 w (d + 199) l.toInt64 (-1) (nI ((S.1 i).1) - nI 1).toInt64 D = some (some (.int (b2_ (decide (l = -1) || ls_ ((S.1 i).1) l))), D) := by
      intro D
      rw [show (-1 : Int64) = (-1 : Int32).toInt64 from rfl, x111, pk_sub hk1]
      refine congrArg (fun z => some (some (Value.int (b2_ z)), D)) ?_
      rw [Bool.eq_iff_iff, Bool.or_eq_true, decide_eq_true_iff, decide_eq_true_iff]
      rcases pk_ix l (show (S.1 i).1 < 2 ^ 31 by omega) with q | q | ⟨j, hj, rfl⟩
      · have e2 : ls_ ((S.1 i).1) l = false := decide_eq_false (not_not_intro (Or.inl q))
        rw [e2]
        have e3 : ¬ nI ((S.1 i).1 - 1) < l := fun z => nI_pos (n := (S.1 i).1 - 1) (by omega) (Int32.lt_trans z q)
        constructor
        · intro z
          refine Or.inl ?_
          have z1 : ¬ l < -1 := fun y => z (Or.inl y)
          rw [Int32.lt_iff_toInt_lt] at z1 q
          have q' : l.toInt < 0 := q
          have z1' : ¬ l.toInt < -1 := z1
          exact Int32.toInt_inj.mp (show l.toInt = -1 by omega)
        · rintro (rfl | z)
          · rintro (y | y)
            · exact absurd y (by decide)
            · exact e3 y
          · exact absurd z (by decide)
      · have e2 : ls_ ((S.1 i).1) l = false := decide_eq_false (not_not_intro (Or.inr q))
        rw [e2]
        constructor
        · intro z
          exact absurd (Or.inr (Int32.lt_of_lt_of_le (nI_lt (show (S.1 i).1 - 1 < (S.1 i).1 by omega) (by omega)) q)) z
        · rintro (rfl | z)
          · exact absurd (Int32.le_trans (nI_pos' (n := (S.1 i).1) (by omega)) q) (by decide)
          · exact absurd z (by decide)
      · rw [ls_n hj (by omega)]
        refine ⟨fun _ => Or.inr rfl, fun _ => ?_⟩
        rintro (y | y)
        · exact absurd (Int32.lt_trans y (show (-1 : Int32) < 0 by decide)) (nI_pos (by omega))
        · exact absurd ((nI_ltI (by omega) (by omega)).mp y) (by omega)
    by_cases c2 : l = -1
    · subst c2
      refine bo_o (.int (b2_ ((S.1 i).2.2.2.2 p))) hS (fun D h => ?_) (fun D h => ?_)
      · have hc := h.1 i hi
        rw [e87_0, x108 hS h.1, c1]
        simp (disch := omega) only [nI_add, pk_mul, nI_clamp, nI_leI, nI_ltI, nI_eq, inb_, iz1_, iz2_, iz3_, iz4_, iz5_, reduceIte, if_pos, if_neg, op_os, op_vIs, op_vLs, op_vRs, op_vNs, dI_at, dL_at, dI_2, dL_1, Nat.reduceEqDiff, Nat.reduceAdd, Nat.reduceMul, false_and, and_false, true_and, and_true, ne_eq, not_true_eq_false, not_false_eq_true, b2_z, b2_o, b2_n, b2_01, nar_b, nar_0, nar_1, Bool.false_eq_true, Bool.true_eq_false, sl1_, sl2_, sl3_, sl5_, hc.2.2.2.2 p hp, x105]
      · have h' := mr_0 (v := nI 0) h
        have hm := h.1 i hi
        have hm' := h'.1 i hi
        rw [e121_0, x116 hS h'.1, c1]
        simp (disch := omega) only [nI_add, pk_mul, nI_clamp, nI_leI, nI_ltI, nI_eq, inb_, iz1_, iz2_, iz3_, iz4_, iz5_, reduceIte, if_pos, if_neg, op_os, op_vIs, op_vLs, op_vRs, op_vNs, dI_at, dL_at, dI_2, dL_1, Nat.reduceEqDiff, Nat.reduceAdd, Nat.reduceMul, false_and, and_false, true_and, and_true, ne_eq, not_true_eq_false, not_false_eq_true, b2_z, b2_o, b2_n, b2_01, nar_b, nar_0, nar_1, Bool.false_eq_true, Bool.true_eq_false, hm.1, hin, x113 (show i < 110 by omega) ⟨hn, hk4⟩ hm' hp, Bool.or_eq_true, decide_true, Bool.true_or]
        cases (S.1 i).2.2.2.2 p <;> rfl
    · by_cases c3 : ls_ ((S.1 i).1) l = true
      · obtain ⟨l, rfl, hl⟩ := ls_t (by omega) c3
        refine bo_o (.int (nI ((S.1 i).2.2.2.1 p l))) hS (fun D h => ?_) (fun D h => ?_)
        · have hc := h.1 i hi
          rw [e87_0, x108 hS h.1, c1]
          simp (disch := omega) only [nI_add, pk_mul, nI_clamp, nI_leI, nI_ltI, nI_eq, inb_, iz1_, iz2_, iz3_, iz4_, iz5_, reduceIte, if_pos, if_neg, op_os, op_vIs, op_vLs, op_vRs, op_vNs, dI_at, dL_at, dI_2, dL_1, Nat.reduceEqDiff, Nat.reduceAdd, Nat.reduceMul, false_and, and_false, true_and, and_true, ne_eq, not_true_eq_false, not_false_eq_true, b2_z, b2_o, b2_n, b2_01, nar_b, nar_0, nar_1, Bool.false_eq_true, Bool.true_eq_false, sl1_, sl2_, cx8 (sl_ hi).2 hc, c3]
          rw [cx9 (sl_ hi).2 hc (by rw [sl4_ hi]; exact hn) hk4 hp hl]
          simp (disch := omega) only [nI_add, pk_mul, nI_clamp, nI_leI, nI_ltI, nI_eq, inb_, iz1_, iz2_, iz3_, iz4_, iz5_, reduceIte, if_pos, if_neg, op_os, op_vIs, op_vLs, op_vRs, op_vNs, dI_at, dL_at, dI_2, dL_1, Nat.reduceEqDiff, Nat.reduceAdd, Nat.reduceMul, false_and, and_false, true_and, and_true, ne_eq, not_true_eq_false, not_false_eq_true, b2_z, b2_o, b2_n, b2_01, nar_b, nar_0, nar_1, Bool.false_eq_true, Bool.true_eq_false]
        · have h' := mr_0 (v := nI 0) h
          have hm := h.1 i hi
          have hm' := h'.1 i hi
          rw [e121_0, x116 hS h'.1, c1]
          simp (disch := omega) only [nI_add, pk_mul, nI_clamp, nI_leI, nI_ltI, nI_eq, inb_, iz1_, iz2_, iz3_, iz4_, iz5_, reduceIte, if_pos, if_neg, op_os, op_vIs, op_vLs, op_vRs, op_vNs, dI_at, dL_at, dI_2, dL_1, Nat.reduceEqDiff, Nat.reduceAdd, Nat.reduceMul, false_and, and_false, true_and, and_true, ne_eq, not_true_eq_false, not_false_eq_true, b2_z, b2_o, b2_n, b2_01, nar_b, nar_0, nar_1, Bool.false_eq_true, Bool.true_eq_false, hm.1, hin, c3, Bool.or_true, x112 (show i < 110 by omega) ⟨hn, hk4⟩ hm' hp hl]
      · refine bo_o (.int (-102)) hS (fun D h => ?_) (fun D h => ?_)
        · have hc := h.1 i hi
          rw [e87_0, x108 hS h.1, c1]
          simp (disch := omega) only [nI_add, pk_mul, nI_clamp, nI_leI, nI_ltI, nI_eq, inb_, iz1_, iz2_, iz3_, iz4_, iz5_, reduceIte, if_pos, if_neg, op_os, op_vIs, op_vLs, op_vRs, op_vNs, dI_at, dL_at, dI_2, dL_1, Nat.reduceEqDiff, Nat.reduceAdd, Nat.reduceMul, false_and, and_false, true_and, and_true, ne_eq, not_true_eq_false, not_false_eq_true, b2_z, b2_o, b2_n, b2_01, nar_b, nar_0, nar_1, Bool.false_eq_true, Bool.true_eq_false, sl1_, sl2_, cx8 (sl_ hi).2 hc, bf_ c3, c2]
        · have h' := mr_0 (v := nI 0) h
          have hm := h.1 i hi
          rw [e121_0, x116 hS h'.1, c1]
          simp (disch := omega) only [nI_add, pk_mul, nI_clamp, nI_leI, nI_ltI, nI_eq, inb_, iz1_, iz2_, iz3_, iz4_, iz5_, reduceIte, if_pos, if_neg, op_os, op_vIs, op_vLs, op_vRs, op_vNs, dI_at, dL_at, dI_2, dL_1, Nat.reduceEqDiff, Nat.reduceAdd, Nat.reduceMul, false_and, and_false, true_and, and_true, ne_eq, not_true_eq_false, not_false_eq_true, b2_z, b2_o, b2_n, b2_01, nar_b, nar_0, nar_1, Bool.false_eq_true, Bool.true_eq_false, hm.1, hin, bf_ c3, c2, Bool.or_false, decide_false]
  · refine bo_o (.int (-102)) hS (fun D h => ?_) (fun D h => ?_)
    · rw [e87_0, x108 hS h.1, bf_ c1]
      rfl
    · rw [e121_0, x116 hS (mr_0 h).1, bf_ c1]
      rfl
end PUB
