/-! mapping, the reference and the call -/
def yh_ (Q : ma_) (c : Nat) (f : Nat → Nat → Nat) (D : dy_) : Prop := D.1 351 47 = nI c ∧ (D.1 351 48 = nI (Q.2.1) ∧ D.1 351 49 = nI (Q.1)) ∧ (∀ i p, i < c → p < Q.2.1 → D.1 384 (60 * i + p) = nI (f i p)) ∧ ∀ l p, l < Q.1 → p < Q.2.1 → D.1 385 (60 * l + p) = nI (Q.2.2.2.1 p l)
theorem qd_s (f : Nat → Nat) (n : Nat) (h : f n < 64) : qd_ (n + 1) f = qd_ n f + if (orf_ (fun p => 2 ^ f p) n).testBit (f n) then 0 else 1 := by
  unfold qd_
  exact pcr_or 8 _ _ (by omega)
theorem pcr_0 : ∀ k, pcr_ k 0 = 0
  | 0 => rfl
  | k + 1 => by
    show pc8_ (0 % 256) + pcr_ k (0 / 256) = 0
    rw [show 0 / 256 = 0 from rfl, pcr_0 k]
    rfl
theorem qd_0 (f : Nat → Nat) : qd_ 0 f = 0 := pcr_0 8
theorem qd_le (f : Nat → Nat) (n : Nat) (h : ∀ p, p < n → f p < 64) : qd_ n f ≤ n := by
  induction n with
  | zero => rw [qd_0]; exact Nat.le_refl _
  | succ n ih =>
    have := ih fun p hp => h p (by omega)
    rw [qd_s f n (h n (by omega))]
    cases (orf_ (fun p => 2 ^ f p) n).testBit (f n)
    · rw [if_neg (by decide)]; omega
    · rw [if_pos rfl]; omega
section RMAP
variable {w : (Nat → Int32) × Nat} {d : Nat} {D : dy_} {Q : ma_} {S : sp_} {B0 c : Nat} {f : Nat → Nat → Nat}
theorem x179 {i : Nat} (h : yh_ Q c f D) (hc : c ≤ 400) (hn : Q.2.1 ≤ 60) (hf : ∀ i p, i < c → p < Q.2.1 → f i p < Q.2.1) (hi : i < c) : k179_0 w (d + 1) (nI i) D = some (some (.int (b2_ (qi_ (Q.2.1) (f i)))), D) := by
  rw [e179_0]
  have := lq_ (fun p (x : Bool) => k179_4 w (d + 1) (nI i) (b2_ x) (nI p) D) (fun p => aln_ (fun p => decide (f i (f i p) = f i p)) p) (Q.2.1) (by
    intro p hp
    have b1 := hf i p hi hp
    have b2 := hf i _ hi b1
    show k179_4 w (d + 1) (nI i) (b2_ (aln_ (fun p => decide (f i (f i p) = f i p)) p)) (nI p) D = k179_4 w (d + 1) (nI i) (b2_ (aln_ (fun p => decide (f i (f i p) = f i p)) p && decide (f i (f i p) = f i p))) (nI (p + 1)) D
    rw [e179_4]
    cases aln_ (fun p => decide (f i (f i p) = f i p)) p with
    | false =>
      simp (disch := omega) only [nI_add, pk_mul, nI_clamp, nI_leI, nI_ltI, nI_eq, inb_, iz1_, iz2_, iz3_, iz4_, iz5_, reduceIte, if_pos, if_neg, op_os, op_vIs, op_vLs, op_vRs, op_vNs, dI_at, dL_at, dI_2, dL_1, Nat.reduceEqDiff, Nat.reduceAdd, Nat.reduceMul, false_and, and_false, true_and, and_true, ne_eq, not_true_eq_false, not_false_eq_true, b2_z, b2_o, b2_n, b2_01, nar_b, nar_0, nar_1, Bool.false_eq_true, Bool.true_eq_false, h.2.1.1, e179_50, e179_51]
      rfl
    | true =>
      by_cases z : f i (f i p) = f i p
      · rw [decide_eq_true z]
        simp (disch := omega) only [nI_add, pk_mul, nI_clamp, nI_leI, nI_ltI, nI_eq, inb_, iz1_, iz2_, iz3_, iz4_, iz5_, reduceIte, if_pos, if_neg, op_os, op_vIs, op_vLs, op_vRs, op_vNs, dI_at, dL_at, dI_2, dL_1, Nat.reduceEqDiff, Nat.reduceAdd, Nat.reduceMul, false_and, and_false, true_and, and_true, ne_eq, not_true_eq_false, not_false_eq_true, b2_z, b2_o, b2_n, b2_01, nar_b, nar_0, nar_1, Bool.false_eq_true, Bool.true_eq_false, h.2.1.1, h.2.2.1 i p hi hp, h.2.2.1 i _ hi b1, z, e179_51]
        rfl
      · rw [decide_eq_false z]
        simp (disch := omega) only [nI_add, pk_mul, nI_clamp, nI_leI, nI_ltI, nI_eq, inb_, iz1_, iz2_, iz3_, iz4_, iz5_, reduceIte, if_pos, if_neg, op_os, op_vIs, op_vLs, op_vRs, op_vNs, dI_at, dL_at, dI_2, dL_1, Nat.reduceEqDiff, Nat.reduceAdd, Nat.reduceMul, false_and, and_false, true_and, and_true, ne_eq, not_true_eq_false, not_false_eq_true, b2_z, b2_o, b2_n, b2_01, nar_b, nar_0, nar_1, Bool.false_eq_true, Bool.true_eq_false, h.2.1.1, h.2.2.1 i p hi hp, h.2.2.1 i _ hi b1, e179_50, e179_51]
        rfl)
  refine Eq.trans (show _ = k179_4 w (d + 1) (nI i) (b2_ (qi_ (Q.2.1) (f i))) (nI (Q.2.1)) D from this) ?_
  rw [e179_4]
  simp (disch := omega) only [nI_add, pk_mul, nI_clamp, nI_leI, nI_ltI, nI_eq, inb_, iz1_, iz2_, iz3_, iz4_, iz5_, reduceIte, if_pos, if_neg, op_os, op_vIs, op_vLs, op_vRs, op_vNs, dI_at, dL_at, dI_2, dL_1, Nat.reduceEqDiff, Nat.reduceAdd, Nat.reduceMul, false_and, and_false, true_and, and_true, ne_eq, not_true_eq_false, not_false_eq_true, b2_z, b2_o, b2_n, b2_01, nar_b, nar_0, nar_1, Bool.false_eq_true, Bool.true_eq_false, h.2.1.1, Nat.le_refl]
theorem x180 {i : Nat} (h : yh_ Q c f D) (hc : c ≤ 400) (hn : Q.2.1 ≤ 60) (hf : ∀ i p, i < c → p < Q.2.1 → f i p < Q.2.1) (hi : i < c) : k180_0 w (d + 1) (nI i) D = some (some (.int (b2_ (qs1_ (Q.2.1) (f i)))), D) := by
  have hfi := fun p hp => hf i p hi hp
  rw [e180_0]
  have := lq_ (fun p (x : Bool) => k180_4 w (d + 1) (nI i) (b2_ x) (nI p) D) (fun p => aln_ (fun p => decide (f i (itr_ (f i) 60 p) = itr_ (f i) 60 p)) p) (Q.2.1) (by
    intro p hp
    have b1 := itr_lt hfi hp 60
    have b2 := hfi _ b1
    show k180_4 w (d + 1) (nI i) (b2_ (aln_ (fun p => decide (f i (itr_ (f i) 60 p) = itr_ (f i) 60 p)) p)) (nI p) D = k180_4 w (d + 1) (nI i) (b2_ (aln_ (fun p => decide (f i (itr_ (f i) 60 p) = itr_ (f i) 60 p)) p && decide (f i (itr_ (f i) 60 p) = itr_ (f i) 60 p))) (nI (p + 1)) D
    generalize aln_ (fun p => decide (f i (itr_ (f i) 60 p) = itr_ (f i) 60 p)) p = x
    have l2 := lq_ (fun t (q : Nat) => k180_18 w (d + 1) (nI i) (b2_ x) (nI p) (nI q) (nI t) D) (fun t => itr_ (f i) t p) 60 (by
      intro t ht
      have b3 := itr_lt hfi hp t
      show k180_18 w (d + 1) (nI i) (b2_ x) (nI p) (nI (itr_ (f i) t p)) (nI t) D = k180_18 w (d + 1) (nI i) (b2_ x) (nI p) (nI (f i (itr_ (f i) t p))) (nI (t + 1)) D
      rw [e180_18]
      simp (disch := omega) only [nI_add, pk_mul, nI_clamp, nI_leI, nI_ltI, nI_eq, inb_, iz1_, iz2_, iz3_, iz4_, iz5_, reduceIte, if_pos, if_neg, op_os, op_vIs, op_vLs, op_vRs, op_vNs, dI_at, dL_at, dI_2, dL_1, Nat.reduceEqDiff, Nat.reduceAdd, Nat.reduceMul, false_and, and_false, true_and, and_true, ne_eq, not_true_eq_false, not_false_eq_true, b2_z, b2_o, b2_n, b2_01, nar_b, nar_0, nar_1, Bool.false_eq_true, Bool.true_eq_false, h.2.2.1 i _ hi b3])
    rw [e180_4]
    simp (disch := omega) only [nI_add, pk_mul, nI_clamp, nI_leI, nI_ltI, nI_eq, inb_, iz1_, iz2_, iz3_, iz4_, iz5_, reduceIte, if_pos, if_neg, op_os, op_vIs, op_vLs, op_vRs, op_vNs, dI_at, dL_at, dI_2, dL_1, Nat.reduceEqDiff, Nat.reduceAdd, Nat.reduceMul, false_and, and_false, true_and, and_true, ne_eq, not_true_eq_false, not_false_eq_true, b2_z, b2_o, b2_n, b2_01, nar_b, nar_0, nar_1, Bool.false_eq_true, Bool.true_eq_false, h.2.1.1]
    refine Eq.trans (show _ = k180_18 w (d + 1) (nI i) (b2_ x) (nI p) (nI (itr_ (f i) 60 p)) (nI 60) D from l2) ?_
    rw [e180_18]
    cases x with
    | false =>
      simp (disch := omega) only [nI_add, pk_mul, nI_clamp, nI_leI, nI_ltI, nI_eq, inb_, iz1_, iz2_, iz3_, iz4_, iz5_, reduceIte, if_pos, if_neg, op_os, op_vIs, op_vLs, op_vRs, op_vNs, dI_at, dL_at, dI_2, dL_1, Nat.reduceEqDiff, Nat.reduceAdd, Nat.reduceMul, false_and, and_false, true_and, and_true, ne_eq, not_true_eq_false, not_false_eq_true, b2_z, b2_o, b2_n, b2_01, nar_b, nar_0, nar_1, Bool.false_eq_true, Bool.true_eq_false, Nat.le_refl, e180_70, e180_71]
      rfl
    | true =>
      by_cases z : f i (itr_ (f i) 60 p) = itr_ (f i) 60 p
      · rw [decide_eq_true z]
        simp (disch := omega) only [nI_add, pk_mul, nI_clamp, nI_leI, nI_ltI, nI_eq, inb_, iz1_, iz2_, iz3_, iz4_, iz5_, reduceIte, if_pos, if_neg, op_os, op_vIs, op_vLs, op_vRs, op_vNs, dI_at, dL_at, dI_2, dL_1, Nat.reduceEqDiff, Nat.reduceAdd, Nat.reduceMul, false_and, and_false, true_and, and_true, ne_eq, not_true_eq_false, not_false_eq_true, b2_z, b2_o, b2_n, b2_01, nar_b, nar_0, nar_1, Bool.false_eq_true, Bool.true_eq_false, Nat.le_refl, h.2.2.1 i _ hi b1, z, e180_71]
        rfl
      · rw [decide_eq_false z]
        simp (disch := omega) only [nI_add, pk_mul, nI_clamp, nI_leI, nI_ltI, nI_eq, inb_, iz1_, iz2_, iz3_, iz4_, iz5_, reduceIte, if_pos, if_neg, op_os, op_vIs, op_vLs, op_vRs, op_vNs, dI_at, dL_at, dI_2, dL_1, Nat.reduceEqDiff, Nat.reduceAdd, Nat.reduceMul, false_and, and_false, true_and, and_true, ne_eq, not_true_eq_false, not_false_eq_true, b2_z, b2_o, b2_n, b2_01, nar_b, nar_0, nar_1, Bool.false_eq_true, Bool.true_eq_false, Nat.le_refl, h.2.2.1 i _ hi b1, e180_70, e180_71]
        rfl)
  refine Eq.trans (show _ = k180_4 w (d + 1) (nI i) (b2_ (qs1_ (Q.2.1) (f i))) (nI (Q.2.1)) D from this) ?_
  rw [e180_4]
  simp (disch := omega) only [nI_add, pk_mul, nI_clamp, nI_leI, nI_ltI, nI_eq, inb_, iz1_, iz2_, iz3_, iz4_, iz5_, reduceIte, if_pos, if_neg, op_os, op_vIs, op_vLs, op_vRs, op_vNs, dI_at, dL_at, dI_2, dL_1, Nat.reduceEqDiff, Nat.reduceAdd, Nat.reduceMul, false_and, and_false, true_and, and_true, ne_eq, not_true_eq_false, not_false_eq_true, b2_z, b2_o, b2_n, b2_01, nar_b, nar_0, nar_1, Bool.false_eq_true, Bool.true_eq_false, h.2.1.1, Nat.le_refl]
theorem x181 (hQ : wm_ Q) (h : yh_ Q c f D) (hn : Q.2.1 ≤ 60) : k181_0 w (d + 1) D = some (some (.int (b2_ (qc_ Q))), D) := by
  have hk := hQ.1
  rw [e181_0]
  have l1 := lq_ (fun l (x : Bool) => k181_4 w (d + 1) (b2_ x) (nI l) D) (fun l => aln_ (fun l => aln_ (fun h => aln_ (fun p => decide (Q.2.2.2.1 (Q.2.2.2.1 p l) h = Q.2.2.2.1 (Q.2.2.2.1 p h) l)) (Q.2.1)) (Q.1)) l) (Q.1) (by
    intro l hl
    show k181_4 w (d + 1) (b2_ (aln_ (fun l => aln_ (fun h => aln_ (fun p => decide (Q.2.2.2.1 (Q.2.2.2.1 p l) h = Q.2.2.2.1 (Q.2.2.2.1 p h) l)) (Q.2.1)) (Q.1)) l)) (nI l) D = k181_4 w (d + 1) (b2_ (aln_ (fun l => aln_ (fun h => aln_ (fun p => decide (Q.2.2.2.1 (Q.2.2.2.1 p l) h = Q.2.2.2.1 (Q.2.2.2.1 p h) l)) (Q.2.1)) (Q.1)) l && aln_ (fun h => aln_ (fun p => decide (Q.2.2.2.1 (Q.2.2.2.1 p l) h = Q.2.2.2.1 (Q.2.2.2.1 p h) l)) (Q.2.1)) (Q.1))) (nI (l + 1)) D
    generalize aln_ (fun l => aln_ (fun h => aln_ (fun p => decide (Q.2.2.2.1 (Q.2.2.2.1 p l) h = Q.2.2.2.1 (Q.2.2.2.1 p h) l)) (Q.2.1)) (Q.1)) l = x
    have l2 := lq_ (fun r (y : Bool) => k181_14 w (d + 1) (b2_ y) (nI l) (nI r) D) (fun r => x && aln_ (fun h => aln_ (fun p => decide (Q.2.2.2.1 (Q.2.2.2.1 p l) h = Q.2.2.2.1 (Q.2.2.2.1 p h) l)) (Q.2.1)) r) (Q.1) (by
      intro r hr
      show k181_14 w (d + 1) (b2_ (x && aln_ (fun h => aln_ (fun p => decide (Q.2.2.2.1 (Q.2.2.2.1 p l) h = Q.2.2.2.1 (Q.2.2.2.1 p h) l)) (Q.2.1)) r)) (nI l) (nI r) D = k181_14 w (d + 1) (b2_ (x && (aln_ (fun h => aln_ (fun p => decide (Q.2.2.2.1 (Q.2.2.2.1 p l) h = Q.2.2.2.1 (Q.2.2.2.1 p h) l)) (Q.2.1)) r && aln_ (fun p => decide (Q.2.2.2.1 (Q.2.2.2.1 p l) r = Q.2.2.2.1 (Q.2.2.2.1 p r) l)) (Q.2.1)))) (nI l) (nI (r + 1)) D
      rw [← Bool.and_assoc]
      generalize (x && aln_ (fun h => aln_ (fun p => decide (Q.2.2.2.1 (Q.2.2.2.1 p l) h = Q.2.2.2.1 (Q.2.2.2.1 p h) l)) (Q.2.1)) r) = y
      have l3 := lq_ (fun p (z : Bool) => k181_25 w (d + 1) (b2_ z) (nI l) (nI r) (nI p) D) (fun p => y && aln_ (fun p => decide (Q.2.2.2.1 (Q.2.2.2.1 p l) r = Q.2.2.2.1 (Q.2.2.2.1 p r) l)) p) (Q.2.1) (by
        intro p hp
        have b1 := hQ.2.2.2 p l hp hl
        have b2 := hQ.2.2.2 p r hp hr
        have b3 := hQ.2.2.2 _ r b1 hr
        have b4 := hQ.2.2.2 _ l b2 hl
        show k181_25 w (d + 1) (b2_ (y && aln_ (fun p => decide (Q.2.2.2.1 (Q.2.2.2.1 p l) r = Q.2.2.2.1 (Q.2.2.2.1 p r) l)) p)) (nI l) (nI r) (nI p) D = k181_25 w (d + 1) (b2_ (y && (aln_ (fun p => decide (Q.2.2.2.1 (Q.2.2.2.1 p l) r = Q.2.2.2.1 (Q.2.2.2.1 p r) l)) p && decide (Q.2.2.2.1 (Q.2.2.2.1 p l) r = Q.2.2.2.1 (Q.2.2.2.1 p r) l)))) (nI l) (nI r) (nI (p + 1)) D
        rw [← Bool.and_assoc, e181_25]
        cases (y && aln_ (fun p => decide (Q.2.2.2.1 (Q.2.2.2.1 p l) r = Q.2.2.2.1 (Q.2.2.2.1 p r) l)) p) with
        | false =>
          simp (disch := omega) only [nI_add, pk_mul, nI_clamp, nI_leI, nI_ltI, nI_eq, inb_, iz1_, iz2_, iz3_, iz4_, iz5_, reduceIte, if_pos, if_neg, op_os, op_vIs, op_vLs, op_vRs, op_vNs, dI_at, dL_at, dI_2, dL_1, Nat.reduceEqDiff, Nat.reduceAdd, Nat.reduceMul, false_and, and_false, true_and, and_true, ne_eq, not_true_eq_false, not_false_eq_true, b2_z, b2_o, b2_n, b2_01, nar_b, nar_0, nar_1, Bool.false_eq_true, Bool.true_eq_false, h.2.1.1, e181_89, e181_90]
          rfl
        | true =>
          by_cases z : Q.2.2.2.1 (Q.2.2.2.1 p l) r = Q.2.2.2.1 (Q.2.2.2.1 p r) l
          · rw [decide_eq_true z]
            simp (disch := omega) only [nI_add, pk_mul, nI_clamp, nI_leI, nI_ltI, nI_eq, inb_, iz1_, iz2_, iz3_, iz4_, iz5_, reduceIte, if_pos, if_neg, op_os, op_vIs, op_vLs, op_vRs, op_vNs, dI_at, dL_at, dI_2, dL_1, Nat.reduceEqDiff, Nat.reduceAdd, Nat.reduceMul, false_and, and_false, true_and, and_true, ne_eq, not_true_eq_false, not_false_eq_true, b2_z, b2_o, b2_n, b2_01, nar_b, nar_0, nar_1, Bool.false_eq_true, Bool.true_eq_false, h.2.1.1, h.2.2.2 l p hl hp, h.2.2.2 r _ hr b1, h.2.2.2 r p hr hp, h.2.2.2 l _ hl b2, z, e181_90]
            rfl
          · rw [decide_eq_false z]
            simp (disch := omega) only [nI_add, pk_mul, nI_clamp, nI_leI, nI_ltI, nI_eq, inb_, iz1_, iz2_, iz3_, iz4_, iz5_, reduceIte, if_pos, if_neg, op_os, op_vIs, op_vLs, op_vRs, op_vNs, dI_at, dL_at, dI_2, dL_1, Nat.reduceEqDiff, Nat.reduceAdd, Nat.reduceMul, false_and, and_false, true_and, and_true, ne_eq, not_true_eq_false, not_false_eq_true, b2_z, b2_o, b2_n, b2_01, nar_b, nar_0, nar_1, Bool.false_eq_true, Bool.true_eq_false, h.2.1.1, h.2.2.2 l p hl hp, h.2.2.2 r _ hr b1, h.2.2.2 r p hr hp, h.2.2.2 l _ hl b2, e181_89, e181_90]
            rfl)
      rw [show (y && aln_ (fun p => decide (Q.2.2.2.1 (Q.2.2.2.1 p l) r = Q.2.2.2.1 (Q.2.2.2.1 p r) l)) 0) = y from Bool.and_true y] at l3
      rw [e181_14]
      simp (disch := omega) only [nI_add, pk_mul, nI_clamp, nI_leI, nI_ltI, nI_eq, inb_, iz1_, iz2_, iz3_, iz4_, iz5_, reduceIte, if_pos, if_neg, op_os, op_vIs, op_vLs, op_vRs, op_vNs, dI_at, dL_at, dI_2, dL_1, Nat.reduceEqDiff, Nat.reduceAdd, Nat.reduceMul, false_and, and_false, true_and, and_true, ne_eq, not_true_eq_false, not_false_eq_true, b2_z, b2_o, b2_n, b2_01, nar_b, nar_0, nar_1, Bool.false_eq_true, Bool.true_eq_false, h.2.1.2]
      refine Eq.trans (show _ = k181_25 w (d + 1) (b2_ (y && aln_ (fun p => decide (Q.2.2.2.1 (Q.2.2.2.1 p l) r = Q.2.2.2.1 (Q.2.2.2.1 p r) l)) (Q.2.1))) (nI l) (nI r) (nI (Q.2.1)) D from l3) ?_
      rw [e181_25]
      simp (disch := omega) only [nI_add, pk_mul, nI_clamp, nI_leI, nI_ltI, nI_eq, inb_, iz1_, iz2_, iz3_, iz4_, iz5_, reduceIte, if_pos, if_neg, op_os, op_vIs, op_vLs, op_vRs, op_vNs, dI_at, dL_at, dI_2, dL_1, Nat.reduceEqDiff, Nat.reduceAdd, Nat.reduceMul, false_and, and_false, true_and, and_true, ne_eq, not_true_eq_false, not_false_eq_true, b2_z, b2_o, b2_n, b2_01, nar_b, nar_0, nar_1, Bool.false_eq_true, Bool.true_eq_false, h.2.1.1, Nat.le_refl])
    rw [show (x && aln_ (fun h => aln_ (fun p => decide (Q.2.2.2.1 (Q.2.2.2.1 p l) h = Q.2.2.2.1 (Q.2.2.2.1 p h) l)) (Q.2.1)) 0) = x from Bool.and_true x] at l2
    rw [e181_4]
    simp (disch := omega) only [nI_add, pk_mul, nI_clamp, nI_leI, nI_ltI, nI_eq, inb_, iz1_, iz2_, iz3_, iz4_, iz5_, reduceIte, if_pos, if_neg, op_os, op_vIs, op_vLs, op_vRs, op_vNs, dI_at, dL_at, dI_2, dL_1, Nat.reduceEqDiff, Nat.reduceAdd, Nat.reduceMul, false_and, and_false, true_and, and_true, ne_eq, not_true_eq_false, not_false_eq_true, b2_z, b2_o, b2_n, b2_01, nar_b, nar_0, nar_1, Bool.false_eq_true, Bool.true_eq_false, h.2.1.2]
    refine Eq.trans (show _ = k181_14 w (d + 1) (b2_ (x && aln_ (fun h => aln_ (fun p => decide (Q.2.2.2.1 (Q.2.2.2.1 p l) h = Q.2.2.2.1 (Q.2.2.2.1 p h) l)) (Q.2.1)) (Q.1))) (nI l) (nI (Q.1)) D from l2) ?_
    rw [e181_14]
    simp (disch := omega) only [nI_add, pk_mul, nI_clamp, nI_leI, nI_ltI, nI_eq, inb_, iz1_, iz2_, iz3_, iz4_, iz5_, reduceIte, if_pos, if_neg, op_os, op_vIs, op_vLs, op_vRs, op_vNs, dI_at, dL_at, dI_2, dL_1, Nat.reduceEqDiff, Nat.reduceAdd, Nat.reduceMul, false_and, and_false, true_and, and_true, ne_eq, not_true_eq_false, not_false_eq_true, b2_z, b2_o, b2_n, b2_01, nar_b, nar_0, nar_1, Bool.false_eq_true, Bool.true_eq_false, h.2.1.2, Nat.le_refl])
  refine Eq.trans (show _ = k181_4 w (d + 1) (b2_ (qc_ Q)) (nI (Q.1)) D from l1) ?_
  rw [e181_4]
  simp (disch := omega) only [nI_add, pk_mul, nI_clamp, nI_leI, nI_ltI, nI_eq, inb_, iz1_, iz2_, iz3_, iz4_, iz5_, reduceIte, if_pos, if_neg, op_os, op_vIs, op_vLs, op_vRs, op_vNs, dI_at, dL_at, dI_2, dL_1, Nat.reduceEqDiff, Nat.reduceAdd, Nat.reduceMul, false_and, and_false, true_and, and_true, ne_eq, not_true_eq_false, not_false_eq_true, b2_z, b2_o, b2_n, b2_01, nar_b, nar_0, nar_1, Bool.false_eq_true, Bool.true_eq_false, h.2.1.2, Nat.le_refl]
theorem x182 {i : Nat} (h : yh_ Q c f D) (hc : c ≤ 400) (hn : Q.2.1 ≤ 60) (hf : ∀ i p, i < c → p < Q.2.1 → f i p < Q.2.1) (hi : i < c) : k182_0 w (d + 1) (nI i) D = some (some (.int (nI (qd_ (Q.2.1) (f i)))), D) := by
  rw [e182_0]
  have := lq_ (fun p (x : Nat × Nat) => k182_7 w (d + 1) (nI i) (nI x.1) (lN x.2) (nI p) D) (fun p => (qd_ p (f i), orf_ (fun p => 2 ^ f i p) p)) (Q.2.1) (by
    intro p hp
    have b1 := hf i p hi hp
    have hlt : orf_ (fun p => 2 ^ f i p) p < 2 ^ 60 := orf_lt fun x hx => pw_lt (by have := hf i x hi (by omega); omega)
    have hap := and_pw (S := orf_ (fun p => 2 ^ f i p) p) (p := f i p)
    have hs := qd_s (f i) p (by omega)
    have ht3 := tb3 (a := orf_ (fun p => 2 ^ f i p) p) (b := 2 ^ f i p) hlt
    show k182_7 w (d + 1) (nI i) (nI (qd_ p (f i))) (lN (orf_ (fun p => 2 ^ f i p) p)) (nI p) D = k182_7 w (d + 1) (nI i) (nI (qd_ (p + 1) (f i))) (lN (orf_ (fun p => 2 ^ f i p) p ||| 2 ^ f i p)) (nI (p + 1)) D
    rw [e182_7]
    cases hb : (orf_ (fun p => 2 ^ f i p) p).testBit (f i p) with
    | true =>
      rw [hb, if_pos rfl, Nat.add_zero] at hs
      rw [hb] at hap
      have hnz : ¬ (orf_ (fun p => 2 ^ f i p) p &&& 2 ^ f i p = 0) := fun z => absurd (hap.mp z) (by decide)
      rw [hs]
      simp (disch := omega) only [nI_add, pk_mul, nI_clamp, nI_leI, nI_ltI, nI_eq, inb_, iz1_, iz2_, iz3_, iz4_, iz5_, reduceIte, op_os, op_vIs, op_vLs, op_vRs, op_vNs, dI_at, dL_at, dI_2, dL_1, Nat.reduceEqDiff, Nat.reduceAdd, Nat.reduceMul, false_and, and_false, true_and, and_true, ne_eq, not_true_eq_false, not_false_eq_true, b2_z, b2_o, b2_n, b2_01, nar_b, nar_0, nar_1, Bool.false_eq_true, Bool.true_eq_false, h.2.1.1, h.2.2.1 i p hi hp, sb1, ht3]
      rw [if_neg (by omega), if_pos hnz, e182_48]
      simp (disch := omega) only [nI_add, pk_mul, nI_clamp, nI_leI, nI_ltI, nI_eq, inb_, iz1_, iz2_, iz3_, iz4_, iz5_, reduceIte, if_pos, if_neg, op_os, op_vIs, op_vLs, op_vRs, op_vNs, dI_at, dL_at, dI_2, dL_1, Nat.reduceEqDiff, Nat.reduceAdd, Nat.reduceMul, false_and, and_false, true_and, and_true, ne_eq, not_true_eq_false, not_false_eq_true, b2_z, b2_o, b2_n, b2_01, nar_b, nar_0, nar_1, Bool.false_eq_true, Bool.true_eq_false, lN_or]
      rfl
    | false =>
      rw [hb, if_neg (show ¬ false = true by decide)] at hs
      rw [hb] at hap
      have hz := hap.mpr rfl
      rw [hs]
      simp (disch := omega) only [nI_add, pk_mul, nI_clamp, nI_leI, nI_ltI, nI_eq, inb_, iz1_, iz2_, iz3_, iz4_, iz5_, reduceIte, op_os, op_vIs, op_vLs, op_vRs, op_vNs, dI_at, dL_at, dI_2, dL_1, Nat.reduceEqDiff, Nat.reduceAdd, Nat.reduceMul, false_and, and_false, true_and, and_true, ne_eq, not_true_eq_false, not_false_eq_true, b2_z, b2_o, b2_n, b2_01, nar_b, nar_0, nar_1, Bool.false_eq_true, Bool.true_eq_false, h.2.1.1, h.2.2.1 i p hi hp, sb1, ht3]
      rw [if_neg (by omega), if_neg (fun z => z hz), e182_48]
      simp (disch := omega) only [nI_add, pk_mul, nI_clamp, nI_leI, nI_ltI, nI_eq, inb_, iz1_, iz2_, iz3_, iz4_, iz5_, reduceIte, if_pos, if_neg, op_os, op_vIs, op_vLs, op_vRs, op_vNs, dI_at, dL_at, dI_2, dL_1, Nat.reduceEqDiff, Nat.reduceAdd, Nat.reduceMul, false_and, and_false, true_and, and_true, ne_eq, not_true_eq_false, not_false_eq_true, b2_z, b2_o, b2_n, b2_01, nar_b, nar_0, nar_1, Bool.false_eq_true, Bool.true_eq_false, lN_or])
  have this : k182_7 w (d + 1) (nI i) (nI (qd_ 0 (f i))) (lN 0) (nI 0) D = k182_7 w (d + 1) (nI i) (nI (qd_ (Q.2.1) (f i))) (lN (orf_ (fun p => 2 ^ f i p) (Q.2.1))) (nI (Q.2.1)) D := this
  rw [qd_0] at this
  refine Eq.trans (show _ = k182_7 w (d + 1) (nI i) (nI (qd_ (Q.2.1) (f i))) (lN (orf_ (fun p => 2 ^ f i p) (Q.2.1))) (nI (Q.2.1)) D from this) ?_
  rw [e182_7]
  simp (disch := omega) only [nI_add, pk_mul, nI_clamp, nI_leI, nI_ltI, nI_eq, inb_, iz1_, iz2_, iz3_, iz4_, iz5_, reduceIte, if_pos, if_neg, op_os, op_vIs, op_vLs, op_vRs, op_vNs, dI_at, dL_at, dI_2, dL_1, Nat.reduceEqDiff, Nat.reduceAdd, Nat.reduceMul, false_and, and_false, true_and, and_true, ne_eq, not_true_eq_false, not_false_eq_true, b2_z, b2_o, b2_n, b2_01, nar_b, nar_0, nar_1, Bool.false_eq_true, Bool.true_eq_false, h.2.1.1, Nat.le_refl]
/-- the loop of the reference -/
theorem x183l {h : Nat} {g : Nat → Bool} {al : Nat → Bool} (hh : h < 5) (hy : yh_ Q c f D) (hc : c ≤ 400) (hs : ∀ i, i < c → k183_54 w (d + 2) (nI h) (nI (cq_ g i)) (b2_ (aln_ al i)) (nI i) D = k183_54 w (d + 2) (nI h) (nI (cq_ g (i + 1))) (b2_ (aln_ al (i + 1))) (nI (i + 1)) D) : k183_54 w (d + 2) (nI h) (nI 0) (nI 1) (nI 0) D = some (some (.int (if h = 1 then b2_ (aln_ al c) else nI (cq_ g c))), D) := by
  have := lq_ (fun i (x : Nat × Bool) => k183_54 w (d + 2) (nI h) (nI x.1) (b2_ x.2) (nI i) D) (fun i => (cq_ g i, aln_ al i)) c hs
  refine Eq.trans (show _ = k183_54 w (d + 2) (nI h) (nI (cq_ g c)) (b2_ (aln_ al c)) (nI c) D from this) ?_
  rw [e183_54]
  by_cases z : h = 1
  · rw [if_pos z]
    simp (disch := omega) only [nI_add, pk_mul, nI_clamp, nI_leI, nI_ltI, nI_eq, inb_, iz1_, iz2_, iz3_, iz4_, iz5_, reduceIte, op_os, op_vIs, op_vLs, op_vRs, op_vNs, dI_at, dL_at, dI_2, dL_1, Nat.reduceEqDiff, Nat.reduceAdd, Nat.reduceMul, false_and, and_false, true_and, and_true, ne_eq, not_true_eq_false, not_false_eq_true, b2_z, b2_o, b2_n, b2_01, nar_b, nar_0, nar_1, Bool.false_eq_true, Bool.true_eq_false, hy.1, Nat.le_refl]
    rw [if_neg (fun y => y z)]
    cases aln_ al c
    · rfl
    · rfl
  · rw [if_neg z]
    simp (disch := omega) only [nI_add, pk_mul, nI_clamp, nI_leI, nI_ltI, nI_eq, inb_, iz1_, iz2_, iz3_, iz4_, iz5_, reduceIte, if_pos, if_neg, op_os, op_vIs, op_vLs, op_vRs, op_vNs, dI_at, dL_at, dI_2, dL_1, Nat.reduceEqDiff, Nat.reduceAdd, Nat.reduceMul, false_and, and_false, true_and, and_true, ne_eq, not_true_eq_false, not_false_eq_true, b2_z, b2_o, b2_n, b2_01, nar_b, nar_0, nar_1, Bool.false_eq_true, Bool.true_eq_false, hy.1, Nat.le_refl]
theorem rc_tt {D' : dy_} (h : rc_ D S B0) (g : sx_ (fun b => b = 349 ∨ b = 350) D D') : rc_ D' S B0 := by
  obtain ⟨h1, h2, h3, h4, h5⟩ := h
  have e : ∀ b, b ≠ 349 → b ≠ 350 → D'.1 b = D.1 b := fun b q1 q2 => (g b (by omega)).1
  refine ⟨fun j hj => cm_fr (h1 j hj) (e _ (by omega) (by omega)) (e _ (by omega) (by omega)) (e _ (by omega) (by omega)), ?_, ?_, ⟨cm_fr h4.1 (e _ (by omega) (by omega)) (e _ (by omega) (by omega)) (e _ (by omega) (by omega)), cm_fr h4.2 (e _ (by omega) (by omega)) (e _ (by omega) (by omega)) (e _ (by omega) (by omega))⟩, rsp_fr h5 (e _ (by omega) (by omega)) (e _ (by omega) (by omega)) (e _ (by omega) (by omega))⟩
  · unfold rtp_ at *
    rw [e 21 (by omega) (by omega), e 22 (by omega) (by omega)]
    exact h2
  · unfold rmp_ at *
    rw [e 342 (by omega) (by omega), e 346 (by omega) (by omega)]
    exact ⟨h3.1, fun q => ⟨cm_fr (h3.2 q).1 (e _ (by omega) (by omega)) (e _ (by omega) (by omega)) (e _ (by omega) (by omega)), (h3.2 q).2⟩⟩
theorem bo_mapping (hS : ok_ S) (what : Int32) : bo_ S B0 (fun D => k104_0 w (d + 200) what D) (fun D => k183_0 w (d + 200) what D) := by
  have hc := hS.2.2.1
  by_cases c1 : ls_ 5 what = true
  · obtain ⟨h, rfl, hh⟩ := ls_t (by omega) c1
    by_cases c2 : S.2.2.1 = 0
    · refine bo_o (.int (-1)) hS (fun D hD => ?_) (fun D hD => ?_)
      · have e6 : D.1 342 6 = nI 0 := by rw [hD.2.2.1.1, c2]
        rw [e104_0]
        simp (disch := omega) only [nI_add, pk_mul, nI_clamp, nI_leI, nI_ltI, nI_eq, inb_, iz1_, iz2_, iz3_, iz4_, iz5_, reduceIte, if_pos, if_neg, op_os, op_vIs, op_vLs, op_vRs, op_vNs, dI_at, dL_at, dI_2, dL_1, Nat.reduceEqDiff, Nat.reduceAdd, Nat.reduceMul, false_and, and_false, true_and, and_true, ne_eq, not_true_eq_false, not_false_eq_true, b2_z, b2_o, b2_n, b2_01, nar_b, nar_0, nar_1, Bool.false_eq_true, Bool.true_eq_false, e6]
      · have e7 : D.1 351 47 = nI 0 := by rw [hD.2.2.1, c2]
        rw [e183_0]
        simp (disch := omega) only [nI_add, pk_mul, nI_clamp, nI_leI, nI_ltI, nI_eq, inb_, iz1_, iz2_, iz3_, iz4_, iz5_, reduceIte, if_pos, if_neg, op_os, op_vIs, op_vLs, op_vRs, op_vNs, dI_at, dL_at, dI_2, dL_1, Nat.reduceEqDiff, Nat.reduceAdd, Nat.reduceMul, false_and, and_false, true_and, and_true, ne_eq, not_true_eq_false, not_false_eq_true, b2_z, b2_o, b2_n, b2_01, nar_b, nar_0, nar_1, Bool.false_eq_true, Bool.true_eq_false, x111k, c1, e7]
    · obtain ⟨⟨hQ, hn⟩, hf⟩ := hS.2.2.2 (by omega)
      have hmh : ∀ D, rc_ D S B0 → mh_ S.2.2.2.1 S.2.2.1 S.2.2.2.2 D := fun D hD => ⟨hD.2.2.1.1, (hD.2.2.1.2 (by omega)).1, (hD.2.2.1.2 (by omega)).2⟩
      have hyh : ∀ D, mr_ D S → yh_ S.2.2.2.1 S.2.2.1 S.2.2.2.2 (dI_ D 351 0 (nI 0)) := fun D hD => by
        have h' := (mr_0 (v := nI 0) hD).2.2
        exact ⟨h'.1, (h'.2 (by omega)).1, (h'.2 (by omega)).2.1, (h'.2 (by omega)).2.2⟩
      have hqd : ∀ i, i < S.2.2.1 → qd_ (S.2.2.2.1.2.1) (S.2.2.2.2 i) ≤ S.2.2.2.1.2.1 := fun i hi => qd_le _ _ (fun p hp => by have := hf i p hi hp; omega)
      have h6 : ∀ D, rc_ D S B0 → D.1 342 6 = nI S.2.2.1 := fun D hD => hD.2.2.1.1
      have hcq := fun g => cq_le g S.2.2.1
      rcases (show h = 0 ∨ h = 1 ∨ h = 2 ∨ h = 3 ∨ h = 4 by omega) with rfl | rfl | rfl | rfl | rfl
      · refine bo_o (.int (nI (cq_ (fun i => qi_ (S.2.2.2.1.2.1) (S.2.2.2.2 i)) S.2.2.1))) hS (fun D hD => ?_) (fun D hD => ?_)
        · rw [e104_0]
          simp (disch := omega) only [nI_add, pk_mul, nI_clamp, nI_leI, nI_ltI, nI_eq, inb_, iz1_, iz2_, iz3_, iz4_, iz5_, reduceIte, if_pos, if_neg, op_os, op_vIs, op_vLs, op_vRs, op_vNs, dI_at, dL_at, dI_2, dL_1, Nat.reduceEqDiff, Nat.reduceAdd, Nat.reduceMul, false_and, and_false, true_and, and_true, ne_eq, not_true_eq_false, not_false_eq_true, b2_z, b2_o, b2_n, b2_01, nar_b, nar_0, nar_1, Bool.false_eq_true, Bool.true_eq_false, h6 D hD, x21 (hmh D hD) hc hn hf]
        · have hy := hyh D hD
          have h47 : D.1 351 47 = nI S.2.2.1 := hD.2.2.1
          have h48 : D.1 351 48 = nI (S.2.2.2.1.2.1) := (hD.2.2.2 (by omega)).1.1
          have := x183l (w := w) (d := d + 198) (g := fun i => qi_ (S.2.2.2.1.2.1) (S.2.2.2.2 i)) (al := fun _ => true) (h := 0) (by omega) hy hc (fun i hi => by
            have := hcq (fun i => qi_ (S.2.2.2.1.2.1) (S.2.2.2.2 i))
            have := cq_le (fun i => qi_ (S.2.2.2.1.2.1) (S.2.2.2.2 i)) i
            have ha : ∀ m, aln_ (fun _ => true) m = true := fun m => aln_t.mpr fun _ _ => rfl
            rw [e183_54, cq_s, ha, ha]
            cases hq : qi_ (S.2.2.2.1.2.1) (S.2.2.2.2 i) with
            | true => simp (disch := omega) only [nI_add, pk_mul, nI_clamp, nI_leI, nI_ltI, nI_eq, inb_, iz1_, iz2_, iz3_, iz4_, iz5_, reduceIte, if_pos, if_neg, op_os, op_vIs, op_vLs, op_vRs, op_vNs, dI_at, dL_at, dI_2, dL_1, Nat.reduceEqDiff, Nat.reduceAdd, Nat.reduceMul, false_and, and_false, true_and, and_true, ne_eq, not_true_eq_false, not_false_eq_true, b2_z, b2_o, b2_n, b2_01, nar_b, nar_0, nar_1, Bool.false_eq_true, Bool.true_eq_false, h47, x179 hy hc hn hf hi, hq, e183_122, e183_136, e183_155, e183_160]; rfl
            | false => simp (disch := omega) only [nI_add, pk_mul, nI_clamp, nI_leI, nI_ltI, nI_eq, inb_, iz1_, iz2_, iz3_, iz4_, iz5_, reduceIte, if_pos, if_neg, op_os, op_vIs, op_vLs, op_vRs, op_vNs, dI_at, dL_at, dI_2, dL_1, Nat.reduceEqDiff, Nat.reduceAdd, Nat.reduceMul, false_and, and_false, true_and, and_true, ne_eq, not_true_eq_false, not_false_eq_true, b2_z, b2_o, b2_n, b2_01, nar_b, nar_0, nar_1, Bool.false_eq_true, Bool.true_eq_false, h47, x179 hy hc hn hf hi, hq, e183_122, e183_136, e183_155, e183_160]; rfl)
          rw [if_neg (by decide)] at this
          rw [e183_0]
          simp (disch := omega) only [nI_add, pk_mul, nI_clamp, nI_leI, nI_ltI, nI_eq, inb_, iz1_, iz2_, iz3_, iz4_, iz5_, reduceIte, if_pos, if_neg, op_os, op_vIs, op_vLs, op_vRs, op_vNs, dI_at, dL_at, dI_2, dL_1, Nat.reduceEqDiff, Nat.reduceAdd, Nat.reduceMul, false_and, and_false, true_and, and_true, ne_eq, not_true_eq_false, not_false_eq_true, b2_z, b2_o, b2_n, b2_01, nar_b, nar_0, nar_1, Bool.false_eq_true, Bool.true_eq_false, x111k, c1, h47, this]
      · refine bo_i (.int (b2_ (aln_ (fun i => qs1_ (S.2.2.2.1.2.1) (S.2.2.2.2 i)) S.2.2.1))) S hS (fun D hD => ?_) (fun D hD => ?_)
        · obtain ⟨D', e1, e2⟩ := x24 (w := w) (d := d + 196) (hmh D hD) hc hn hf
          refine ⟨D', ?_, rc_m (rc_tt hD e2) (by omega), fun b hb => e2 b (by omega)⟩
          rw [e104_0]
          simp (disch := omega) only [nI_add, pk_mul, nI_clamp, nI_leI, nI_ltI, nI_eq, inb_, iz1_, iz2_, iz3_, iz4_, iz5_, reduceIte, if_pos, if_neg, op_os, op_vIs, op_vLs, op_vRs, op_vNs, dI_at, dL_at, dI_2, dL_1, Nat.reduceEqDiff, Nat.reduceAdd, Nat.reduceMul, false_and, and_false, true_and, and_true, ne_eq, not_true_eq_false, not_false_eq_true, b2_z, b2_o, b2_n, b2_01, nar_b, nar_0, nar_1, Bool.false_eq_true, Bool.true_eq_false, h6 D hD, e1, x105]
        · have hy := hyh D hD
          have h47 : D.1 351 47 = nI S.2.2.1 := hD.2.2.1
          have h48 : D.1 351 48 = nI (S.2.2.2.1.2.1) := (hD.2.2.2 (by omega)).1.1
          have := x183l (w := w) (d := d + 198) (g := fun _ => false) (al := fun i => qs1_ (S.2.2.2.1.2.1) (S.2.2.2.2 i)) (h := 1) (by omega) hy hc (fun i hi => by
            have ha : ∀ m, cq_ (fun _ => false) m = 0 := fun m => cq_0.mpr fun _ _ => rfl
            rw [e183_54, ha, ha]
            show _ = k183_54 w (d + 198 + 2) (nI 1) (nI 0) (b2_ (aln_ (fun i => qs1_ (S.2.2.2.1.2.1) (S.2.2.2.2 i)) i && qs1_ (S.2.2.2.1.2.1) (S.2.2.2.2 i))) (nI (i + 1)) (dI_ D 351 0 (nI 0))
            cases aln_ (fun i => qs1_ (S.2.2.2.1.2.1) (S.2.2.2.2 i)) i with
            | false => simp (disch := omega) only [nI_add, pk_mul, nI_clamp, nI_leI, nI_ltI, nI_eq, inb_, iz1_, iz2_, iz3_, iz4_, iz5_, reduceIte, if_pos, if_neg, op_os, op_vIs, op_vLs, op_vRs, op_vNs, dI_at, dL_at, dI_2, dL_1, Nat.reduceEqDiff, Nat.reduceAdd, Nat.reduceMul, false_and, and_false, true_and, and_true, ne_eq, not_true_eq_false, not_false_eq_true, b2_z, b2_o, b2_n, b2_01, nar_b, nar_0, nar_1, Bool.false_eq_true, Bool.true_eq_false, h47, e183_121, e183_122, e183_136, e183_159, e183_160]; rfl
            | true =>
              cases hq : qs1_ (S.2.2.2.1.2.1) (S.2.2.2.2 i) with
              | true => simp (disch := omega) only [nI_add, pk_mul, nI_clamp, nI_leI, nI_ltI, nI_eq, inb_, iz1_, iz2_, iz3_, iz4_, iz5_, reduceIte, if_pos, if_neg, op_os, op_vIs, op_vLs, op_vRs, op_vNs, dI_at, dL_at, dI_2, dL_1, Nat.reduceEqDiff, Nat.reduceAdd, Nat.reduceMul, false_and, and_false, true_and, and_true, ne_eq, not_true_eq_false, not_false_eq_true, b2_z, b2_o, b2_n, b2_01, nar_b, nar_0, nar_1, Bool.false_eq_true, Bool.true_eq_false, h47, e183_121, e183_122, e183_136, x180 hy hc hn hf hi, hq, e183_155, e183_160]; rfl
              | false => simp (disch := omega) only [nI_add, pk_mul, nI_clamp, nI_leI, nI_ltI, nI_eq, inb_, iz1_, iz2_, iz3_, iz4_, iz5_, reduceIte, if_pos, if_neg, op_os, op_vIs, op_vLs, op_vRs, op_vNs, dI_at, dL_at, dI_2, dL_1, Nat.reduceEqDiff, Nat.reduceAdd, Nat.reduceMul, false_and, and_false, true_and, and_true, ne_eq, not_true_eq_false, not_false_eq_true, b2_z, b2_o, b2_n, b2_01, nar_b, nar_0, nar_1, Bool.false_eq_true, Bool.true_eq_false, h47, e183_121, e183_122, e183_136, x180 hy hc hn hf hi, hq, e183_159, e183_160]; rfl)
          rw [if_pos rfl] at this
          refine ⟨dI_ D 351 0 (nI 0), ?_, mr_0 hD, lw_I (by omega)⟩
          rw [e183_0]
          simp (disch := omega) only [nI_add, pk_mul, nI_clamp, nI_leI, nI_ltI, nI_eq, inb_, iz1_, iz2_, iz3_, iz4_, iz5_, reduceIte, if_pos, if_neg, op_os, op_vIs, op_vLs, op_vRs, op_vNs, dI_at, dL_at, dI_2, dL_1, Nat.reduceEqDiff, Nat.reduceAdd, Nat.reduceMul, false_and, and_false, true_and, and_true, ne_eq, not_true_eq_false, not_false_eq_true, b2_z, b2_o, b2_n, b2_01, nar_b, nar_0, nar_1, Bool.false_eq_true, Bool.true_eq_false, x111k, c1, h47, this]
      · refine bo_o (.int (b2_ (qc_ S.2.2.2.1))) hS (fun D hD => ?_) (fun D hD => ?_)
        · rw [e104_0]
          simp (disch := omega) only [nI_add, pk_mul, nI_clamp, nI_leI, nI_ltI, nI_eq, inb_, iz1_, iz2_, iz3_, iz4_, iz5_, reduceIte, if_pos, if_neg, op_os, op_vIs, op_vLs, op_vRs, op_vNs, dI_at, dL_at, dI_2, dL_1, Nat.reduceEqDiff, Nat.reduceAdd, Nat.reduceMul, false_and, and_false, true_and, and_true, ne_eq, not_true_eq_false, not_false_eq_true, b2_z, b2_o, b2_n, b2_01, nar_b, nar_0, nar_1, Bool.false_eq_true, Bool.true_eq_false, h6 D hD, x23 hQ (hmh D hD).2.1 hn, x105]
        · have hy := hyh D hD
          have h47 : D.1 351 47 = nI S.2.2.1 := hD.2.2.1
          have h48 : D.1 351 48 = nI (S.2.2.2.1.2.1) := (hD.2.2.2 (by omega)).1.1
          rw [e183_0]
          simp (disch := omega) only [nI_add, pk_mul, nI_clamp, nI_leI, nI_ltI, nI_eq, inb_, iz1_, iz2_, iz3_, iz4_, iz5_, reduceIte, if_pos, if_neg, op_os, op_vIs, op_vLs, op_vRs, op_vNs, dI_at, dL_at, dI_2, dL_1, Nat.reduceEqDiff, Nat.reduceAdd, Nat.reduceMul, false_and, and_false, true_and, and_true, ne_eq, not_true_eq_false, not_false_eq_true, b2_z, b2_o, b2_n, b2_01, nar_b, nar_0, nar_1, Bool.false_eq_true, Bool.true_eq_false, x111k, c1, h47, x181 hQ hy hn]
          cases qc_ S.2.2.2.1 <;> rfl
      · refine bo_o (.int (nI (cq_ (fun i => decide (qd_ (S.2.2.2.1.2.1) (S.2.2.2.2 i) = 1)) S.2.2.1))) hS (fun D hD => ?_) (fun D hD => ?_)
        · rw [e104_0]
          simp (disch := omega) only [nI_add, pk_mul, nI_clamp, nI_leI, nI_ltI, nI_eq, inb_, iz1_, iz2_, iz3_, iz4_, iz5_, reduceIte, if_pos, if_neg, op_os, op_vIs, op_vLs, op_vRs, op_vNs, dI_at, dL_at, dI_2, dL_1, Nat.reduceEqDiff, Nat.reduceAdd, Nat.reduceMul, false_and, and_false, true_and, and_true, ne_eq, not_true_eq_false, not_false_eq_true, b2_z, b2_o, b2_n, b2_01, nar_b, nar_0, nar_1, Bool.false_eq_true, Bool.true_eq_false, h6 D hD, x22 (show 1 ≤ 60 by omega) (hmh D hD) hc hn hf (fun i hi => by have := hqd i hi; omega)]
        · have hy := hyh D hD
          have h47 : D.1 351 47 = nI S.2.2.1 := hD.2.2.1
          have h48 : D.1 351 48 = nI (S.2.2.2.1.2.1) := (hD.2.2.2 (by omega)).1.1
          have := x183l (w := w) (d := d + 198) (g := fun i => decide (qd_ (S.2.2.2.1.2.1) (S.2.2.2.2 i) = 1)) (al := fun _ => true) (h := 3) (by omega) hy hc (fun i hi => by
            have := cq_le (fun i => decide (qd_ (S.2.2.2.1.2.1) (S.2.2.2.2 i) = 1)) i
            have := hqd i hi
            have ha : ∀ m, aln_ (fun _ => true) m = true := fun m => aln_t.mpr fun _ _ => rfl
            rw [e183_54, cq_s, ha, ha]
            by_cases z : qd_ (S.2.2.2.1.2.1) (S.2.2.2.2 i) = 1
            · rw [decide_eq_true z, if_pos rfl]
              simp (disch := omega) only [nI_add, pk_mul, nI_clamp, nI_leI, nI_ltI, nI_eq, inb_, iz1_, iz2_, iz3_, iz4_, iz5_, reduceIte, if_pos, if_neg, op_os, op_vIs, op_vLs, op_vRs, op_vNs, dI_at, dL_at, dI_2, dL_1, Nat.reduceEqDiff, Nat.reduceAdd, Nat.reduceMul, false_and, and_false, true_and, and_true, ne_eq, not_true_eq_false, not_false_eq_true, b2_z, b2_o, b2_n, b2_01, nar_b, nar_0, nar_1, Bool.false_eq_true, Bool.true_eq_false, h47, x182 hy hc hn hf hi, z, e183_122, e183_136, e183_155, e183_160]
              rfl
            · rw [decide_eq_false z, if_neg (show ¬ false = true by decide)]
              simp (disch := omega) only [nI_add, pk_mul, nI_clamp, nI_leI, nI_ltI, nI_eq, inb_, iz1_, iz2_, iz3_, iz4_, iz5_, reduceIte, if_pos, if_neg, op_os, op_vIs, op_vLs, op_vRs, op_vNs, dI_at, dL_at, dI_2, dL_1, Nat.reduceEqDiff, Nat.reduceAdd, Nat.reduceMul, false_and, and_false, true_and, and_true, ne_eq, not_true_eq_false, not_false_eq_true, b2_z, b2_o, b2_n, b2_01, nar_b, nar_0, nar_1, Bool.false_eq_true, Bool.true_eq_false, h47, x182 hy hc hn hf hi, e183_122, e183_136, e183_155, e183_160]
              rfl)
          rw [if_neg (by decide)] at this
          rw [e183_0]
          simp (disch := omega) only [nI_add, pk_mul, nI_clamp, nI_leI, nI_ltI, nI_eq, inb_, iz1_, iz2_, iz3_, iz4_, iz5_, reduceIte, if_pos, if_neg, op_os, op_vIs, op_vLs, op_vRs, op_vNs, dI_at, dL_at, dI_2, dL_1, Nat.reduceEqDiff, Nat.reduceAdd, Nat.reduceMul, false_and, and_false, true_and, and_true, ne_eq, not_true_eq_false, not_false_eq_true, b2_z, b2_o, b2_n, b2_01, nar_b, nar_0, nar_1, Bool.false_eq_true, Bool.true_eq_false, x111k, c1, h47, this]
      · refine bo_o (.int (nI (cq_ (fun i => decide (qd_ (S.2.2.2.1.2.1) (S.2.2.2.2 i) = S.2.2.2.1.2.1)) S.2.2.1))) hS (fun D hD => ?_) (fun D hD => ?_)
        · rw [e104_0]
          simp (disch := omega) only [nI_add, pk_mul, nI_clamp, nI_leI, nI_ltI, nI_eq, inb_, iz1_, iz2_, iz3_, iz4_, iz5_, reduceIte, if_pos, if_neg, op_os, op_vIs, op_vLs, op_vRs, op_vNs, dI_at, dL_at, dI_2, dL_1, Nat.reduceEqDiff, Nat.reduceAdd, Nat.reduceMul, false_and, and_false, true_and, and_true, ne_eq, not_true_eq_false, not_false_eq_true, b2_z, b2_o, b2_n, b2_01, nar_b, nar_0, nar_1, Bool.false_eq_true, Bool.true_eq_false, h6 D hD, (hmh D hD).2.1.2.1, x22 hn (hmh D hD) hc hn hf (fun i hi => by have := hqd i hi; omega)]
        · have hy := hyh D hD
          have h47 : D.1 351 47 = nI S.2.2.1 := hD.2.2.1
          have h48 : D.1 351 48 = nI (S.2.2.2.1.2.1) := (hD.2.2.2 (by omega)).1.1
          have := x183l (w := w) (d := d + 198) (g := fun i => decide (qd_ (S.2.2.2.1.2.1) (S.2.2.2.2 i) = S.2.2.2.1.2.1)) (al := fun _ => true) (h := 4) (by omega) hy hc (fun i hi => by
            have := cq_le (fun i => decide (qd_ (S.2.2.2.1.2.1) (S.2.2.2.2 i) = S.2.2.2.1.2.1)) i
            have := hqd i hi
            have ha : ∀ m, aln_ (fun _ => true) m = true := fun m => aln_t.mpr fun _ _ => rfl
            rw [e183_54, cq_s, ha, ha]
            by_cases z : qd_ (S.2.2.2.1.2.1) (S.2.2.2.2 i) = S.2.2.2.1.2.1
            · rw [decide_eq_true z, if_pos rfl]
              simp (disch := omega) only [nI_add, pk_mul, nI_clamp, nI_leI, nI_ltI, nI_eq, inb_, iz1_, iz2_, iz3_, iz4_, iz5_, reduceIte, if_pos, if_neg, op_os, op_vIs, op_vLs, op_vRs, op_vNs, dI_at, dL_at, dI_2, dL_1, Nat.reduceEqDiff, Nat.reduceAdd, Nat.reduceMul, false_and, and_false, true_and, and_true, ne_eq, not_true_eq_false, not_false_eq_true, b2_z, b2_o, b2_n, b2_01, nar_b, nar_0, nar_1, Bool.false_eq_true, Bool.true_eq_false, h47, h48, x182 hy hc hn hf hi, z, e183_122, e183_136, e183_155, e183_160]
              rfl
            · rw [decide_eq_false z, if_neg (show ¬ false = true by decide)]
              simp (disch := omega) only [nI_add, pk_mul, nI_clamp, nI_leI, nI_ltI, nI_eq, inb_, iz1_, iz2_, iz3_, iz4_, iz5_, reduceIte, if_pos, if_neg, op_os, op_vIs, op_vLs, op_vRs, op_vNs, dI_at, dL_at, dI_2, dL_1, Nat.reduceEqDiff, Nat.reduceAdd, Nat.reduceMul, false_and, and_false, true_and, and_true, ne_eq, not_true_eq_false, not_false_eq_true, b2_z, b2_o, b2_n, b2_01, nar_b, nar_0, nar_1, Bool.false_eq_true, Bool.true_eq_false, h47, h48, x182 hy hc hn hf hi, e183_121, e183_122, e183_136, e183_155, e183_160]
              rfl)
          rw [if_neg (by decide)] at this
          rw [e183_0]
          simp (disch := omega) only [nI_add, pk_mul, nI_clamp, nI_leI, nI_ltI, nI_eq, inb_, iz1_, iz2_, iz3_, iz4_, iz5_, reduceIte, if_pos, if_neg, op_os, op_vIs, op_vLs, op_vRs, op_vNs, dI_at, dL_at, dI_2, dL_1, Nat.reduceEqDiff, Nat.reduceAdd, Nat.reduceMul, false_and, and_false, true_and, and_true, ne_eq, not_true_eq_false, not_false_eq_true, b2_z, b2_o, b2_n, b2_01, nar_b, nar_0, nar_1, Bool.false_eq_true, Bool.true_eq_false, x111k, c1, h47, this]
  · refine bo_o (.int (-102)) hS (fun D hD => ?_) (fun D hD => ?_)
    · rw [e104_0]
      rcases ic_ what with ⟨m, hm, rfl⟩ | hm
      · have : ¬ m < 5 := fun q => c1 (ls_n q (by omega))
        simp (disch := omega) only [nI_add, pk_mul, nI_clamp, nI_leI, nI_ltI, nI_eq, inb_, iz1_, iz2_, iz3_, iz4_, iz5_, reduceIte, if_pos, if_neg, op_os, op_vIs, op_vLs, op_vRs, op_vNs, dI_at, dL_at, dI_2, dL_1, Nat.reduceEqDiff, Nat.reduceAdd, Nat.reduceMul, false_and, and_false, true_and, and_true, ne_eq, not_true_eq_false, not_false_eq_true, b2_z, b2_o, b2_n, b2_01, nar_b, nar_0, nar_1, Bool.false_eq_true, Bool.true_eq_false]
      · rw [if_pos (show what < nI 0 from hm)]
    · rw [e183_0]
      simp (disch := omega) only [nI_add, pk_mul, nI_clamp, nI_leI, nI_ltI, nI_eq, inb_, iz1_, iz2_, iz3_, iz4_, iz5_, reduceIte, if_pos, if_neg, op_os, op_vIs, op_vLs, op_vRs, op_vNs, dI_at, dL_at, dI_2, dL_1, Nat.reduceEqDiff, Nat.reduceAdd, Nat.reduceMul, false_and, and_false, true_and, and_true, ne_eq, not_true_eq_false, not_false_eq_true, b2_z, b2_o, b2_n, b2_01, nar_b, nar_0, nar_1, Bool.false_eq_true, Bool.true_eq_false, x111k, bf_ c1]
end RMAP
