section PUB2
variable {w : (Nat → Int32) × Nat} {d : Nat} {D : dy_} {S : sp_} {B : Nat}
theorem ls1 {n : Nat} (hn : n < 2 ^ 31) (x : Int32) : decide (¬ (x < nI 1 ∨ nI n < x)) = true → ∃ j : Nat, x = nI j ∧ 1 ≤ j ∧ j ≤ n := by
  intro h
  have h := of_decide_eq_true h
  by_cases h1 : 1 ≤ n
  · obtain ⟨j, e, h2, h3⟩ := nI_btw h1 hn h
    exact ⟨j, e, h2, h3⟩
  · exfalso
    obtain rfl : n = 0 := by omega
    rcases ic_ x with ⟨j, hj, rfl⟩ | q
    · rw [nI_ltI (by omega) (by omega), nI_ltI (by omega) (by omega)] at h
      omega
    · exact h (Or.inl (Int32.lt_trans q (by decide)))
theorem bo_make (hS : ok_ S) (s k n : Int32) : bo_ S B (fun D => k82_0 w (d + 200) s k n D) (fun D => k115_0 w (d + 200) s k n D) := by
  have r1 : ∀ D, k111_0 w (d + 199) k.toInt64 (lN 1) (lN 4) D = some (some (.int (b2_ (decide ¬ (k < nI 1 ∨ nI 4 < k)))), D) := by
    intro D
    rw [lt64 (n := 1) (by omega), lt64 (n := 4) (by omega), x111]
  have r2 : ∀ D, k111_0 w (d + 199) n.toInt64 (lN 1) (lN 60) D = some (some (.int (b2_ (decide ¬ (n < nI 1 ∨ nI 60 < n)))), D) := by
    intro D
    rw [lt64 (n := 1) (by omega), lt64 (n := 60) (by omega), x111]
  by_cases c : bad_make s k n
  · refine bo_o (.int (-102)) hS (fun D h => c_make_bad c) (fun D h => ?_)
    show k115_0 w (d + 200) s k n D = _
    rw [e115_0, x114]
    simp (disch := omega) only [nI_add, pk_mul, nI_clamp, nI_leI, nI_ltI, nI_eq, inb_, iz1_, iz2_, iz3_, iz4_, iz5_, reduceIte, op_os, op_vIs, op_vLs, op_vRs, op_vNs, dI_at, dL_at, dI_2, dL_1, Nat.reduceEqDiff, Nat.reduceAdd, Nat.reduceMul, false_and, and_false, true_and, and_true, ne_eq, not_true_eq_false, not_false_eq_true, b2_z, b2_o, b2_n, b2_01, nar_b, nar_0, nar_1, Bool.false_eq_true, Bool.true_eq_false, r1, r2]
    by_cases c1 : s < 0 ∨ 5 < s
    · rw [if_pos (decide_eq_false (not_not_intro c1))]
    · rw [if_neg (by rw [decide_eq_true c1]; decide)]
      by_cases c2 : k < nI 1 ∨ nI 4 < k
      · rw [if_pos (decide_eq_false (not_not_intro c2))]
      · rw [if_neg (by rw [decide_eq_true c2]; decide)]
        have c3 : n < nI 1 ∨ nI 60 < n := by
          rcases c with q | q | q
          · exact absurd q c1
          · exact absurd q c2
          · exact q
        rw [if_neg (by rw [decide_eq_false (not_not_intro c3)]; decide)]
  · obtain ⟨i, k', n', -, rfl, rfl, rfl, hi, hk, hn, -, -, -⟩ := c_make (xs := w.1) (L := w.2) (d := d + 196) (D := (fun _ _ => 0, fun _ _ => 0)) c
    refine bo_i (.int 1) (us_ S i (k', n', 0, fun p _ => p, fun _ => false)) (us_ok hS ⟨hk, hn.1, by show 0 < n'; omega, fun p l hp hl => hp⟩ hn.2) (fun D h => ?_) (fun D h => ?_)
    · obtain ⟨i2, k2, n2, D', e1, e2, e3, hi2, hk2, hn2, e, hc, hx⟩ := c_make (xs := w.1) (L := w.2) (d := d + 196) (D := D) c
      obtain rfl := (nI_eq (by omega) (by omega)).mp e1
      obtain rfl := (nI_eq (by omega) (by omega)).mp e2
      obtain rfl := (nI_eq (by omega) (by omega)).mp e3
      refine ⟨D', e, rc_us h hi hc (fun b hb => (hx b (fun z => hb (Or.inl (by omega)))).1) (rsp_m (rsp_fr h.2.2.2.2 (hx 41 (by omega)).1 (hx 44 (by omega)).1 (hx 24 (by omega)).1) (by omega)), fun b hb => hx b (by omega)⟩
    · have c1 : ls_ 6 (nI i) = true := ls_n hi (by omega)
      obtain ⟨D', e1, e2, e3, e4, e5⟩ := r_make_out (xs := w.1) (L := w.2) (d := d + 199) (show i < 110 by omega) hn.2 hk.2 n' 0 (dI_ (dI_ (dI_ (dI_ D 351 0 (nI 0)) 352 i (nI k')) 353 i (nI n')) 354 i (nI 0)) (by omega) (fun q l hq => absurd hq (by omega)) (fun q hq => absurd hq (by omega))
      have om : om_ i D D' := om_t (om_t (om_t (om_t (om_I (Or.inl ⟨rfl, rfl⟩)) (om_I (Or.inr (Or.inl ⟨Or.inl rfl, rfl⟩)))) (om_I (Or.inr (Or.inl ⟨Or.inr (Or.inl rfl), rfl⟩)))) (om_I (Or.inr (Or.inl ⟨Or.inr (Or.inr rfl), rfl⟩)))) e2
      refine ⟨D', ?_, mr_om hS h ⟨?_, ?_, ?_, e4, e5⟩ om, lw_om om⟩
      · show k115_0 w (d + 200) (nI i) (nI k') (nI n') D = _
        rw [e115_0, x114s]
        simp (disch := omega) only [nI_add, pk_mul, nI_clamp, nI_leI, nI_ltI, nI_eq, inb_, iz1_, iz2_, iz3_, iz4_, iz5_, reduceIte, if_pos, if_neg, op_os, op_vIs, op_vLs, op_vRs, op_vNs, dI_at, dL_at, dI_2, dL_1, Nat.reduceEqDiff, Nat.reduceAdd, Nat.reduceMul, false_and, and_false, true_and, and_true, ne_eq, not_true_eq_false, not_false_eq_true, b2_z, b2_o, b2_n, b2_01, nar_b, nar_0, nar_1, Bool.false_eq_true, Bool.true_eq_false, c1, r1, r2]
        rw [if_neg (by rw [decide_eq_true (show ¬ (k' < 1 ∨ 4 < k') by omega)]; decide), if_pos (by rw [decide_eq_true (show ¬ (n' < 1 ∨ 60 < n') by omega)]; decide)]
        exact e1
      · rw [e3 _ (by omega)]
        simp (disch := omega) only [nI_add, pk_mul, nI_clamp, nI_leI, nI_ltI, nI_eq, inb_, iz1_, iz2_, iz3_, iz4_, iz5_, reduceIte, if_pos, if_neg, op_os, op_vIs, op_vLs, op_vRs, op_vNs, dI_at, dL_at, dI_2, dL_1, Nat.reduceEqDiff, Nat.reduceAdd, Nat.reduceMul, false_and, and_false, true_and, and_true, ne_eq, not_true_eq_false, not_false_eq_true, b2_z, b2_o, b2_n, b2_01, nar_b, nar_0, nar_1, Bool.false_eq_true, Bool.true_eq_false]
      · rw [e3 _ (by omega)]
        simp (disch := omega) only [nI_add, pk_mul, nI_clamp, nI_leI, nI_ltI, nI_eq, inb_, iz1_, iz2_, iz3_, iz4_, iz5_, reduceIte, if_pos, if_neg, op_os, op_vIs, op_vLs, op_vRs, op_vNs, dI_at, dL_at, dI_2, dL_1, Nat.reduceEqDiff, Nat.reduceAdd, Nat.reduceMul, false_and, and_false, true_and, and_true, ne_eq, not_true_eq_false, not_false_eq_true, b2_z, b2_o, b2_n, b2_01, nar_b, nar_0, nar_1, Bool.false_eq_true, Bool.true_eq_false]
      · rw [e3 _ (by omega)]
        simp (disch := omega) only [nI_add, pk_mul, nI_clamp, nI_leI, nI_ltI, nI_eq, inb_, iz1_, iz2_, iz3_, iz4_, iz5_, reduceIte, if_pos, if_neg, op_os, op_vIs, op_vLs, op_vRs, op_vNs, dI_at, dL_at, dI_2, dL_1, Nat.reduceEqDiff, Nat.reduceAdd, Nat.reduceMul, false_and, and_false, true_and, and_true, ne_eq, not_true_eq_false, not_false_eq_true, b2_z, b2_o, b2_n, b2_01, nar_b, nar_0, nar_1, Bool.false_eq_true, Bool.true_eq_false]
theorem bo_bytes (hS : ok_ S) : bo_ S B (fun D => k101_0 w (d + 200) D) (fun D => k175_0 w (d + 200) D) := by
  refine bo_o (.int (nI S.2.1.1)) hS (fun D h => ?_) (fun D h => ?_)
  · rw [e101_0, h.2.1.1]
  · rw [e175_0]
    simp (disch := omega) only [nI_add, pk_mul, nI_clamp, nI_leI, nI_ltI, nI_eq, inb_, iz1_, iz2_, iz3_, iz4_, iz5_, reduceIte, if_pos, if_neg, op_os, op_vIs, op_vLs, op_vRs, op_vNs, dI_at, dL_at, dI_2, dL_1, Nat.reduceEqDiff, Nat.reduceAdd, Nat.reduceMul, false_and, and_false, true_and, and_true, ne_eq, not_true_eq_false, not_false_eq_true, b2_z, b2_o, b2_n, b2_01, nar_b, nar_0, nar_1, Bool.false_eq_true, Bool.true_eq_false, h.2.1.1]
theorem bo_octet (hS : ok_ S) (x : Int32) : bo_ S B (fun D => k100_0 w (d + 200) x D) (fun D => k174_0 w (d + 200) x D) := by
  have hl := hS.2.1.1
  by_cases c : ls_ S.2.1.1 x = true
  · obtain ⟨j, rfl, hj⟩ := ls_t (by omega) c
    refine bo_o (.int (nI (S.2.1.2 j))) hS (fun D h => ?_) (fun D h => ?_)
    · rw [e100_0]
      simp (disch := omega) only [nI_add, pk_mul, nI_clamp, nI_leI, nI_ltI, nI_eq, inb_, iz1_, iz2_, iz3_, iz4_, iz5_, reduceIte, if_pos, if_neg, op_os, op_vIs, op_vLs, op_vRs, op_vNs, dI_at, dL_at, dI_2, dL_1, Nat.reduceEqDiff, Nat.reduceAdd, Nat.reduceMul, false_and, and_false, true_and, and_true, ne_eq, not_true_eq_false, not_false_eq_true, b2_z, b2_o, b2_n, b2_01, nar_b, nar_0, nar_1, Bool.false_eq_true, Bool.true_eq_false, h.2.1.1, h.2.1.2 j hj]
    · rw [e174_0]
      simp (disch := omega) only [nI_add, pk_mul, nI_clamp, nI_leI, nI_ltI, nI_eq, inb_, iz1_, iz2_, iz3_, iz4_, iz5_, reduceIte, if_pos, if_neg, op_os, op_vIs, op_vLs, op_vRs, op_vNs, dI_at, dL_at, dI_2, dL_1, Nat.reduceEqDiff, Nat.reduceAdd, Nat.reduceMul, false_and, and_false, true_and, and_true, ne_eq, not_true_eq_false, not_false_eq_true, b2_z, b2_o, b2_n, b2_01, nar_b, nar_0, nar_1, Bool.false_eq_true, Bool.true_eq_false, h.2.1.1, x111a (show S.2.1.1 < 2 ^ 31 by omega), c, h.2.1.2 j hj]
  · have c' : x < 0 ∨ nI S.2.1.1 ≤ x := Classical.not_not.mp (of_decide_eq_false (bf_ c))
    refine bo_o (.int (-1)) hS (fun D h => ?_) (fun D h => ?_)
    · rw [e100_0]
      rcases c' with q | q
      · rw [if_pos (show x < nI 0 from q)]
      · by_cases q' : x < nI 0
        · rw [if_pos q']
        · rw [if_neg q', h.2.1.1, if_pos q]
    · rw [e174_0]
      simp (disch := omega) only [nI_add, pk_mul, nI_clamp, nI_leI, nI_ltI, nI_eq, inb_, iz1_, iz2_, iz3_, iz4_, iz5_, reduceIte, if_pos, if_neg, op_os, op_vIs, op_vLs, op_vRs, op_vNs, dI_at, dL_at, dI_2, dL_1, Nat.reduceEqDiff, Nat.reduceAdd, Nat.reduceMul, false_and, and_false, true_and, and_true, ne_eq, not_true_eq_false, not_false_eq_true, b2_z, b2_o, b2_n, b2_01, nar_b, nar_0, nar_1, Bool.false_eq_true, Bool.true_eq_false, h.2.1.1, x111a (show S.2.1.1 < 2 ^ 31 by omega), bf_ c]
theorem bo_end (hS : ok_ S) (x : Int32) : bo_ S B (fun D => k92_0 w (d + 200) x D) (fun D => k147_0 w (d + 200) x D) := by
  have hl := hS.2.1.1
  have r : ∀ D, k111_0 w (d + 199) x.toInt64 (lN 0) (nI S.2.1.1).toInt64 D = some (some (.int (b2_ (ls_ (S.2.1.1 + 1) x))), D) := by
    intro D
    have := x111a (w := w) (d := d + 198) (D := D) (show S.2.1.1 + 1 < 2 ^ 31 by omega) x
    rw [pk_sub (by omega), Nat.add_sub_cancel] at this
    exact this
  by_cases c : ls_ (S.2.1.1 + 1) x = true
  · obtain ⟨j, rfl, hj⟩ := ls_t (by omega) c
    refine bo_i (.int (nI 1)) (ut_ S j S.2.1.2) (ut_ok hS (by omega) fun q hq => hS.2.1.2 q (by omega)) (fun D h => ?_) (fun D h => ?_)
    · refine ⟨dI_ D 21 1 (nI j), ?_, rc_m (rc_ut h ⟨?_, fun q hq => ?_⟩ (fun c h1 h2 => up_ne (f := D.1) (by omega))) (by omega), hi_I (by omega)⟩
      · rw [e92_0]
        simp (disch := omega) only [nI_add, pk_mul, nI_clamp, nI_leI, nI_ltI, nI_eq, inb_, iz1_, iz2_, iz3_, iz4_, iz5_, reduceIte, if_pos, if_neg, op_os, op_vIs, op_vLs, op_vRs, op_vNs, dI_at, dL_at, dI_2, dL_1, Nat.reduceEqDiff, Nat.reduceAdd, Nat.reduceMul, false_and, and_false, true_and, and_true, ne_eq, not_true_eq_false, not_false_eq_true, b2_z, b2_o, b2_n, b2_01, nar_b, nar_0, nar_1, Bool.false_eq_true, Bool.true_eq_false, h.2.1.1]
      · simp (disch := omega) only [nI_add, pk_mul, nI_clamp, nI_leI, nI_ltI, nI_eq, inb_, iz1_, iz2_, iz3_, iz4_, iz5_, reduceIte, if_pos, if_neg, op_os, op_vIs, op_vLs, op_vRs, op_vNs, dI_at, dL_at, dI_2, dL_1, Nat.reduceEqDiff, Nat.reduceAdd, Nat.reduceMul, false_and, and_false, true_and, and_true, ne_eq, not_true_eq_false, not_false_eq_true, b2_z, b2_o, b2_n, b2_01, nar_b, nar_0, nar_1, Bool.false_eq_true, Bool.true_eq_false]; rfl
      · simp (disch := omega) only [nI_add, pk_mul, nI_clamp, nI_leI, nI_ltI, nI_eq, inb_, iz1_, iz2_, iz3_, iz4_, iz5_, reduceIte, if_pos, if_neg, op_os, op_vIs, op_vLs, op_vRs, op_vNs, dI_at, dL_at, dI_2, dL_1, Nat.reduceEqDiff, Nat.reduceAdd, Nat.reduceMul, false_and, and_false, true_and, and_true, ne_eq, not_true_eq_false, not_false_eq_true, b2_z, b2_o, b2_n, b2_01, nar_b, nar_0, nar_1, Bool.false_eq_true, Bool.true_eq_false]; exact h.2.1.2 q (by have : q < j := hq; omega)
    · refine ⟨dI_ (dI_ D 351 0 (nI 0)) 351 7 (nI j), ?_, mr_ut h ⟨?_, fun q hq => ?_⟩ (fun c h1 h2 h3 => ?_) (fun j h1 h2 => ?_), lw_t (lw_I (by omega)) (lw_I (by omega))⟩
      · rw [e147_0]
        simp (disch := omega) only [nI_add, pk_mul, nI_clamp, nI_leI, nI_ltI, nI_eq, inb_, iz1_, iz2_, iz3_, iz4_, iz5_, reduceIte, if_pos, if_neg, op_os, op_vIs, op_vLs, op_vRs, op_vNs, dI_at, dL_at, dI_2, dL_1, Nat.reduceEqDiff, Nat.reduceAdd, Nat.reduceMul, false_and, and_false, true_and, and_true, ne_eq, not_true_eq_false, not_false_eq_true, b2_z, b2_o, b2_n, b2_01, nar_b, nar_0, nar_1, Bool.false_eq_true, Bool.true_eq_false, h.2.1.1, r, c]
      · simp (disch := omega) only [nI_add, pk_mul, nI_clamp, nI_leI, nI_ltI, nI_eq, inb_, iz1_, iz2_, iz3_, iz4_, iz5_, reduceIte, if_pos, if_neg, op_os, op_vIs, op_vLs, op_vRs, op_vNs, dI_at, dL_at, dI_2, dL_1, Nat.reduceEqDiff, Nat.reduceAdd, Nat.reduceMul, false_and, and_false, true_and, and_true, ne_eq, not_true_eq_false, not_false_eq_true, b2_z, b2_o, b2_n, b2_01, nar_b, nar_0, nar_1, Bool.false_eq_true, Bool.true_eq_false]; rfl
      · simp (disch := omega) only [nI_add, pk_mul, nI_clamp, nI_leI, nI_ltI, nI_eq, inb_, iz1_, iz2_, iz3_, iz4_, iz5_, reduceIte, if_pos, if_neg, op_os, op_vIs, op_vLs, op_vRs, op_vNs, dI_at, dL_at, dI_2, dL_1, Nat.reduceEqDiff, Nat.reduceAdd, Nat.reduceMul, false_and, and_false, true_and, and_true, ne_eq, not_true_eq_false, not_false_eq_true, b2_z, b2_o, b2_n, b2_01, nar_b, nar_0, nar_1, Bool.false_eq_true, Bool.true_eq_false]; exact h.2.1.2 q (by have : q < j := hq; omega)
      · funext z
        simp (disch := omega) only [nI_add, pk_mul, nI_clamp, nI_leI, nI_ltI, nI_eq, inb_, iz1_, iz2_, iz3_, iz4_, iz5_, reduceIte, if_pos, if_neg, op_os, op_vIs, op_vLs, op_vRs, op_vNs, dI_at, dL_at, dI_2, dL_1, Nat.reduceEqDiff, Nat.reduceAdd, Nat.reduceMul, false_and, and_false, true_and, and_true, ne_eq, not_true_eq_false, not_false_eq_true, b2_z, b2_o, b2_n, b2_01, nar_b, nar_0, nar_1, Bool.false_eq_true, Bool.true_eq_false]
      · simp (disch := omega) only [nI_add, pk_mul, nI_clamp, nI_leI, nI_ltI, nI_eq, inb_, iz1_, iz2_, iz3_, iz4_, iz5_, reduceIte, if_pos, if_neg, op_os, op_vIs, op_vLs, op_vRs, op_vNs, dI_at, dL_at, dI_2, dL_1, Nat.reduceEqDiff, Nat.reduceAdd, Nat.reduceMul, false_and, and_false, true_and, and_true, ne_eq, not_true_eq_false, not_false_eq_true, b2_z, b2_o, b2_n, b2_01, nar_b, nar_0, nar_1, Bool.false_eq_true, Bool.true_eq_false]
  · have c' : x < 0 ∨ nI (S.2.1.1 + 1) ≤ x := Classical.not_not.mp (of_decide_eq_false (bf_ c))
    refine bo_o (.int (-102)) hS (fun D h => ?_) (fun D h => ?_)
    · rw [e92_0]
      by_cases q' : x < nI 0
      · rw [if_pos q']
      · rcases c' with q | q
        · exact absurd q q'
        · rw [if_neg q', h.2.1.1, if_neg]
          exact Int32.not_le.mpr (Int32.lt_of_lt_of_le (nI_lt (by omega) (by omega)) q)
    · rw [e147_0]
      simp (disch := omega) only [nI_add, pk_mul, nI_clamp, nI_leI, nI_ltI, nI_eq, inb_, iz1_, iz2_, iz3_, iz4_, iz5_, reduceIte, if_pos, if_neg, op_os, op_vIs, op_vLs, op_vRs, op_vNs, dI_at, dL_at, dI_2, dL_1, Nat.reduceEqDiff, Nat.reduceAdd, Nat.reduceMul, false_and, and_false, true_and, and_true, ne_eq, not_true_eq_false, not_false_eq_true, b2_z, b2_o, b2_n, b2_01, nar_b, nar_0, nar_1, Bool.false_eq_true, Bool.true_eq_false, h.2.1.1, r, bf_ c]
theorem bo_feed (hS : ok_ S) (a b c e f : Int32) : bo_ S B (fun D => k91_0 w (d + 200) a b c e f D) (fun D => k146_0 w (d + 200) a b c e f D) := by
  have hl := hS.2.1.1
  by_cases q : S.2.1.1 + 20 ≤ 500
  · refine bo_i (.int (nI (S.2.1.1 + 20))) (ut_ S (S.2.1.1 + 20) (fe_ S.2.1.1 S.2.1.2 a b c e f)) (ut_ok hS q fun j hj => ?_) (fun D h => ?_) (fun D h => ?_)
    · unfold fe_
      by_cases z : j < S.2.1.1
      · rw [if_pos z]; exact hS.2.1.2 j z
      · rw [if_neg z]; exact fd_lt _ _ _ _ _ _
    · obtain ⟨D', e1, e2, e3⟩ := x91 (w := w) (d := d + 198) a b c e f h.2.1 q
      exact ⟨D', e1, rc_m (rc_ut h e2 fun c h1 h2 => (e3 c (by omega)).1) (by omega), fun b hb => e3 b (by omega)⟩
    · rw [e146_0]
      simp (disch := omega) only [nI_add, pk_mul, nI_clamp, nI_leI, nI_ltI, nI_eq, inb_, iz1_, iz2_, iz3_, iz4_, iz5_, reduceIte, if_pos, if_neg, op_os, op_vIs, op_vLs, op_vRs, op_vNs, dI_at, dL_at, dI_2, dL_1, Nat.reduceEqDiff, Nat.reduceAdd, Nat.reduceMul, false_and, and_false, true_and, and_true, ne_eq, not_true_eq_false, not_false_eq_true, b2_z, b2_o, b2_n, b2_01, nar_b, nar_0, nar_1, Bool.false_eq_true, Bool.true_eq_false, h.2.1.1]
      obtain ⟨D', e1, e2, e3⟩ := lp_ (fun i (E : dy_) => k146_24 w (d + 200) a b c e f (nI i) E) (fun i E => (E.1 351 7 = nI (S.2.1.1 + i) ∧ ∀ j, j < S.2.1.1 + i → E.1 357 j &&& nI 255 = nI (fe_ S.2.1.1 S.2.1.2 a b c e f j)) ∧ (∀ c, c ≠ 351 → c ≠ 357 → E.1 c = D.1 c) ∧ (∀ j, j ≠ 7 → j ≠ 0 → E.1 351 j = D.1 351 j) ∧ E.2 = D.2) 20 (s := dI_ D 351 0 (nI 0)) (by
          rintro i E hi ⟨⟨t1, t2⟩, t3, t4, t5⟩
          have key : ∀ v : Int32, v = (if i < 4 then a else if i < 8 then b else if i < 12 then c else if i < 16 then e else f) → ∃ s', k146_77 w (d + 200) a b c e f (nI i) v E = k146_24 w (d + 200) a b c e f (nI (i + 1)) s' ∧ ((s'.1 351 7 = nI (S.2.1.1 + (i + 1)) ∧ ∀ j, j < S.2.1.1 + (i + 1) → s'.1 357 j &&& nI 255 = nI (fe_ S.2.1.1 S.2.1.2 a b c e f j)) ∧ (∀ c, c ≠ 351 → c ≠ 357 → s'.1 c = D.1 c) ∧ (∀ j, j ≠ 7 → j ≠ 0 → s'.1 351 j = D.1 351 j) ∧ s'.2 = D.2) := by
            intro v hv
            refine ⟨dI_ (dI_ E 357 (S.2.1.1 + i) (v >>> (nI (24 - 8 * (i % 4)) &&& 31)).toInt8.toInt32) 351 7 (nI (S.2.1.1 + i + 1)), ?_, ⟨⟨?_, fun j hj => ?_⟩, fun c h1 h2 => ?_, fun j h1 h2 => ?_, ?_⟩⟩
            · rw [e146_77]
              simp (disch := omega) only [nI_add, pk_mul, nI_clamp, nI_leI, nI_ltI, nI_eq, inb_, iz1_, iz2_, iz3_, iz4_, iz5_, reduceIte, if_pos, if_neg, op_os, op_vIs, op_vLs, op_vRs, op_vNs, dI_at, dL_at, dI_2, dL_1, Nat.reduceEqDiff, Nat.reduceAdd, Nat.reduceMul, false_and, and_false, true_and, and_true, ne_eq, not_true_eq_false, not_false_eq_true, b2_z, b2_o, b2_n, b2_01, nar_b, nar_0, nar_1, Bool.false_eq_true, Bool.true_eq_false, t1, pk_rem, pk_sub, pk_vb]
            · simp (disch := omega) only [nI_add, pk_mul, nI_clamp, nI_leI, nI_ltI, nI_eq, inb_, iz1_, iz2_, iz3_, iz4_, iz5_, reduceIte, if_pos, if_neg, op_os, op_vIs, op_vLs, op_vRs, op_vNs, dI_at, dL_at, dI_2, dL_1, Nat.reduceEqDiff, Nat.reduceAdd, Nat.reduceMul, false_and, and_false, true_and, and_true, ne_eq, not_true_eq_false, not_false_eq_true, b2_z, b2_o, b2_n, b2_01, nar_b, nar_0, nar_1, Bool.false_eq_true, Bool.true_eq_false]; rfl
            · simp (disch := omega) only [nI_add, pk_mul, nI_clamp, nI_leI, nI_ltI, nI_eq, inb_, iz1_, iz2_, iz3_, iz4_, iz5_, reduceIte, op_os, op_vIs, op_vLs, op_vRs, op_vNs, dI_at, dL_at, dI_2, dL_1, Nat.reduceEqDiff, Nat.reduceAdd, Nat.reduceMul, false_and, and_false, true_and, and_true, ne_eq, not_true_eq_false, not_false_eq_true, b2_z, b2_o, b2_n, b2_01, nar_b, nar_0, nar_1, Bool.false_eq_true, Bool.true_eq_false]
              by_cases z : j = S.2.1.1 + i
              · rw [if_pos z, by_r v (by omega)]
                unfold fe_ fd_
                rw [if_neg (by omega), hv, show j - S.2.1.1 = i by omega]
              · rw [if_neg z]
                exact t2 j (by omega)
            · rw [← t3 c h1 h2]
              funext z
              simp (disch := omega) only [nI_add, pk_mul, nI_clamp, nI_leI, nI_ltI, nI_eq, inb_, iz1_, iz2_, iz3_, iz4_, iz5_, reduceIte, if_pos, if_neg, op_os, op_vIs, op_vLs, op_vRs, op_vNs, dI_at, dL_at, dI_2, dL_1, Nat.reduceEqDiff, Nat.reduceAdd, Nat.reduceMul, false_and, and_false, true_and, and_true, ne_eq, not_true_eq_false, not_false_eq_true, b2_z, b2_o, b2_n, b2_01, nar_b, nar_0, nar_1, Bool.false_eq_true, Bool.true_eq_false]
            · rw [← t4 j h1 h2]
              simp (disch := omega) only [nI_add, pk_mul, nI_clamp, nI_leI, nI_ltI, nI_eq, inb_, iz1_, iz2_, iz3_, iz4_, iz5_, reduceIte, if_pos, if_neg, op_os, op_vIs, op_vLs, op_vRs, op_vNs, dI_at, dL_at, dI_2, dL_1, Nat.reduceEqDiff, Nat.reduceAdd, Nat.reduceMul, false_and, and_false, true_and, and_true, ne_eq, not_true_eq_false, not_false_eq_true, b2_z, b2_o, b2_n, b2_01, nar_b, nar_0, nar_1, Bool.false_eq_true, Bool.true_eq_false]
            · exact t5
          show ∃ s', k146_24 w (d + 200) a b c e f (nI i) E = _ ∧ _
          rw [e146_24]
          simp (disch := omega) only [nI_add, pk_mul, nI_clamp, nI_leI, nI_ltI, nI_eq, inb_, iz1_, iz2_, iz3_, iz4_, iz5_, reduceIte, op_os, op_vIs, op_vLs, op_vRs, op_vNs, dI_at, dL_at, dI_2, dL_1, Nat.reduceEqDiff, Nat.reduceAdd, Nat.reduceMul, false_and, and_false, true_and, and_true, ne_eq, not_true_eq_false, not_false_eq_true, b2_z, b2_o, b2_n, b2_01, nar_b, nar_0, nar_1, Bool.false_eq_true, Bool.true_eq_false]
          rw [if_neg (by omega)]
          by_cases z4 : 4 ≤ i
          · rw [if_pos z4]
            by_cases z8 : 8 ≤ i
            · rw [if_pos z8]
              by_cases z12 : 12 ≤ i
              · rw [if_pos z12]
                by_cases z16 : 16 ≤ i
                · rw [if_pos z16]
                  exact key f (by simp (disch := omega) only [if_neg])
                · rw [if_neg z16]
                  exact key e (by simp (disch := omega) only [if_neg, if_pos])
              · rw [if_neg z12]
                exact key c (by simp (disch := omega) only [if_neg, if_pos])
            · rw [if_neg z8]
              exact key b (by simp (disch := omega) only [if_neg, if_pos])
          · rw [if_neg z4]
            exact key a (by simp (disch := omega) only [if_pos])) ⟨⟨by simp (disch := omega) only [nI_add, pk_mul, nI_clamp, nI_leI, nI_ltI, nI_eq, inb_, iz1_, iz2_, iz3_, iz4_, iz5_, reduceIte, if_pos, if_neg, op_os, op_vIs, op_vLs, op_vRs, op_vNs, dI_at, dL_at, dI_2, dL_1, Nat.reduceEqDiff, Nat.reduceAdd, Nat.reduceMul, false_and, and_false, true_and, and_true, ne_eq, not_true_eq_false, not_false_eq_true, b2_z, b2_o, b2_n, b2_01, nar_b, nar_0, nar_1, Bool.false_eq_true, Bool.true_eq_false]; exact h.2.1.1, fun j hj => by
              simp (disch := omega) only [nI_add, pk_mul, nI_clamp, nI_leI, nI_ltI, nI_eq, inb_, iz1_, iz2_, iz3_, iz4_, iz5_, reduceIte, if_pos, if_neg, op_os, op_vIs, op_vLs, op_vRs, op_vNs, dI_at, dL_at, dI_2, dL_1, Nat.reduceEqDiff, Nat.reduceAdd, Nat.reduceMul, false_and, and_false, true_and, and_true, ne_eq, not_true_eq_false, not_false_eq_true, b2_z, b2_o, b2_n, b2_01, nar_b, nar_0, nar_1, Bool.false_eq_true, Bool.true_eq_false]
              unfold fe_
              rw [if_pos (by omega)]
              exact h.2.1.2 j (by omega)⟩, fun c h1 h2 => by funext z; simp (disch := omega) only [nI_add, pk_mul, nI_clamp, nI_leI, nI_ltI, nI_eq, inb_, iz1_, iz2_, iz3_, iz4_, iz5_, reduceIte, if_pos, if_neg, op_os, op_vIs, op_vLs, op_vRs, op_vNs, dI_at, dL_at, dI_2, dL_1, Nat.reduceEqDiff, Nat.reduceAdd, Nat.reduceMul, false_and, and_false, true_and, and_true, ne_eq, not_true_eq_false, not_false_eq_true, b2_z, b2_o, b2_n, b2_01, nar_b, nar_0, nar_1, Bool.false_eq_true, Bool.true_eq_false], fun j h1 h2 => by simp (disch := omega) only [nI_add, pk_mul, nI_clamp, nI_leI, nI_ltI, nI_eq, inb_, iz1_, iz2_, iz3_, iz4_, iz5_, reduceIte, if_pos, if_neg, op_os, op_vIs, op_vLs, op_vRs, op_vNs, dI_at, dL_at, dI_2, dL_1, Nat.reduceEqDiff, Nat.reduceAdd, Nat.reduceMul, false_and, and_false, true_and, and_true, ne_eq, not_true_eq_false, not_false_eq_true, b2_z, b2_o, b2_n, b2_01, nar_b, nar_0, nar_1, Bool.false_eq_true, Bool.true_eq_false], rfl⟩
      refine ⟨D', e1.trans ?_, mr_ut h e2 (fun c h1 h2 _ => e3.1 c h1 h2) e3.2.1, fun c hc => ⟨e3.1 c (by omega) (by omega), by rw [e3.2.2]⟩⟩
      show k146_24 w (d + 200) a b c e f (nI 20) D' = _
      rw [e146_24]
      simp (disch := omega) only [nI_add, pk_mul, nI_clamp, nI_leI, nI_ltI, nI_eq, inb_, iz1_, iz2_, iz3_, iz4_, iz5_, reduceIte, if_pos, if_neg, op_os, op_vIs, op_vLs, op_vRs, op_vNs, dI_at, dL_at, dI_2, dL_1, Nat.reduceEqDiff, Nat.reduceAdd, Nat.reduceMul, false_and, and_false, true_and, and_true, ne_eq, not_true_eq_false, not_false_eq_true, b2_z, b2_o, b2_n, b2_01, nar_b, nar_0, nar_1, Bool.false_eq_true, Bool.true_eq_false, e2.1, Nat.le_refl]
  · refine bo_o (.int (-104)) hS (fun D h => ?_) (fun D h => ?_)
    · rw [e91_0]
      simp (disch := omega) only [nI_add, pk_mul, nI_clamp, nI_leI, nI_ltI, nI_eq, inb_, iz1_, iz2_, iz3_, iz4_, iz5_, reduceIte, if_pos, if_neg, op_os, op_vIs, op_vLs, op_vRs, op_vNs, dI_at, dL_at, dI_2, dL_1, Nat.reduceEqDiff, Nat.reduceAdd, Nat.reduceMul, false_and, and_false, true_and, and_true, ne_eq, not_true_eq_false, not_false_eq_true, b2_z, b2_o, b2_n, b2_01, nar_b, nar_0, nar_1, Bool.false_eq_true, Bool.true_eq_false, h.2.1.1]
    · rw [e146_0]
      simp (disch := omega) only [nI_add, pk_mul, nI_clamp, nI_leI, nI_ltI, nI_eq, inb_, iz1_, iz2_, iz3_, iz4_, iz5_, reduceIte, if_pos, if_neg, op_os, op_vIs, op_vLs, op_vRs, op_vNs, dI_at, dL_at, dI_2, dL_1, Nat.reduceEqDiff, Nat.reduceAdd, Nat.reduceMul, false_and, and_false, true_and, and_true, ne_eq, not_true_eq_false, not_false_eq_true, b2_z, b2_o, b2_n, b2_01, nar_b, nar_0, nar_1, Bool.false_eq_true, Bool.true_eq_false, h.2.1.1]
end PUB2
