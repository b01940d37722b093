/-! join and smaller -/
theorem us_id (S : sp_) (i : Nat) : us_ S i (S.1 i) = S := by
  unfold us_
  refine Prod.ext ?_ rfl
  funext j
  show (if j = i then S.1 i else S.1 j) = S.1 j
  by_cases z : j = i
  · rw [if_pos z, z]
  · rw [if_neg z]
theorem rc_wk {D D' : dy_} {S : sp_} {B B' : Nat} (h : rc_ D S B) (hk : ∀ b, ¬ ((24 ≤ b ∧ b ≤ 29) ∨ (36 ≤ b ∧ b ≤ 341)) → D'.1 b = D.1 b) (hs : rsp_ D' B') : rc_ D' S B' := by
  have := rc_us (i := 0) h (by omega) (cm_fr (h.1 0 (by omega)) (hk _ (by omega)) (hk _ (by omega)) (hk _ (by omega))) (fun b hb => hk b (fun z => hb (Or.inr z))) hs
  rwa [us_id] at this
theorem mr_om6 {D D' : dy_} {S : sp_} {m : Nat} (hS : ok_ S) (h : mr_ D S) (hm : 6 ≤ m) (g : om_ m D D') : mr_ D' S := by
  obtain ⟨h1, h2, h3⟩ := h
  refine ⟨fun i hi => rm_om ⟨(hS.1 i hi).2, (hS.1 i hi).1.1.2⟩ (h1 i hi) g (by omega), ?_, ?_⟩
  · unfold yt_ at *
    rw [g.2.2.1 7 (by omega), g.2.1 357 (by omega)]
    exact h2
  · unfold ym_ at *
    rw [g.2.2.1 47 (by omega), g.2.2.1 48 (by omega), g.2.2.1 49 (by omega), g.2.1 384 (by omega), g.2.1 385 (by omega)]
    exact h3
theorem lfm_nn {M : ma_} (hM : wm_ M) (hn : M.2.1 ≤ 60) : nn_ (lfm_ M) ≤ 60 := by
  have := cn_m (nf_1 (lfm_ M))
  have := (lfm_wm hM hn).2
  omega
theorem ml_27 : 27 ∈ ml_ := by decide +kernel
theorem cap_27 : cap_ 27 = 60 := by decide +kernel
section PJ
variable {w : (Nat → Int32) × Nat} {d : Nat} {D : dy_} {M A B : ma_} {S : sp_} {B0 : Nat}
/-- makeSmallest -/
theorem x65 {a t Bs : Nat} (ha : a ∈ ml_) (ha24 : a ≠ 24) (ht : t ∈ ml_) (ht24 : t ≠ 24) (hcap : 60 ≤ cap_ t) (hc : cm_ D a M) (hM : wm_ M) (hn : M.2.1 ≤ 60) (ca : M.2.1 ≤ cap_ a) (h30 : cm_ D 30 n1_) (hs : rsp_ D Bs) (hBs : Bs + 1000 < 2 ^ 31) : ∃ D', k65_0 w (d + 5) a t D = some (none, D') ∧ cm_ D' t (qm_ (lfm_ M)) ∧ D'.1 41 6 = nI (rd_ct (lfm_ M)) ∧ rsp_ D' (Bs + 1000) ∧ sx_ (jw_ t) D D' := by
  obtain ⟨D1, e1, e2, e3⟩ := x64 (w := w) (d := d + 1) ha ha24 hc hM hn ca h30 hs.1
  have hl := lfm_wm hM hn
  obtain ⟨D', r1, r2, r3, r4⟩ := x1 (w := w) (d := d) ht ht24 hl.1 e2 (by omega) hcap (rsp_fw hs e2.2.2.1 (e3 41 (by unfold pw_; omega)).1 (e3 44 (by unfold pw_; omega)).1) hBs
  have r5 := r3 (lfm_nn hM hn)
  refine ⟨D', ?_, r5.2.1, r5.2.2, r1, sx_t (sx_w e3 (fun b hb => by unfold pw_ at hb; unfold jw_ jx_; omega)) (sx_w r2 (fun b hb => by unfold jw_ jx_; omega))⟩
  rw [e65_0 ha ht]
  simp (disch := omega) only [nI_add, pk_mul, nI_clamp, nI_leI, nI_ltI, nI_eq, inb_, iz1_, iz2_, iz3_, iz4_, iz5_, reduceIte, if_pos, if_neg, op_os, op_vIs, op_vLs, op_vRs, op_vNs, dI_at, dL_at, dI_2, dL_1, Nat.reduceEqDiff, Nat.reduceAdd, Nat.reduceMul, false_and, and_false, true_and, and_true, ne_eq, not_true_eq_false, not_false_eq_true, b2_z, b2_o, b2_n, b2_01, nar_b, nar_0, nar_1, Bool.false_eq_true, Bool.true_eq_false, e1, r5.1]
theorem x109 (hS : ok_ S) (h : rs_ D S) (i j : Nat) (hi : i < 6) (hj : j < 6) : k109_0 w (d + 2) (nI i) (nI j) D = some (some (.int (if (S.1 i).1 = (S.1 j).1 then nI 0 else -103)), D) := by
  have k1 := (hS.1 i hi).1.1
  have k2 := (hS.1 j hj).1.1
  rw [e109_0, x106s, ls_n hi (by omega)]
  simp (disch := omega) only [nI_add, pk_mul, nI_clamp, nI_leI, nI_ltI, nI_eq, inb_, iz1_, iz2_, iz3_, iz4_, iz5_, reduceIte, op_os, op_vIs, op_vLs, op_vRs, op_vNs, dI_at, dL_at, dI_2, dL_1, Nat.reduceEqDiff, Nat.reduceAdd, Nat.reduceMul, false_and, and_false, true_and, and_true, ne_eq, not_true_eq_false, not_false_eq_true, b2_z, b2_o, b2_n, b2_01, nar_b, nar_0, nar_1, Bool.false_eq_true, Bool.true_eq_false, x106s, ls_n hj (show 6 < 2 ^ 31 by omega), sl1_, sl2_, (h i hi).1, (h j hj).1]
  by_cases z : (S.1 i).1 = (S.1 j).1
  · rw [if_pos z]
    simp (disch := omega) only [nI_add, pk_mul, nI_clamp, nI_leI, nI_ltI, nI_eq, inb_, iz1_, iz2_, iz3_, iz4_, iz5_, reduceIte, if_pos, if_neg, op_os, op_vIs, op_vLs, op_vRs, op_vNs, dI_at, dL_at, dI_2, dL_1, Nat.reduceEqDiff, Nat.reduceAdd, Nat.reduceMul, false_and, and_false, true_and, and_true, ne_eq, not_true_eq_false, not_false_eq_true, b2_z, b2_o, b2_n, b2_01, nar_b, nar_0, nar_1, Bool.false_eq_true, Bool.true_eq_false]
  · rw [if_neg z]
    simp (disch := omega) only [nI_add, pk_mul, nI_clamp, nI_leI, nI_ltI, nI_eq, inb_, iz1_, iz2_, iz3_, iz4_, iz5_, reduceIte, if_pos, if_neg, op_os, op_vIs, op_vLs, op_vRs, op_vNs, dI_at, dL_at, dI_2, dL_1, Nat.reduceEqDiff, Nat.reduceAdd, Nat.reduceMul, false_and, and_false, true_and, and_true, ne_eq, not_true_eq_false, not_false_eq_true, b2_z, b2_o, b2_n, b2_01, nar_b, nar_0, nar_1, Bool.false_eq_true, Bool.true_eq_false]
theorem x109b {i : Nat} {b : Int32} (hi : i < 6) (hb : ls_ 6 b = false) : k109_0 w (d + 2) (nI i) b D = some (some (.int (-102)), D) := by
  rw [e109_0, x106s, ls_n hi (by omega), op_os, op_vIs, if_neg (by decide), x106s, hb]
  rfl
theorem bo_join (hS : ok_ S) (hB : B0 + 4000000 < 2 ^ 31) (s how a b : Int32) : bo_ S B0 (fun D => k90_0 w (d + 200) s how a b D) (fun D => k145_0 w (d + 200) s how a b D) := by
  by_cases c1 : ls_ 6 s = true
  · obtain ⟨i, rfl, hi⟩ := ls_t (by omega) c1
    by_cases c2 : ls_ 8 how = true
    · obtain ⟨h, rfl, hh⟩ := ls_t (by omega) c2
      by_cases c3 : ls_ 6 a = true
      · obtain ⟨j, rfl, hj⟩ := ls_t (by omega) c3
        obtain ⟨wA, nA⟩ := hS.1 j hj
        -- what both do when the call is good
        have good : ∀ (l : Nat), l < 6 → (S.1 j).1 = (S.1 l).1 → (h < 5 → b = nI l) → (∀ D, rc_ D S B0 → k90_0 w (d + 200) (nI i) (nI h) (nI j) b D = op_o (k69_0 w (d + 199) (3 + 3 * i) (nI h) (3 + 3 * j) (3 + 3 * l) D) none (fun p4 => op_vI p4.1 none (fun n4 => some (some (.int n4), p4.2)))) → (∀ D, mr_ D S → k145_0 w (d + 200) (nI i) (nI h) (nI j) b D = k145_71 w (d + 200) (nI i) (nI h) (nI j) b (dI_ D 351 0 (nI 0))) → bo_ S B0 (fun D => k90_0 w (d + 200) (nI i) (nI h) (nI j) b D) (fun D => k145_0 w (d + 200) (nI i) (nI h) (nI j) b D) := by
          intro l hl hkk hbl hC hR
          obtain ⟨wB, nB⟩ := hS.1 l hl
          have cls : ∀ D, rc_ D S B0 → ∃ D', rsp_ D' (B0 + 1000) ∧ sx_ (jw_ (3 + 3 * i)) D D' ∧ (jok_ h (S.1 j) (S.1 l) → k69_0 w (d + 199) (3 + 3 * i) (nI h) (3 + 3 * j) (3 + 3 * l) D = some (some (.int (nI (nn_ (jm_ h (S.1 j) (S.1 l))))), D') ∧ cm_ D' (3 + 3 * i) (qm_ (jm_ h (S.1 j) (S.1 l)))) ∧ (¬ jok_ h (S.1 j) (S.1 l) → k69_0 w (d + 199) (3 + 3 * i) (nI h) (3 + 3 * j) (3 + 3 * l) D = some (some (.int (-104)), D') ∧ sx_ jx_ D D') := fun D hD => x69 (w := w) (d := d + 193) hh (sl_ hi).2 (by omega) (by rw [sl4_ hi]; omega) (sl_ hj).2 (sl_ hl).2 (by omega) (by omega) (hD.1 j hj) (hD.1 l hl) wA wB nA nB (by rw [sl4_ hj]; exact nA) (by rw [sl4_ hl]; exact nB) hkk hD.2.2.2.1.2 hD.2.2.2.2 (by omega)
          by_cases ok : jok_ h (S.1 j) (S.1 l)
          · have hw := jm_w hh wA wB nA nB ok.1
            refine bo_i (.int (nI (nn_ (jm_ h (S.1 j) (S.1 l))))) (us_ S i (qm_ (jm_ h (S.1 j) (S.1 l)))) (us_ok hS (qm_wm hw.1) ok.2) (fun D hD => ?_) (fun D hD => ?_)
            · obtain ⟨D', e1, e2, e3, e4⟩ := cls D hD
              refine ⟨D', ?_, rc_us hD hi (e3 ok).2 (fun b hb => (e2 b (fun z => hb (by unfold jw_ jx_ at z; unfold wk_; omega))).1) (rsp_m e1 (by omega)), fun b hb => e2 b (by unfold jw_ jx_; omega)⟩
              rw [hC D hD, (e3 ok).1]
              simp (disch := omega) only [nI_add, pk_mul, nI_clamp, nI_leI, nI_ltI, nI_eq, inb_, iz1_, iz2_, iz3_, iz4_, iz5_, reduceIte, if_pos, if_neg, op_os, op_vIs, op_vLs, op_vRs, op_vNs, dI_at, dL_at, dI_2, dL_1, Nat.reduceEqDiff, Nat.reduceAdd, Nat.reduceMul, false_and, and_false, true_and, and_true, ne_eq, not_true_eq_false, not_false_eq_true, b2_z, b2_o, b2_n, b2_01, nar_b, nar_0, nar_1, Bool.false_eq_true, Bool.true_eq_false]
            · have h' := mr_0 (v := nI 0) hD
              obtain ⟨D1, D', f1, f2, f3, f4⟩ := (x144 (w := w) (d := d + 194) (t := i) (n := l) (B := S.1 l) (i4 := b) hh (by omega) (show j < 110 by omega) (fun z => ⟨by omega, hbl z, h'.1 l hl⟩) (h'.1 j hj) wA wB nA nB hkk).1 ok
              refine ⟨D', ?_, mr_om hS (mr_rw h' f3) f2 f4, lw_t (lw_I (by omega)) (lw_t (lw_rw f3) (lw_om f4))⟩
              rw [hR D hD, e145_71, f1]
              simp (disch := omega) only [nI_add, pk_mul, nI_clamp, nI_leI, nI_ltI, nI_eq, inb_, iz1_, iz2_, iz3_, iz4_, iz5_, reduceIte, if_pos, if_neg, op_os, op_vIs, op_vLs, op_vRs, op_vNs, dI_at, dL_at, dI_2, dL_1, Nat.reduceEqDiff, Nat.reduceAdd, Nat.reduceMul, false_and, and_false, true_and, and_true, ne_eq, not_true_eq_false, not_false_eq_true, b2_z, b2_o, b2_n, b2_01, nar_b, nar_0, nar_1, Bool.false_eq_true, Bool.true_eq_false, f2.2.1]
              rfl
          · refine bo_i (.int (-104)) S hS (fun D hD => ?_) (fun D hD => ?_)
            · obtain ⟨D', e1, e2, e3, e4⟩ := cls D hD
              have e5 := (e4 ok).2
              refine ⟨D', ?_, rc_wk hD (fun b hb => (e5 b (fun z => hb (by unfold jx_ at z; omega))).1) (rsp_m e1 (by omega)), fun b hb => e5 b (by unfold jx_; omega)⟩
              rw [hC D hD, (e4 ok).1]
              simp (disch := omega) only [nI_add, pk_mul, nI_clamp, nI_leI, nI_ltI, nI_eq, inb_, iz1_, iz2_, iz3_, iz4_, iz5_, reduceIte, if_pos, if_neg, op_os, op_vIs, op_vLs, op_vRs, op_vNs, dI_at, dL_at, dI_2, dL_1, Nat.reduceEqDiff, Nat.reduceAdd, Nat.reduceMul, false_and, and_false, true_and, and_true, ne_eq, not_true_eq_false, not_false_eq_true, b2_z, b2_o, b2_n, b2_01, nar_b, nar_0, nar_1, Bool.false_eq_true, Bool.true_eq_false]
            · have h' := mr_0 (v := nI 0) hD
              obtain ⟨D', f1, f2⟩ := (x144 (w := w) (d := d + 194) (t := i) (n := l) (B := S.1 l) (i4 := b) hh (by omega) (show j < 110 by omega) (fun z => ⟨by omega, hbl z, h'.1 l hl⟩) (h'.1 j hj) wA wB nA nB hkk).2 ok
              refine ⟨D', ?_, mr_rw h' f2, lw_t (lw_I (by omega)) (lw_rw f2)⟩
              rw [hR D hD, e145_71, f1]
              simp (disch := omega) only [nI_add, pk_mul, nI_clamp, nI_leI, nI_ltI, nI_eq, inb_, iz1_, iz2_, iz3_, iz4_, iz5_, reduceIte, if_pos, if_neg, op_os, op_vIs, op_vLs, op_vRs, op_vNs, dI_at, dL_at, dI_2, dL_1, Nat.reduceEqDiff, Nat.reduceAdd, Nat.reduceMul, false_and, and_false, true_and, and_true, ne_eq, not_true_eq_false, not_false_eq_true, b2_z, b2_o, b2_n, b2_01, nar_b, nar_0, nar_1, Bool.false_eq_true, Bool.true_eq_false]
        by_cases c5 : h < 5
        · by_cases c4 : ls_ 6 b = true
          · obtain ⟨l, rfl, hl⟩ := ls_t (by omega) c4
            have k1 := wA.1
            have k2 := (hS.1 l hl).1.1
            by_cases c6 : (S.1 j).1 = (S.1 l).1
            · refine good l hl c6 (fun _ => rfl) (fun D hD => ?_) (fun D hD => ?_)
              · have := x109 (w := w) (d := d + 197) hS hD.1 j l hj hl
                rw [if_pos c6] at this
                rw [e90_0, x106s, c1]
                simp (disch := omega) only [nI_add, pk_mul, nI_clamp, nI_leI, nI_ltI, nI_eq, inb_, iz1_, iz2_, iz3_, iz4_, iz5_, reduceIte, if_pos, if_neg, op_os, op_vIs, op_vLs, op_vRs, op_vNs, dI_at, dL_at, dI_2, dL_1, Nat.reduceEqDiff, Nat.reduceAdd, Nat.reduceMul, false_and, and_false, true_and, and_true, ne_eq, not_true_eq_false, not_false_eq_true, b2_z, b2_o, b2_n, b2_01, nar_b, nar_0, nar_1, Bool.false_eq_true, Bool.true_eq_false, x106s, c3, this, sl1_]
              · have h' := mr_0 (v := nI 0) hD
                rw [e145_0, x114s, c1]
                simp (disch := omega) only [nI_add, pk_mul, nI_clamp, nI_leI, nI_ltI, nI_eq, inb_, iz1_, iz2_, iz3_, iz4_, iz5_, reduceIte, if_pos, if_neg, op_os, op_vIs, op_vLs, op_vRs, op_vNs, dI_at, dL_at, dI_2, dL_1, Nat.reduceEqDiff, Nat.reduceAdd, Nat.reduceMul, false_and, and_false, true_and, and_true, ne_eq, not_true_eq_false, not_false_eq_true, b2_z, b2_o, b2_n, b2_01, nar_b, nar_0, nar_1, Bool.false_eq_true, Bool.true_eq_false, x111k, c2, x114s, c3, c4, e145_47, (hD.1 j hj).1, (hD.1 l hl).1]
            · refine bo_o (.int (-103)) hS (fun D hD => ?_) (fun D hD => ?_)
              · have := x109 (w := w) (d := d + 197) hS hD.1 j l hj hl
                rw [if_neg c6] at this
                rw [e90_0, x106s, c1]
                simp (disch := omega) only [nI_add, pk_mul, nI_clamp, nI_leI, nI_ltI, nI_eq, inb_, iz1_, iz2_, iz3_, iz4_, iz5_, reduceIte, if_pos, if_neg, op_os, op_vIs, op_vLs, op_vRs, op_vNs, dI_at, dL_at, dI_2, dL_1, Nat.reduceEqDiff, Nat.reduceAdd, Nat.reduceMul, false_and, and_false, true_and, and_true, ne_eq, not_true_eq_false, not_false_eq_true, b2_z, b2_o, b2_n, b2_01, nar_b, nar_0, nar_1, Bool.false_eq_true, Bool.true_eq_false, x106s, c3, this]
                rw [if_neg (by decide)]
              · rw [e145_0, x114s, c1]
                simp (disch := omega) only [nI_add, pk_mul, nI_clamp, nI_leI, nI_ltI, nI_eq, inb_, iz1_, iz2_, iz3_, iz4_, iz5_, reduceIte, if_pos, if_neg, op_os, op_vIs, op_vLs, op_vRs, op_vNs, dI_at, dL_at, dI_2, dL_1, Nat.reduceEqDiff, Nat.reduceAdd, Nat.reduceMul, false_and, and_false, true_and, and_true, ne_eq, not_true_eq_false, not_false_eq_true, b2_z, b2_o, b2_n, b2_01, nar_b, nar_0, nar_1, Bool.false_eq_true, Bool.true_eq_false, x111k, c2, x114s, c3, c4, e145_47, (hD.1 j hj).1, (hD.1 l hl).1]
          · refine bo_o (.int (-102)) hS (fun D hD => ?_) (fun D hD => ?_)
            · rw [e90_0, x106s, c1]
              simp (disch := omega) only [nI_add, pk_mul, nI_clamp, nI_leI, nI_ltI, nI_eq, inb_, iz1_, iz2_, iz3_, iz4_, iz5_, reduceIte, if_pos, if_neg, op_os, op_vIs, op_vLs, op_vRs, op_vNs, dI_at, dL_at, dI_2, dL_1, Nat.reduceEqDiff, Nat.reduceAdd, Nat.reduceMul, false_and, and_false, true_and, and_true, ne_eq, not_true_eq_false, not_false_eq_true, b2_z, b2_o, b2_n, b2_01, nar_b, nar_0, nar_1, Bool.false_eq_true, Bool.true_eq_false, x106s, c3, x109b hj (bf_ c4)]
              rw [if_neg (by decide)]
            · rw [e145_0, x114s, c1]
              simp (disch := omega) only [nI_add, pk_mul, nI_clamp, nI_leI, nI_ltI, nI_eq, inb_, iz1_, iz2_, iz3_, iz4_, iz5_, reduceIte, if_pos, if_neg, op_os, op_vIs, op_vLs, op_vRs, op_vNs, dI_at, dL_at, dI_2, dL_1, Nat.reduceEqDiff, Nat.reduceAdd, Nat.reduceMul, false_and, and_false, true_and, and_true, ne_eq, not_true_eq_false, not_false_eq_true, b2_z, b2_o, b2_n, b2_01, nar_b, nar_0, nar_1, Bool.false_eq_true, Bool.true_eq_false, x111k, c2, x114s, c3, bf_ c4]
        · refine good j hj rfl (fun z => absurd z c5) (fun D hD => ?_) (fun D hD => ?_)
          · rw [e90_0, x106s, c1]
            simp (disch := omega) only [nI_add, pk_mul, nI_clamp, nI_leI, nI_ltI, nI_eq, inb_, iz1_, iz2_, iz3_, iz4_, iz5_, reduceIte, if_pos, if_neg, op_os, op_vIs, op_vLs, op_vRs, op_vNs, dI_at, dL_at, dI_2, dL_1, Nat.reduceEqDiff, Nat.reduceAdd, Nat.reduceMul, false_and, and_false, true_and, and_true, ne_eq, not_true_eq_false, not_false_eq_true, b2_z, b2_o, b2_n, b2_01, nar_b, nar_0, nar_1, Bool.false_eq_true, Bool.true_eq_false, x106s, c3, sl1_]
          · rw [e145_0, x114s, c1]
            simp (disch := omega) only [nI_add, pk_mul, nI_clamp, nI_leI, nI_ltI, nI_eq, inb_, iz1_, iz2_, iz3_, iz4_, iz5_, reduceIte, if_pos, if_neg, op_os, op_vIs, op_vLs, op_vRs, op_vNs, dI_at, dL_at, dI_2, dL_1, Nat.reduceEqDiff, Nat.reduceAdd, Nat.reduceMul, false_and, and_false, true_and, and_true, ne_eq, not_true_eq_false, not_false_eq_true, b2_z, b2_o, b2_n, b2_01, nar_b, nar_0, nar_1, Bool.false_eq_true, Bool.true_eq_false, x111k, c2, x114s, c3, e145_47]
      · refine bo_o (.int (-102)) hS (fun D hD => ?_) (fun D hD => ?_)
        · rw [e90_0, x106s, c1]
          simp (disch := omega) only [nI_add, pk_mul, nI_clamp, nI_leI, nI_ltI, nI_eq, inb_, iz1_, iz2_, iz3_, iz4_, iz5_, reduceIte, if_pos, if_neg, op_os, op_vIs, op_vLs, op_vRs, op_vNs, dI_at, dL_at, dI_2, dL_1, Nat.reduceEqDiff, Nat.reduceAdd, Nat.reduceMul, false_and, and_false, true_and, and_true, ne_eq, not_true_eq_false, not_false_eq_true, b2_z, b2_o, b2_n, b2_01, nar_b, nar_0, nar_1, Bool.false_eq_true, Bool.true_eq_false, x106s, bf_ c3]
        · rw [e145_0, x114s, c1]
          simp (disch := omega) only [nI_add, pk_mul, nI_clamp, nI_leI, nI_ltI, nI_eq, inb_, iz1_, iz2_, iz3_, iz4_, iz5_, reduceIte, if_pos, if_neg, op_os, op_vIs, op_vLs, op_vRs, op_vNs, dI_at, dL_at, dI_2, dL_1, Nat.reduceEqDiff, Nat.reduceAdd, Nat.reduceMul, false_and, and_false, true_and, and_true, ne_eq, not_true_eq_false, not_false_eq_true, b2_z, b2_o, b2_n, b2_01, nar_b, nar_0, nar_1, Bool.false_eq_true, Bool.true_eq_false, x111k, c2, x114s, bf_ c3]
    · refine bo_o (.int (-102)) hS (fun D hD => ?_) (fun D hD => ?_)
      · rw [e90_0, x106s, c1, op_os, op_vIs]
        rw [if_neg (by decide)]
        rcases ic_ how with ⟨m, hm, rfl⟩ | hm
        · have : ¬ m < 8 := fun q => c2 (ls_n q (by omega))
          rw [if_neg (show ¬ nI m < nI 0 from fun z => nI_pos hm z), if_pos ((nI_ltI (by omega) (by omega)).mpr (by omega))]
        · rw [if_pos (show how < nI 0 from hm)]
      · rw [e145_0, x114s, c1]
        simp (disch := omega) only [nI_add, pk_mul, nI_clamp, nI_leI, nI_ltI, nI_eq, inb_, iz1_, iz2_, iz3_, iz4_, iz5_, reduceIte, if_pos, if_neg, op_os, op_vIs, op_vLs, op_vRs, op_vNs, dI_at, dL_at, dI_2, dL_1, Nat.reduceEqDiff, Nat.reduceAdd, Nat.reduceMul, false_and, and_false, true_and, and_true, ne_eq, not_true_eq_false, not_false_eq_true, b2_z, b2_o, b2_n, b2_01, nar_b, nar_0, nar_1, Bool.false_eq_true, Bool.true_eq_false, x111k, bf_ c2]
  · refine bo_o (.int (-102)) hS (fun D hD => ?_) (fun D hD => ?_)
    · rw [e90_0, x106s, bf_ c1]
      rfl
    · rw [e145_0, x114s, bf_ c1]
      rfl
end PJ
