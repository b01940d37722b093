/-! smaller -/
section SMALL
variable {w : (Nat → Int32) × Nat} {d : Nat} {D : dy_} {M : ma_} {S : sp_} {B0 : Nat}
/-- shrink and drop -/
theorem x137f {i : Nat} {v : Int32} (hi : i < 110) (hb : bg_ D M) (hM : wm_ M) (hio : io_ M) (hn : M.2.1 ≤ 60) : ∃ D1 D', k137_88 w (d + 5) (nI i) v D = some (some (.int v), D') ∧ rm_ D' i (qm_ M) ∧ rw_ D D1 ∧ om_ i D1 D' := by
  obtain ⟨D1, c1, c2, c3⟩ := x127 (w := w) (d := d + 1) hM hb hio (by omega)
  have hnn := cn_m (nf_1 M)
  obtain ⟨D', f1, f2, f3⟩ := x123 (w := w) (d := d + 3) (m := i) hi c2 (qm_wm hM) rfl (show nn_ M ≤ 60 by omega)
  refine ⟨D1, D', ?_, f2, c3, f3⟩
  rw [e137_88]
  simp (disch := omega) only [nI_add, pk_mul, nI_clamp, nI_leI, nI_ltI, nI_eq, inb_, iz1_, iz2_, iz3_, iz4_, iz5_, reduceIte, if_pos, if_neg, op_os, op_vIs, op_vLs, op_vRs, op_vNs, dI_at, dL_at, dI_2, dL_1, Nat.reduceEqDiff, Nat.reduceAdd, Nat.reduceMul, false_and, and_false, true_and, and_true, ne_eq, not_true_eq_false, not_false_eq_true, b2_z, b2_o, b2_n, b2_01, nar_b, nar_0, nar_1, Bool.false_eq_true, Bool.true_eq_false, c1, f1]
/-- countTurned -/
theorem x68 {a Bs : Nat} (ha : a ∈ ml_) (ha24 : a ≠ 24) (hc : cm_ D a M) (hM : wm_ M) (hn : M.2.1 ≤ 60) (ca : M.2.1 ≤ cap_ a) (h30 : cm_ D 30 n1_) (hs : rsp_ D Bs) : ∃ D', k68_0 w (d + 4) a D = some (some (.int (if (tum_ (lfm_ M)).2.1 ≤ 500 then nI ((tum_ (lfm_ M)).2.1) else -104)), D') ∧ rsp_ D' Bs ∧ sx_ (fun b => (24 ≤ b ∧ b ≤ 29) ∨ (36 ≤ b ∧ b ≤ 40) ∨ (46 ≤ b ∧ b ≤ 49)) D D' := by
  have hl := lfm_wm hM hn
  obtain ⟨D1, e1, e2, e3⟩ := x64 (w := w) (d := d) ha ha24 hc hM hn ca h30 hs.1
  obtain ⟨D2, f1, f2, f3⟩ := x14 (w := w) (d := d + 2) (a := 27) (b := 24) ml_27 ml_24 (by omega) e2 hl.1 (by rw [cap_27]; omega) (by rw [cap_24]; omega)
  have h24 : D2.1 24 4 = nI 0 := by
    rw [(f3 24 (by omega)).1]
    exact e2.2.2.1
  obtain ⟨D3, g1, g2, g3, g4⟩ := x76t (w := w) (d := d) (a := 27) (b := 27) ml_27 ml_27 (by decide) f2 hl.1 (by omega) (by rw [cap_27]; omega) h24
  have sx : sx_ (fun b => (24 ≤ b ∧ b ≤ 29) ∨ (36 ≤ b ∧ b ≤ 40) ∨ (46 ≤ b ∧ b ≤ 49)) D D3 := sx_t (sx_w e3 (fun b hb => by unfold pw_ at hb; omega)) (sx_t (sx_w f3 (fun b hb => by omega)) (sx_w g2 (fun b hb => by unfold gw_ at hb; omega)))
  refine ⟨D3, ?_, rsp_fw hs g3 (sx 41 (by omega)).1 (sx 44 (by omega)).1, sx⟩
  rw [e68_0 ha]
  by_cases z : (tum_ (lfm_ M)).2.1 ≤ 500
  · rw [decide_eq_true z] at g1
    rw [if_pos z]
    simp (disch := omega) only [nI_add, pk_mul, nI_clamp, nI_leI, nI_ltI, nI_eq, inb_, iz1_, iz2_, iz3_, iz4_, iz5_, reduceIte, if_pos, if_neg, op_os, op_vIs, op_vLs, op_vRs, op_vNs, dI_at, dL_at, dI_2, dL_1, Nat.reduceEqDiff, Nat.reduceAdd, Nat.reduceMul, false_and, and_false, true_and, and_true, ne_eq, not_true_eq_false, not_false_eq_true, b2_z, b2_o, b2_n, b2_01, nar_b, nar_0, nar_1, Bool.false_eq_true, Bool.true_eq_false, e1, f1, g1, (g4 z).2.1]
  · rw [decide_eq_false z] at g1
    rw [if_neg z]
    simp (disch := omega) only [nI_add, pk_mul, nI_clamp, nI_leI, nI_ltI, nI_eq, inb_, iz1_, iz2_, iz3_, iz4_, iz5_, reduceIte, if_pos, if_neg, op_os, op_vIs, op_vLs, op_vRs, op_vNs, dI_at, dL_at, dI_2, dL_1, Nat.reduceEqDiff, Nat.reduceAdd, Nat.reduceMul, false_and, and_false, true_and, and_true, ne_eq, not_true_eq_false, not_false_eq_true, b2_z, b2_o, b2_n, b2_01, nar_b, nar_0, nar_1, Bool.false_eq_true, Bool.true_eq_false, e1, f1, g1]
theorem bo_smaller (hS : ok_ S) (hB : B0 + 4000000 < 2 ^ 31) (s way : Int32) : bo_ S B0 (fun D => k89_0 w (d + 200) s way D) (fun D => k137_0 w (d + 200) s way D) := by
  by_cases c1 : ls_ 6 s = true
  · obtain ⟨i, rfl, hi⟩ := ls_t (by omega) c1
    obtain ⟨hM, hn⟩ := hS.1 i hi
    have hl := lfm_wm hM hn
    have hio := lfm_io hM hn
    have hnn := lfm_nn hM hn
    have hk := hM.1
    have hnn1 := nn_pos hl.1
    have hrd := rd_1 (lfm_ (S.1 i))
    by_cases c2 : ls_ 3 way = true
    · obtain ⟨h, rfl, hh⟩ := ls_t (by omega) c2
      have hway : ¬ (nI h < nI 0) := fun z => nI_pos (by omega) z
      -- the class, from the second part on
      have cls : ∀ (D D0 : dy_) (v : Int32), rc_ D S B0 → rsp_ D0 B0 → sx_ (fun b => (24 ≤ b ∧ b ≤ 29) ∨ (36 ≤ b ∧ b ≤ 40) ∨ (46 ≤ b ∧ b ≤ 49)) D D0 → v ≠ -104 → ∃ D1, k66_14 w (d + 199) (3 + 3 * i) (nI h) v D0 = some (some (.int (if h = 0 then nI (rd_ct (lfm_ (S.1 i))) else if h = 1 then nI ((S.1 i).1 * (nn_ (lfm_ (S.1 i)) - 1)) else v)), D1) ∧ rc_ D1 (us_ S i (qm_ (lfm_ (S.1 i)))) (B0 + 4000000) ∧ hi_ D D1 := by
        intro D D0 v hD hs hx hv
        have hc0 : cm_ D0 (3 + 3 * i) (S.1 i) := cm_sx (hD.1 i hi) hx (by omega) (by omega) (by omega)
        have h30 : cm_ D0 30 n1_ := cm_sx hD.2.2.2.1.1 hx (by omega) (by omega) (by omega)
        obtain ⟨D1, e1, e2, e3, e4, e5⟩ := x65 (w := w) (d := d + 193) (sl_ hi).2 (by omega) (sl_ hi).2 (by omega) (by rw [sl4_ hi]; omega) hc0 hM hn (by rw [sl4_ hi]; exact hn) h30 hs (by omega)
        refine ⟨D1, ?_, rc_us hD hi e2 (fun b hb => ?_) (rsp_m e4 (by omega)), fun b hb => ?_⟩
        · have hkq : D1.1 (3 + 3 * i) 2 = nI ((S.1 i).1) := e2.1
          have hnq : D1.1 (3 + 3 * i) 3 = nI (nn_ (lfm_ (S.1 i))) := e2.2.1
          rw [e66_14 (sl_ hi).2, if_pos hv]
          rcases (show h = 0 ∨ h = 1 ∨ h = 2 by omega) with rfl | rfl | rfl
          · simp (disch := omega) only [nI_add, pk_mul, nI_clamp, nI_leI, nI_ltI, nI_eq, inb_, iz1_, iz2_, iz3_, iz4_, iz5_, reduceIte, if_pos, if_neg, op_os, op_vIs, op_vLs, op_vRs, op_vNs, dI_at, dL_at, dI_2, dL_1, Nat.reduceEqDiff, Nat.reduceAdd, Nat.reduceMul, false_and, and_false, true_and, and_true, ne_eq, not_true_eq_false, not_false_eq_true, b2_z, b2_o, b2_n, b2_01, nar_b, nar_0, nar_1, Bool.false_eq_true, Bool.true_eq_false, e1, e3]
          · simp (disch := omega) only [nI_add, pk_mul, nI_clamp, nI_leI, nI_ltI, nI_eq, inb_, iz1_, iz2_, iz3_, iz4_, iz5_, reduceIte, if_pos, if_neg, op_os, op_vIs, op_vLs, op_vRs, op_vNs, dI_at, dL_at, dI_2, dL_1, Nat.reduceEqDiff, Nat.reduceAdd, Nat.reduceMul, false_and, and_false, true_and, and_true, ne_eq, not_true_eq_false, not_false_eq_true, b2_z, b2_o, b2_n, b2_01, nar_b, nar_0, nar_1, Bool.false_eq_true, Bool.true_eq_false, e1, e67_0 (sl_ hi).2, hkq, hnq, pk_sub]
          · simp (disch := omega) only [nI_add, pk_mul, nI_clamp, nI_leI, nI_ltI, nI_eq, inb_, iz1_, iz2_, iz3_, iz4_, iz5_, reduceIte, if_pos, if_neg, op_os, op_vIs, op_vLs, op_vRs, op_vNs, dI_at, dL_at, dI_2, dL_1, Nat.reduceEqDiff, Nat.reduceAdd, Nat.reduceMul, false_and, and_false, true_and, and_true, ne_eq, not_true_eq_false, not_false_eq_true, b2_z, b2_o, b2_n, b2_01, nar_b, nar_0, nar_1, Bool.false_eq_true, Bool.true_eq_false, e1]
        · rw [(e5 b (fun z => hb (by unfold jw_ jx_ at z; unfold wk_; omega))).1]
          exact (hx b (fun z => hb (by unfold wk_; omega))).1
        · rw [(e5 b (by unfold jw_ jx_; omega)).1, (e5 b (by unfold jw_ jx_; omega)).2]
          exact hx b (by omega)
      have cst : ∀ D, rc_ D S B0 → k89_0 w (d + 200) (nI i) (nI h) D = op_o (k66_0 w (d + 199) (3 + 3 * i) (nI h) D) none (fun p2 => op_vI p2.1 none (fun n2 => some (some (.int n2), p2.2))) := fun D hD => by
        rw [e89_0, x106s, c1]
        simp (disch := omega) only [nI_add, pk_mul, nI_clamp, nI_leI, nI_ltI, nI_eq, inb_, iz1_, iz2_, iz3_, iz4_, iz5_, reduceIte, if_pos, if_neg, op_os, op_vIs, op_vLs, op_vRs, op_vNs, dI_at, dL_at, dI_2, dL_1, Nat.reduceEqDiff, Nat.reduceAdd, Nat.reduceMul, false_and, and_false, true_and, and_true, ne_eq, not_true_eq_false, not_false_eq_true, b2_z, b2_o, b2_n, b2_01, nar_b, nar_0, nar_1, Bool.false_eq_true, Bool.true_eq_false, sl1_]
      have rst : ∀ D, mr_ D S → ∃ D1, bg_ D1 (lfm_ (S.1 i)) ∧ rw_ (dI_ D 351 0 (nI 0)) D1 ∧ k122_0 w (d + 199) (nI i) (dI_ D 351 0 (nI 0)) = some (none, D1) := fun D hD => by
        have h' := mr_0 (v := nI 0) hD
        obtain ⟨D1, e1, e2, e3⟩ := x122 (w := w) (d := d + 197) (show i < 110 by omega) (h'.1 i hi) hM hn
        exact ⟨D1, e2, e3, e1⟩
      have hqk : ∀ D D1 D2 D3 : dy_, mr_ D S → rw_ (dI_ D 351 0 (nI 0)) D1 → rw_ D1 D2 → rm_ D3 i (qm_ (lfm_ (S.1 i))) → om_ i D2 D3 → mr_ D3 (us_ S i (qm_ (lfm_ (S.1 i)))) ∧ lw_ D D3 := fun D D1 D2 D3 hD h1 h2 h3 h4 => ⟨mr_om hS (mr_rw (mr_rw (mr_0 hD) h1) h2) h3 h4, lw_t (lw_I (by omega)) (lw_t (lw_rw h1) (lw_t (lw_rw h2) (lw_om h4)))⟩
      have hok : ok_ (us_ S i (qm_ (lfm_ (S.1 i)))) := us_ok hS (qm_wm hl.1) hnn
      rcases (show h = 0 ∨ h = 1 ∨ h = 2 by omega) with rfl | rfl | rfl
      · refine bo_i (.int (nI (rd_ct (lfm_ (S.1 i))))) _ hok (fun D hD => ?_) (fun D hD => ?_)
        · obtain ⟨D1, e1, e2, e3⟩ := cls D D (nI 0) hD hD.2.2.2.2 (sx_r _ D) (by decide)
          rw [if_pos rfl] at e1
          refine ⟨D1, ?_, e2, e3⟩
          rw [cst D hD, e66_0 (sl_ hi).2]
          simp (disch := omega) only [nI_add, pk_mul, nI_clamp, nI_leI, nI_ltI, nI_eq, inb_, iz1_, iz2_, iz3_, iz4_, iz5_, reduceIte, if_pos, if_neg, op_os, op_vIs, op_vLs, op_vRs, op_vNs, dI_at, dL_at, dI_2, dL_1, Nat.reduceEqDiff, Nat.reduceAdd, Nat.reduceMul, false_and, and_false, true_and, and_true, ne_eq, not_true_eq_false, not_false_eq_true, b2_z, b2_o, b2_n, b2_01, nar_b, nar_0, nar_1, Bool.false_eq_true, Bool.true_eq_false, e1]
        · obtain ⟨D1, b1, b2, b3⟩ := rst D hD
          obtain ⟨D2, f1, f2⟩ := x130 (w := w) (d := d + 197) hl.1 b1 (by omega)
          have r2 : rw_ D1 D2 := rw_fx f2 (fun b hb => by omega) (fun j hj => hj.elim)
          obtain ⟨D3, D4, g1, g2, g3, g4⟩ := x137f (w := w) (d := d + 195) (i := i) (v := nI (rd_ct (lfm_ (S.1 i)))) (by omega) (bg_fx b1 f2 id id (by omega) (by omega)) hl.1 hio (by omega)
          obtain ⟨q1, q2⟩ := hqk D D1 D3 D4 hD b2 (rw_t r2 g3) g2 g4
          refine ⟨D4, ?_, q1, q2⟩
          rw [e137_0, x114s, c1]
          simp (disch := omega) only [nI_add, pk_mul, nI_clamp, nI_leI, nI_ltI, nI_eq, inb_, iz1_, iz2_, iz3_, iz4_, iz5_, reduceIte, if_pos, if_neg, op_os, op_vIs, op_vLs, op_vRs, op_vNs, dI_at, dL_at, dI_2, dL_1, Nat.reduceEqDiff, Nat.reduceAdd, Nat.reduceMul, false_and, and_false, true_and, and_true, ne_eq, not_true_eq_false, not_false_eq_true, b2_z, b2_o, b2_n, b2_01, nar_b, nar_0, nar_1, Bool.false_eq_true, Bool.true_eq_false, x111k, c2, b3, f1, g1]
      · refine bo_i (.int (nI ((S.1 i).1 * (nn_ (lfm_ (S.1 i)) - 1)))) _ hok (fun D hD => ?_) (fun D hD => ?_)
        · obtain ⟨D1, e1, e2, e3⟩ := cls D D (nI 0) hD hD.2.2.2.2 (sx_r _ D) (by decide)
          rw [if_neg (by decide), if_pos rfl] at e1
          refine ⟨D1, ?_, e2, e3⟩
          rw [cst D hD, e66_0 (sl_ hi).2]
          simp (disch := omega) only [nI_add, pk_mul, nI_clamp, nI_leI, nI_ltI, nI_eq, inb_, iz1_, iz2_, iz3_, iz4_, iz5_, reduceIte, if_pos, if_neg, op_os, op_vIs, op_vLs, op_vRs, op_vNs, dI_at, dL_at, dI_2, dL_1, Nat.reduceEqDiff, Nat.reduceAdd, Nat.reduceMul, false_and, and_false, true_and, and_true, ne_eq, not_true_eq_false, not_false_eq_true, b2_z, b2_o, b2_n, b2_01, nar_b, nar_0, nar_1, Bool.false_eq_true, Bool.true_eq_false, e1]
        · obtain ⟨D1, b1, b2, b3⟩ := rst D hD
          obtain ⟨D2, f1, f2⟩ := x133 (w := w) (d := d + 196) hl.1 b1 (by omega)
          have r2 : rw_ D1 D2 := rw_fx f2 (fun b hb => by unfold fsp_ at hb; omega) (fun j hj => by unfold fsq_ at hj; unfold wf8_; omega)
          obtain ⟨D3, D4, g1, g2, g3, g4⟩ := x137f (w := w) (d := d + 195) (i := i) (v := nI ((S.1 i).1 * (nn_ (lfm_ (S.1 i)) - 1))) (by omega) (bg_fx b1 f2 (by unfold fsq_; omega) (by unfold fsq_; omega) (by unfold fsp_; omega) (by unfold fsp_; omega)) hl.1 hio (by omega)
          obtain ⟨q1, q2⟩ := hqk D D1 D3 D4 hD b2 (rw_t r2 g3) g2 g4
          have f1' : k133_0 w (d + 199) D1 = some (some (.int (nI ((S.1 i).1 * (nn_ (lfm_ (S.1 i)) - 1)))), D2) := f1
          refine ⟨D4, ?_, q1, q2⟩
          rw [e137_0, x114s, c1]
          simp (disch := omega) only [nI_add, pk_mul, nI_clamp, nI_leI, nI_ltI, nI_eq, inb_, iz1_, iz2_, iz3_, iz4_, iz5_, reduceIte, if_pos, if_neg, op_os, op_vIs, op_vLs, op_vRs, op_vNs, dI_at, dL_at, dI_2, dL_1, Nat.reduceEqDiff, Nat.reduceAdd, Nat.reduceMul, false_and, and_false, true_and, and_true, ne_eq, not_true_eq_false, not_false_eq_true, b2_z, b2_o, b2_n, b2_01, nar_b, nar_0, nar_1, Bool.false_eq_true, Bool.true_eq_false, x111k, c2, b3, f1', g1]
      · -- turning
        have hspare : ∀ D, mr_ D S → ∃ D1 D2 D3, rw_ (dI_ D 351 0 (nI 0)) D1 ∧ om_ 109 D1 D2 ∧ rw_ D2 D3 ∧ k122_0 w (d + 199) (nI i) (dI_ D 351 0 (nI 0)) = some (none, D1) ∧ k123_0 w (d + 199) (nI 109) D1 = some (some (.int (b2_ true)), D2) ∧ k136_0 w (d + 199) (nI 109) D2 = some (some (.int (b2_ (decide ((tum_ (lfm_ (S.1 i))).2.1 ≤ 500)))), D3) ∧ ((tum_ (lfm_ (S.1 i))).2.1 ≤ 500 → bg_ D3 (tum_ (lfm_ (S.1 i)))) := fun D hD => by
          obtain ⟨D1, b1, b2, b3⟩ := rst D hD
          obtain ⟨D2, f1, f2, f3⟩ := x123 (w := w) (d := d + 198) (m := 109) (by omega) b1 hl.1 rfl (by omega)
          obtain ⟨D3, g1, g2, g3⟩ := x136 (w := w) (d := d + 196) (m := 109) (by omega) f2 hl.1 (by omega)
          exact ⟨D1, D2, D3, b2, f3, g2, b3, f1, g1, g3⟩
        by_cases ok : (tum_ (lfm_ (S.1 i))).2.1 ≤ 500
        · refine bo_i (.int (nI ((tum_ (lfm_ (S.1 i))).2.1))) _ hok (fun D hD => ?_) (fun D hD => ?_)
          · obtain ⟨D0, a1, a2, a3⟩ := x68 (w := w) (d := d + 194) (sl_ hi).2 (by omega) (hD.1 i hi) hM hn (by rw [sl4_ hi]; exact hn) hD.2.2.2.1.1 hD.2.2.2.2
            rw [if_pos ok] at a1
            obtain ⟨D1, e1, e2, e3⟩ := cls D D0 (nI ((tum_ (lfm_ (S.1 i))).2.1)) hD a2 a3 (fun z => (iz3_ (x := -104) (n := (tum_ (lfm_ (S.1 i))).2.1) (by decide) (by omega)).mp z.symm)
            rw [if_neg (by decide), if_neg (by decide)] at e1
            refine ⟨D1, ?_, e2, e3⟩
            rw [cst D hD, e66_0 (sl_ hi).2]
            simp (disch := omega) only [nI_add, pk_mul, nI_clamp, nI_leI, nI_ltI, nI_eq, inb_, iz1_, iz2_, iz3_, iz4_, iz5_, reduceIte, if_pos, if_neg, op_os, op_vIs, op_vLs, op_vRs, op_vNs, dI_at, dL_at, dI_2, dL_1, Nat.reduceEqDiff, Nat.reduceAdd, Nat.reduceMul, false_and, and_false, true_and, and_true, ne_eq, not_true_eq_false, not_false_eq_true, b2_z, b2_o, b2_n, b2_01, nar_b, nar_0, nar_1, Bool.false_eq_true, Bool.true_eq_false, a1, e1]
          · have h' := mr_0 (v := nI 0) hD
            obtain ⟨D1, D2, D3, b1, b2, b3, b4, b5, b6, b7⟩ := hspare D hD
            have m3 : mr_ D3 S := mr_rw (mr_om6 hS (mr_rw h' b1) (by omega) b2) b3
            obtain ⟨D4, e1, e2, e3⟩ := x122 (w := w) (d := d + 197) (show i < 110 by omega) (m3.1 i hi) hM hn
            obtain ⟨D5, D6, g1, g2, g3, g4⟩ := x137f (w := w) (d := d + 195) (i := i) (v := nI ((tum_ (lfm_ (S.1 i))).2.1)) (by omega) e2 hl.1 hio (by omega)
            refine ⟨D6, ?_, mr_om hS (mr_rw (mr_rw m3 e3) g3) g2 g4, lw_t (lw_I (by omega)) (lw_t (lw_rw b1) (lw_t (lw_om b2) (lw_t (lw_rw b3) (lw_t (lw_rw e3) (lw_t (lw_rw g3) (lw_om g4))))))⟩
            rw [decide_eq_true ok] at b6
            rw [e137_0, x114s, c1]
            simp (disch := omega) only [nI_add, pk_mul, nI_clamp, nI_leI, nI_ltI, nI_eq, inb_, iz1_, iz2_, iz3_, iz4_, iz5_, reduceIte, if_pos, if_neg, op_os, op_vIs, op_vLs, op_vRs, op_vNs, dI_at, dL_at, dI_2, dL_1, Nat.reduceEqDiff, Nat.reduceAdd, Nat.reduceMul, false_and, and_false, true_and, and_true, ne_eq, not_true_eq_false, not_false_eq_true, b2_z, b2_o, b2_n, b2_01, nar_b, nar_0, nar_1, Bool.false_eq_true, Bool.true_eq_false, x111k, c2, b4, b5, b6, e1, (b7 ok).2.1, g1]
        · refine bo_i (.int (-104)) S hS (fun D hD => ?_) (fun D hD => ?_)
          · obtain ⟨D0, a1, a2, a3⟩ := x68 (w := w) (d := d + 194) (sl_ hi).2 (by omega) (hD.1 i hi) hM hn (by rw [sl4_ hi]; exact hn) hD.2.2.2.1.1 hD.2.2.2.2
            rw [if_neg ok] at a1
            refine ⟨D0, ?_, rc_wk hD (fun b hb => (a3 b (fun z => hb (by omega))).1) (rsp_m a2 (by omega)), fun b hb => a3 b (by omega)⟩
            rw [cst D hD, e66_0 (sl_ hi).2]
            simp (disch := omega) only [nI_add, pk_mul, nI_clamp, nI_leI, nI_ltI, nI_eq, inb_, iz1_, iz2_, iz3_, iz4_, iz5_, reduceIte, if_pos, if_neg, op_os, op_vIs, op_vLs, op_vRs, op_vNs, dI_at, dL_at, dI_2, dL_1, Nat.reduceEqDiff, Nat.reduceAdd, Nat.reduceMul, false_and, and_false, true_and, and_true, ne_eq, not_true_eq_false, not_false_eq_true, b2_z, b2_o, b2_n, b2_01, nar_b, nar_0, nar_1, Bool.false_eq_true, Bool.true_eq_false, a1, e66_14 (sl_ hi).2]
          · have h' := mr_0 (v := nI 0) hD
            obtain ⟨D1, D2, D3, b1, b2, b3, b4, b5, b6, b7⟩ := hspare D hD
            have m3 : mr_ D3 S := mr_rw (mr_om6 hS (mr_rw h' b1) (by omega) b2) b3
            refine ⟨D3, ?_, m3, lw_t (lw_I (by omega)) (lw_t (lw_rw b1) (lw_t (lw_om b2) (lw_rw b3)))⟩
            rw [decide_eq_false ok] at b6
            rw [e137_0, x114s, c1]
            simp (disch := omega) only [nI_add, pk_mul, nI_clamp, nI_leI, nI_ltI, nI_eq, inb_, iz1_, iz2_, iz3_, iz4_, iz5_, reduceIte, if_pos, if_neg, op_os, op_vIs, op_vLs, op_vRs, op_vNs, dI_at, dL_at, dI_2, dL_1, Nat.reduceEqDiff, Nat.reduceAdd, Nat.reduceMul, false_and, and_false, true_and, and_true, ne_eq, not_true_eq_false, not_false_eq_true, b2_z, b2_o, b2_n, b2_01, nar_b, nar_0, nar_1, Bool.false_eq_true, Bool.true_eq_false, x111k, c2, b4, b5, b6]
    · refine bo_o (.int (-102)) hS (fun D hD => ?_) (fun D hD => ?_)
      · rw [e89_0, x106s, c1, op_os, op_vIs]
        rw [if_neg (by decide)]
        rcases ic_ way with ⟨m, hm, rfl⟩ | hm
        · have : ¬ m < 3 := fun q => c2 (ls_n q (by omega))
          rw [if_neg (show ¬ nI m < nI 0 from fun z => nI_pos hm z), if_neg (fun z => absurd ((nI_leI (by omega) (by omega)).mp z) (by omega))]
        · rw [if_pos (show way < nI 0 from hm)]
      · rw [e137_0, x114s, c1]
        simp (disch := omega) only [nI_add, pk_mul, nI_clamp, nI_leI, nI_ltI, nI_eq, inb_, iz1_, iz2_, iz3_, iz4_, iz5_, reduceIte, if_pos, if_neg, op_os, op_vIs, op_vLs, op_vRs, op_vNs, dI_at, dL_at, dI_2, dL_1, Nat.reduceEqDiff, Nat.reduceAdd, Nat.reduceMul, false_and, and_false, true_and, and_true, ne_eq, not_true_eq_false, not_false_eq_true, b2_z, b2_o, b2_n, b2_01, nar_b, nar_0, nar_1, Bool.false_eq_true, Bool.true_eq_false, x111k, bf_ c2]
  · refine bo_o (.int (-102)) hS (fun D hD => ?_) (fun D hD => ?_)
    · rw [e89_0, x106s, bf_ c1]
      rfl
    · rw [e137_0, x114s, bf_ c1]
      rfl
end SMALL
