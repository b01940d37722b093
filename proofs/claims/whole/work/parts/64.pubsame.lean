/-! same and apart, the calls -/
theorem rc_utw {D D' : dy_} {S : sp_} {B B' n : Nat} {b : Nat → Nat} (h : rc_ D S B) (ht : rtp_ D' (ut_ S n b)) (hk : ∀ c, c ≠ 21 → c ≠ 22 → ¬ ((24 ≤ c ∧ c ≤ 29) ∨ (36 ≤ c ∧ c ≤ 341)) → D'.1 c = D.1 c) (hs : rsp_ D' B') : rc_ D' (ut_ S n b) B' := by
  obtain ⟨h1, h2, h3, h4, h5⟩ := h
  refine ⟨fun j hj => cm_fr (h1 j hj) (hk _ (by omega) (by omega) (by omega)) (hk _ (by omega) (by omega) (by omega)) (hk _ (by omega) (by omega) (by omega)), ht, ?_, ⟨cm_fr h4.1 (hk _ (by omega) (by omega) (by omega)) (hk _ (by omega) (by omega) (by omega)) (hk _ (by omega) (by omega) (by omega)), cm_fr h4.2 (hk _ (by omega) (by omega) (by omega)) (hk _ (by omega) (by omega) (by omega)) (hk _ (by omega) (by omega) (by omega))⟩, hs⟩
  unfold rmp_ at *
  rw [hk 342 (by omega) (by omega) (by omega), hk 346 (by omega) (by omega) (by omega)]
  exact ⟨h3.1, fun q => ⟨cm_fr (h3.2 q).1 (hk _ (by omega) (by omega) (by omega)) (hk _ (by omega) (by omega) (by omega)) (hk _ (by omega) (by omega) (by omega)), (h3.2 q).2⟩⟩
section PSAME
variable {w : (Nat → Int32) × Nat} {d : Nat} {D : dy_} {A B : ma_} {S : sp_} {B0 : Nat}
/-- both, on two states -/
theorem bo_tell (hS : ok_ S) {i j p q : Nat} (hi : i < 6) (hj : j < 6) (hp : p < (S.1 i).2.1) (hq : q < (S.1 j).2.1) (hkk : (S.1 i).1 = (S.1 j).1) {v1 v0 : Value} {C R : dy_ → rd_} (hv : ∀ v, v < (bm_ (S.1 i) (S.1 j) 3 (p, q)).2.1 → frs_ ((bm_ (S.1 i) (S.1 j) 3 (p, q)).2.2.2.2) ((bm_ (S.1 i) (S.1 j) 3 (p, q)).2.1) = v → (∀ D D', rc_ D S B0 → k70_0 w (d + 199) (3 + 3 * i) (nI p) (3 + 3 * j) (nI q) D = some (some (.int (nI 1)), D') → D'.1 21 1 = nI (dep_ (bm_ (S.1 i) (S.1 j) 3 (p, q)) v) → C D = some (some v1, D')) ∧ ∀ D D', mr_ D S → k166_0 w (d + 199) (nI i) (nI p) (nI j) (nI q) (dI_ D 351 0 (nI 0)) = some (some (.int (nI (dep_ (bm_ (S.1 i) (S.1 j) 3 (p, q)) v))), D') → dep_ (bm_ (S.1 i) (S.1 j) 3 (p, q)) v ≤ 120 → R D = some (some v1, D')) (hC : ∀ D D', rc_ D S B0 → k70_0 w (d + 199) (3 + 3 * i) (nI p) (3 + 3 * j) (nI q) D = some (some (.int (nI 0)), D') → C D = some (some v0, D')) (hR : ∀ D D', mr_ D S → k166_0 w (d + 199) (nI i) (nI p) (nI j) (nI q) (dI_ D 351 0 (nI 0)) = some (some (.int (-1)), D') → R D = some (some v0, D')) : bo_ S B0 C R := by
  obtain ⟨wA, nA⟩ := hS.1 i hi
  obtain ⟨wB, nB⟩ := hS.1 j hj
  have hpq : dp_ (S.1 i) (S.1 j) (p, q) := ⟨hp, hq⟩
  obtain ⟨f1, f2, f3⟩ := frs_0 ((bm_ (S.1 i) (S.1 j) 3 (p, q)).2.2.2.2) ((bm_ (S.1 i) (S.1 j) 3 (p, q)).2.1)
  have hdep := fun hlt => dep_le wA wB nA nB hpq hlt (f2 hlt) f3
  have hM := bm_wm wA wB nA nB 3 hpq
  have hio := bm_io wA wB nA nB 3 hpq
  have cls := fun D (hD : rc_ D S B0) => x70 (w := w) (d := d + 195) (sl_ hi).2 (sl_ hj).2 (by omega) (by omega) (hD.1 i hi) (hD.1 j hj) wA wB nA nB (by rw [sl4_ hi]; exact nA) (by rw [sl4_ hj]; exact nB) hpq hD.2.2.2.2.1
  have ref := fun D (hD : mr_ D S) => x166 (w := w) (d := d + 197) (D := dI_ D 351 0 (nI 0)) (show i < 110 by omega) (show j < 110 by omega) ((mr_0 (v := nI 0) hD).1 i hi) ((mr_0 (v := nI 0) hD).1 j hj) wA wB nA nB hkk hpq
  by_cases z : frs_ ((bm_ (S.1 i) (S.1 j) 3 (p, q)).2.2.2.2) ((bm_ (S.1 i) (S.1 j) 3 (p, q)).2.1) < (bm_ (S.1 i) (S.1 j) 3 (p, q)).2.1
  · obtain ⟨hv1, hv2⟩ := hv _ z rfl
    have hd := hdep z
    have hby : ∀ u, u < dep_ (bm_ (S.1 i) (S.1 j) 3 (p, q)) (frs_ ((bm_ (S.1 i) (S.1 j) 3 (p, q)).2.2.2.2) ((bm_ (S.1 i) (S.1 j) 3 (p, q)).2.1)) → wyt_ (bm_ (S.1 i) (S.1 j) 3 (p, q)) (frs_ ((bm_ (S.1 i) (S.1 j) 3 (p, q)).2.2.2.2) ((bm_ (S.1 i) (S.1 j) 3 (p, q)).2.1)) u < 256 := fun u hu => by
      obtain ⟨a1, a2⟩ := pit_lt hio z (dep_ (bm_ (S.1 i) (S.1 j) 3 (p, q)) (frs_ ((bm_ (S.1 i) (S.1 j) 3 (p, q)).2.2.2.2) ((bm_ (S.1 i) (S.1 j) 3 (p, q)).2.1)) - 1 - u) (by omega)
      have hz : pit_ (bm_ (S.1 i) (S.1 j) 3 (p, q)) (dep_ (bm_ (S.1 i) (S.1 j) 3 (p, q)) (frs_ ((bm_ (S.1 i) (S.1 j) 3 (p, q)).2.2.2.2) ((bm_ (S.1 i) (S.1 j) 3 (p, q)).2.1)) - 1 - u) (frs_ ((bm_ (S.1 i) (S.1 j) 3 (p, q)).2.2.2.2) ((bm_ (S.1 i) (S.1 j) 3 (p, q)).2.1)) ≠ 0 := fun y => by
        rw [y, dep_0] at a2
        omega
      have b2 := (par_1 hio a1 hz).2.1
      have b3 := hM.1.2
      unfold wyt_
      omega
    refine bo_i v1 (ut_ S _ _) (ut_ok hS (by omega) hby) (fun D hD => ?_) (fun D hD => ?_)
    · obtain ⟨D', g1, g2, g3⟩ := cls D hD
      obtain ⟨g4, g5, g6⟩ := g3 z
      exact ⟨D', hv1 D D' hD g4 g6.1, rc_m (rc_utw hD g6 (fun c h1 h2 h3 => (g5 c (fun y => by unfold pw_ at y; omega)).1) (rsp_fw hD.2.2.2.2 g1 (g5 41 (fun y => by unfold pw_ at y; omega)).1 (g5 44 (fun y => by unfold pw_ at y; omega)).1)) (by omega), fun b hb => g5 b (fun y => by unfold pw_ at y; omega)⟩
    · obtain ⟨D1, D', g1, g2, g3⟩ := ref D hD
      obtain ⟨g4, g5, g6⟩ := g3 z
      have m1 : mr_ D1 S := mr_fx (mr_0 (v := nI 0) hD) g1 (fun b hb => by unfold tA_; omega) ⟨id, id, id, id⟩
      exact ⟨D', hv2 D D' hD g4 hd, mr_ut m1 g6 (fun c h1 h2 h3 => g5.1 c h1 h2) (fun j h1 h2 => g5.2.1 j h1), lw_t (lw_I (by omega)) (lw_t (lw_fx g1 (fun b hb => by unfold tA_; omega)) (lw_fx g5 (fun b hb => by omega)))⟩
  · have z' : frs_ ((bm_ (S.1 i) (S.1 j) 3 (p, q)).2.2.2.2) ((bm_ (S.1 i) (S.1 j) 3 (p, q)).2.1) = (bm_ (S.1 i) (S.1 j) 3 (p, q)).2.1 := by omega
    refine bo_i v0 S hS (fun D hD => ?_) (fun D hD => ?_)
    · obtain ⟨D', g1, g2, g3⟩ := cls D hD
      obtain ⟨g4, g5⟩ := g2 z'
      exact ⟨D', hC D D' hD g4, rc_wk hD (fun c h3 => (g5 c (fun y => by unfold pw_ at y; omega)).1) (rsp_m (rsp_fw hD.2.2.2.2 g1 (g5 41 (fun y => by unfold pw_ at y; omega)).1 (g5 44 (fun y => by unfold pw_ at y; omega)).1) (by omega)), fun b hb => g5 b (fun y => by unfold pw_ at y; omega)⟩
    · obtain ⟨D1, D', g1, g2, g3⟩ := ref D hD
      have m1 : mr_ D1 S := mr_fx (mr_0 (v := nI 0) hD) g1 (fun b hb => by unfold tA_; omega) ⟨id, id, id, id⟩
      exact ⟨D1, hR D D1 hD (g2 z'), m1, lw_t (lw_I (by omega)) (lw_fx g1 (fun b hb => by unfold tA_; omega))⟩
theorem bo_same (hS : ok_ S) (a b : Int32) : bo_ S B0 (fun D => k95_0 w (d + 200) a b D) (fun D => k168_0 w (d + 200) a b D) := by
  by_cases c1 : ls_ 6 a = true
  · obtain ⟨i, rfl, hi⟩ := ls_t (by omega) c1
    obtain ⟨wA, nA⟩ := hS.1 i hi
    by_cases c2 : ls_ 6 b = true
    · obtain ⟨j, rfl, hj⟩ := ls_t (by omega) c2
      obtain ⟨wB, nB⟩ := hS.1 j hj
      have k1 := wA.1
      have k2 := wB.1
      have s1 := wA.2.2.1
      have s2 := wB.2.2.1
      by_cases c3 : (S.1 i).1 = (S.1 j).1
      · have x9 : ∀ D, rc_ D S B0 → k109_0 w (d + 199) (nI i) (nI j) D = some (some (.int (nI 0)), D) := fun D hD => by
          have := x109 (w := w) (d := d + 197) hS hD.1 i j hi hj
          rwa [if_pos c3] at this
        have cst : ∀ D D' v, rc_ D S B0 → k70_0 w (d + 199) (3 + 3 * i) (nI ((S.1 i).2.2.1)) (3 + 3 * j) (nI ((S.1 j).2.2.1)) D = some (some (.int v), D') → k95_0 w (d + 200) (nI i) (nI j) D = if v = nI 0 then some (some (.int (nI 1)), D') else some (some (.int (nI 0)), D') := fun D D' v hD e => by
          rw [e95_0]
          simp (disch := omega) only [nI_add, pk_mul, nI_clamp, nI_leI, nI_ltI, nI_eq, inb_, iz1_, iz2_, iz3_, iz4_, iz5_, reduceIte, if_pos, if_neg, op_os, op_vIs, op_vLs, op_vRs, op_vNs, dI_at, dL_at, dI_2, dL_1, Nat.reduceEqDiff, Nat.reduceAdd, Nat.reduceMul, false_and, and_false, true_and, and_true, ne_eq, not_true_eq_false, not_false_eq_true, b2_z, b2_o, b2_n, b2_01, nar_b, nar_0, nar_1, Bool.false_eq_true, Bool.true_eq_false, x9 D hD, sl1_, sl2_, (hD.1 i hi).2.2.1, (hD.1 j hj).2.2.1, e]
        have rst : ∀ D D' v, mr_ D S → k166_0 w (d + 199) (nI i) (nI ((S.1 i).2.2.1)) (nI j) (nI ((S.1 j).2.2.1)) (dI_ D 351 0 (nI 0)) = some (some (.int v), D') → k168_0 w (d + 200) (nI i) (nI j) D = if v ≠ -1 then some (some (.int (nI 0)), D') else some (some (.int (nI 1)), D') := fun D D' v hD e => by
          rw [e168_0, x114s, c1]
          simp (disch := omega) only [nI_add, pk_mul, nI_clamp, nI_leI, nI_ltI, nI_eq, inb_, iz1_, iz2_, iz3_, iz4_, iz5_, reduceIte, op_os, op_vIs, op_vLs, op_vRs, op_vNs, dI_at, dL_at, dI_2, dL_1, Nat.reduceEqDiff, Nat.reduceAdd, Nat.reduceMul, false_and, and_false, true_and, and_true, ne_eq, not_true_eq_false, not_false_eq_true, b2_z, b2_o, b2_n, b2_01, nar_b, nar_0, nar_1, Bool.false_eq_true, Bool.true_eq_false, x114s, c2, (hD.1 i hi).1, (hD.1 j hj).1, (hD.1 i hi).2.2.1, (hD.1 j hj).2.2.1, e, c3]
        refine bo_tell (w := w) (d := d) hS hi hj s1 s2 c3 (v1 := .int (nI 0)) (v0 := .int (nI 1)) (fun v _ _ => ⟨fun D D' hD e _ => ?_, fun D D' hD e hd => ?_⟩) (fun D D' hD e => ?_) (fun D D' hD e => ?_)
        · rw [cst D D' _ hD e, if_neg (by decide)]
        · rw [rst D D' _ hD e, if_pos (fun z => (iz5_ (by omega)).mp z)]
        · rw [cst D D' _ hD e, if_pos rfl]
        · rw [rst D D' _ hD e, if_neg (fun z => z rfl)]
      · refine bo_o (.int (-103)) hS (fun D hD => ?_) (fun D hD => ?_)
        · have := x109 (w := w) (d := d + 197) hS hD.1 i j hi hj
          rw [if_neg c3] at this
          rw [e95_0, this, op_os, op_vIs, if_neg (by decide)]
        · rw [e168_0, x114s, c1]
          simp (disch := omega) only [nI_add, pk_mul, nI_clamp, nI_leI, nI_ltI, nI_eq, inb_, iz1_, iz2_, iz3_, iz4_, iz5_, reduceIte, if_pos, if_neg, op_os, op_vIs, op_vLs, op_vRs, op_vNs, dI_at, dL_at, dI_2, dL_1, Nat.reduceEqDiff, Nat.reduceAdd, Nat.reduceMul, false_and, and_false, true_and, and_true, ne_eq, not_true_eq_false, not_false_eq_true, b2_z, b2_o, b2_n, b2_01, nar_b, nar_0, nar_1, Bool.false_eq_true, Bool.true_eq_false, x114s, c2, (hD.1 i hi).1, (hD.1 j hj).1]
    · refine bo_o (.int (-102)) hS (fun D hD => ?_) (fun D hD => ?_)
      · rw [e95_0, x109b hi (bf_ c2), op_os, op_vIs, if_neg (by decide)]
      · rw [e168_0, x114s, c1]
        simp (disch := omega) only [nI_add, pk_mul, nI_clamp, nI_leI, nI_ltI, nI_eq, inb_, iz1_, iz2_, iz3_, iz4_, iz5_, reduceIte, if_pos, if_neg, op_os, op_vIs, op_vLs, op_vRs, op_vNs, dI_at, dL_at, dI_2, dL_1, Nat.reduceEqDiff, Nat.reduceAdd, Nat.reduceMul, false_and, and_false, true_and, and_true, ne_eq, not_true_eq_false, not_false_eq_true, b2_z, b2_o, b2_n, b2_01, nar_b, nar_0, nar_1, Bool.false_eq_true, Bool.true_eq_false, x114s, bf_ c2]
  · refine bo_o (.int (-102)) hS (fun D hD => ?_) (fun D hD => ?_)
    · have : k109_0 w (d + 199) a b D = some (some (.int (-102)), D) := by
        rw [e109_0, x106s, bf_ c1]
        rfl
      rw [e95_0, this, op_os, op_vIs, if_neg (by decide)]
    · rw [e168_0, x114s, bf_ c1]
      rfl
theorem bo_apart (hS : ok_ S) (s p q : Int32) : bo_ S B0 (fun D => k96_0 w (d + 200) s p q D) (fun D => k169_0 w (d + 200) s p q D) := by
  by_cases c1 : vs_ S s p = true
  · obtain ⟨i, p', rfl, rfl, hi, hp⟩ := vs_t hS c1
    by_cases c2 : vs_ S (nI i) q = true
    · obtain ⟨i', q', e1, rfl, hi', hq⟩ := vs_t hS c2
      obtain rfl : i = i' := (nI_eq (by omega) (by omega)).mp e1
      have cst : ∀ D D' v, rc_ D S B0 → k70_0 w (d + 199) (3 + 3 * i) (nI p') (3 + 3 * i) (nI q') D = some (some (.int v), D') → k96_0 w (d + 200) (nI i) (nI p') (nI q') D = if v = nI 0 then some (some (.int (-1)), D') else some (some (.int (D'.1 21 1)), D') := fun D D' v hD e => by
        rw [e96_0, x108 hS hD.1, c1]
        simp (disch := omega) only [nI_add, pk_mul, nI_clamp, nI_leI, nI_ltI, nI_eq, inb_, iz1_, iz2_, iz3_, iz4_, iz5_, reduceIte, if_pos, if_neg, op_os, op_vIs, op_vLs, op_vRs, op_vNs, dI_at, dL_at, dI_2, dL_1, Nat.reduceEqDiff, Nat.reduceAdd, Nat.reduceMul, false_and, and_false, true_and, and_true, ne_eq, not_true_eq_false, not_false_eq_true, b2_z, b2_o, b2_n, b2_01, nar_b, nar_0, nar_1, Bool.false_eq_true, Bool.true_eq_false, x108 hS hD.1, c2, sl1_, e]
      have rst : ∀ D D' v, mr_ D S → k166_0 w (d + 199) (nI i) (nI p') (nI i) (nI q') (dI_ D 351 0 (nI 0)) = some (some (.int v), D') → k169_0 w (d + 200) (nI i) (nI p') (nI q') D = some (some (.int v), D') := fun D D' v hD e => by
        have h' := mr_0 (v := nI 0) hD
        rw [e169_0, x116 hS h'.1, c1]
        simp (disch := omega) only [nI_add, pk_mul, nI_clamp, nI_leI, nI_ltI, nI_eq, inb_, iz1_, iz2_, iz3_, iz4_, iz5_, reduceIte, if_pos, if_neg, op_os, op_vIs, op_vLs, op_vRs, op_vNs, dI_at, dL_at, dI_2, dL_1, Nat.reduceEqDiff, Nat.reduceAdd, Nat.reduceMul, false_and, and_false, true_and, and_true, ne_eq, not_true_eq_false, not_false_eq_true, b2_z, b2_o, b2_n, b2_01, nar_b, nar_0, nar_1, Bool.false_eq_true, Bool.true_eq_false, x116 hS h'.1, c2, e]
      by_cases z : frs_ ((bm_ (S.1 i) (S.1 i) 3 (p', q')).2.2.2.2) ((bm_ (S.1 i) (S.1 i) 3 (p', q')).2.1) < (bm_ (S.1 i) (S.1 i) 3 (p', q')).2.1
      · refine bo_tell (w := w) (d := d) hS hi hi hp hq rfl (v1 := .int (nI (dep_ (bm_ (S.1 i) (S.1 i) 3 (p', q')) (frs_ ((bm_ (S.1 i) (S.1 i) 3 (p', q')).2.2.2.2) ((bm_ (S.1 i) (S.1 i) 3 (p', q')).2.1))))) (v0 := .int (-1)) (fun v _ ev => ⟨fun D D' hD e e21 => ?_, fun D D' hD e hd => ?_⟩) (fun D D' hD e => ?_) (fun D D' hD e => ?_)
        · rw [cst D D' _ hD e, if_neg (by decide), e21, ev]
        · rw [rst D D' _ hD e, ev]
        · rw [cst D D' _ hD e, if_pos rfl]
        · rw [rst D D' _ hD e]
      · refine bo_tell (w := w) (d := d) hS hi hi hp hq rfl (v1 := .int (nI 0)) (v0 := .int (-1)) (fun v hv ev => absurd (by rw [ev]; exact hv) z) (fun D D' hD e => ?_) (fun D D' hD e => ?_)
        · rw [cst D D' _ hD e, if_pos rfl]
        · rw [rst D D' _ hD e]
    · refine bo_o (.int (-102)) hS (fun D hD => ?_) (fun D hD => ?_)
      · rw [e96_0, x108 hS hD.1, c1]
        simp (disch := omega) only [nI_add, pk_mul, nI_clamp, nI_leI, nI_ltI, nI_eq, inb_, iz1_, iz2_, iz3_, iz4_, iz5_, reduceIte, if_pos, if_neg, op_os, op_vIs, op_vLs, op_vRs, op_vNs, dI_at, dL_at, dI_2, dL_1, Nat.reduceEqDiff, Nat.reduceAdd, Nat.reduceMul, false_and, and_false, true_and, and_true, ne_eq, not_true_eq_false, not_false_eq_true, b2_z, b2_o, b2_n, b2_01, nar_b, nar_0, nar_1, Bool.false_eq_true, Bool.true_eq_false, x108 hS hD.1, bf_ c2]
      · have h' := mr_0 (v := nI 0) hD
        rw [e169_0, x116 hS h'.1, c1]
        simp (disch := omega) only [nI_add, pk_mul, nI_clamp, nI_leI, nI_ltI, nI_eq, inb_, iz1_, iz2_, iz3_, iz4_, iz5_, reduceIte, if_pos, if_neg, op_os, op_vIs, op_vLs, op_vRs, op_vNs, dI_at, dL_at, dI_2, dL_1, Nat.reduceEqDiff, Nat.reduceAdd, Nat.reduceMul, false_and, and_false, true_and, and_true, ne_eq, not_true_eq_false, not_false_eq_true, b2_z, b2_o, b2_n, b2_01, nar_b, nar_0, nar_1, Bool.false_eq_true, Bool.true_eq_false, x116 hS h'.1, bf_ c2]
  · refine bo_o (.int (-102)) hS (fun D hD => ?_) (fun D hD => ?_)
    · rw [e96_0, x108 hS hD.1, bf_ c1]
      rfl
    · have h' := mr_0 (v := nI 0) hD
      rw [e169_0, x116 hS h'.1, bf_ c1]
      rfl
end PSAME
