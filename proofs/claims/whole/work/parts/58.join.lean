/-! combine and joinTo -/
noncomputable def jm_ (h : Nat) (A B : ma_) : ma_ := if h < 4 then bm_ A B h (A.2.2.1, B.2.2.1) else if h = 4 then thm_ A B else if h = 5 then agm_ A else if h = 6 then tum_ A else bm_ e1_ A 2 (0, A.2.2.1)
def jok_ (h : Nat) (A B : ma_) : Prop := (4 ≤ h → h ≤ 6 → (jm_ h A B).2.1 ≤ 500) ∧ nn_ (jm_ h A B) ≤ 60
theorem jm_0 {h : Nat} {A B : ma_} (hh : h < 4) : jm_ h A B = bm_ A B h (A.2.2.1, B.2.2.1) := by
  unfold jm_
  rw [if_pos hh]
theorem jm_4 {A B : ma_} : jm_ 4 A B = thm_ A B := by
  unfold jm_
  rw [if_neg (by decide), if_pos rfl]
theorem jm_5 {A B : ma_} : jm_ 5 A B = agm_ A := by
  unfold jm_
  rw [if_neg (by decide), if_neg (by decide), if_pos rfl]
theorem jm_6 {A B : ma_} : jm_ 6 A B = tum_ A := by
  unfold jm_
  rw [if_neg (by decide), if_neg (by decide), if_neg (by decide), if_pos rfl]
theorem jm_7 {A B : ma_} : jm_ 7 A B = bm_ e1_ A 2 (0, A.2.2.1) := by
  unfold jm_
  rw [if_neg (by decide), if_neg (by decide), if_neg (by decide), if_neg (by decide)]
theorem bm_len {A B : ma_} (wA : wm_ A) (wB : wm_ B) (nA : A.2.1 ≤ 60) (nB : B.2.1 ≤ 60) (h : Nat) {x0 : Nat × Nat} (h0 : dp_ A B x0) : (bm_ A B h x0).2.1 ≤ 3600 := gp_len wA wB (km_le A B) nA nB h0 n36_
theorem jm_w {h : Nat} {A B : ma_} (hh : h < 8) (wA : wm_ A) (wB : wm_ B) (nA : A.2.1 ≤ 60) (nB : B.2.1 ≤ 60) (hs : 4 ≤ h → h ≤ 6 → (jm_ h A B).2.1 ≤ 500) : wm_ (jm_ h A B) ∧ io_ (jm_ h A B) ∧ (jm_ h A B).2.1 ≤ 3600 := by
  have h50 := n50_e
  by_cases z : h < 4
  · rw [jm_0 z]
    exact ⟨bm_wm wA wB nA nB h ⟨wA.2.2.1, wB.2.2.1⟩, bm_io wA wB nA nB h ⟨wA.2.2.1, wB.2.2.1⟩, bm_len wA wB nA nB h ⟨wA.2.2.1, wB.2.2.1⟩⟩
  · rcases (show h = 4 ∨ h = 5 ∨ h = 6 ∨ h = 7 by omega) with rfl | rfl | rfl | rfl
    · have := hs (by omega) (by omega)
      rw [jm_4] at this ⊢
      have this' : (kq_ (gth_ A B) (A.1) (xth_ A B) n50_).length ≤ 500 := this
      exact ⟨gsm_wm wA.1 (by omega), gsm_io (by omega), by omega⟩
    · have := hs (by omega) (by omega)
      rw [jm_5] at this ⊢
      have this' : (kq_ (gag_ A) (A.1) xag_ n50_).length ≤ 500 := this
      exact ⟨gsm_wm wA.1 (by omega), gsm_io (by omega), by omega⟩
    · have := hs (by omega) (by omega)
      rw [jm_6] at this ⊢
      have this' : (kq_ (gtu_ A) (A.1) (xtu_ A) n50_).length ≤ 500 := this
      exact ⟨gsm_wm wA.1 (by omega), gsm_io (by omega), by omega⟩
    · rw [jm_7]
      exact ⟨bm_wm e1_wm wA (by decide) nA 2 ⟨Nat.zero_lt_one, wA.2.2.1⟩, bm_io e1_wm wA (by decide) nA 2 ⟨Nat.zero_lt_one, wA.2.2.1⟩, bm_len e1_wm wA (by decide) nA 2 ⟨Nat.zero_lt_one, wA.2.2.1⟩⟩
/-- the cells of combine -/
def jx_ (b : Nat) : Prop := (24 ≤ b ∧ b ≤ 26) ∨ (36 ≤ b ∧ b ≤ 49)
def jw_ (t b : Nat) : Prop := jx_ b ∨ (t ≤ b ∧ b ≤ t + 2)
section JOIN
variable {w : (Nat → Int32) × Nat} {d : Nat} {D : dy_} {A B : ma_} {S : sp_} {B0 : Nat}
theorem x69 {t a b h Bs : Nat} (hh : h < 8) (ht : t ∈ ml_) (ht24 : t ≠ 24) (hcap : 60 ≤ cap_ t) (ha : a ∈ ml_) (hb : b ∈ ml_) (ha24 : a ≠ 24) (hb24 : b ≠ 24) (hA : cm_ D a A) (hB : cm_ D b B) (wA : wm_ A) (wB : wm_ B) (nA : A.2.1 ≤ 60) (nB : B.2.1 ≤ 60) (cA : A.2.1 ≤ cap_ a) (cB : B.2.1 ≤ cap_ b) (hkk : A.1 = B.1) (h33 : cm_ D 33 e1_) (hs : rsp_ D Bs) (hBs : Bs + 1000 < 2 ^ 31) : ∃ D', rsp_ D' (Bs + 1000) ∧ sx_ (jw_ t) D D' ∧ (jok_ h A B → k69_0 w (d + 6) t (nI h) a b D = some (some (.int (nI (nn_ (jm_ h A B)))), D') ∧ cm_ D' t (qm_ (jm_ h A B))) ∧ (¬ jok_ h A B → k69_0 w (d + 6) t (nI h) a b D = some (some (.int (-104)), D') ∧ sx_ jx_ D D') := by
  have pt := ml_p ht ht24
  -- from the raw machine on
  have fin : ∀ D1, cm_ D1 24 (jm_ h A B) → wm_ (jm_ h A B) ∧ io_ (jm_ h A B) ∧ (jm_ h A B).2.1 ≤ 3600 → (4 ≤ h → h ≤ 6 → (jm_ h A B).2.1 ≤ 500) → D1.1 24 4 = nI 0 → sx_ jx_ D D1 → D1.1 41 = D.1 41 → D1.1 44 = D.1 44 → k69_0 w (d + 6) t (nI h) a b D = k69_63 w (d + 6) t D1 → ∃ D', rsp_ D' (Bs + 1000) ∧ sx_ (jw_ t) D D' ∧ (jok_ h A B → k69_0 w (d + 6) t (nI h) a b D = some (some (.int (nI (nn_ (jm_ h A B)))), D') ∧ cm_ D' t (qm_ (jm_ h A B))) ∧ (¬ jok_ h A B → k69_0 w (d + 6) t (nI h) a b D = some (some (.int (-104)), D') ∧ sx_ jx_ D D') := by
    intro D1 hc hw h5 h24 hx h41 h44 st
    obtain ⟨D', r1, r2, r3, r4⟩ := x1 (w := w) (d := d + 1) ht ht24 hw.1 hc hw.2.2 hcap (rsp_fw hs h24 h41 h44) hBs
    refine ⟨D', r1, sx_t (sx_w hx (fun b hb => Or.inl hb)) (sx_w r2 (fun b hb => by unfold jw_ jx_; omega)), fun ok => ⟨?_, (r3 ok.2).2.1⟩, fun nok => ?_⟩
    · rw [st, e69_63 ht, (r3 ok.2).1]
      simp (disch := omega) only [nI_add, pk_mul, nI_clamp, nI_leI, nI_ltI, nI_eq, inb_, iz1_, iz2_, iz3_, iz4_, iz5_, reduceIte, if_pos, if_neg, op_os, op_vIs, op_vLs, op_vRs, op_vNs, dI_at, dL_at, dI_2, dL_1, Nat.reduceEqDiff, Nat.reduceAdd, Nat.reduceMul, false_and, and_false, true_and, and_true, ne_eq, not_true_eq_false, not_false_eq_true, b2_z, b2_o, b2_n, b2_01, nar_b, nar_0, nar_1, Bool.false_eq_true, Bool.true_eq_false]
    · have big : 60 < nn_ (jm_ h A B) := by
        refine Nat.lt_of_not_le fun z => nok ⟨h5, z⟩
      refine ⟨?_, sx_t hx (sx_w (r4 big).2 (fun b hb => by unfold jx_; omega))⟩
      rw [st, e69_63 ht, (r4 big).1]
      simp (disch := omega) only [nI_add, pk_mul, nI_clamp, nI_leI, nI_ltI, nI_eq, inb_, iz1_, iz2_, iz3_, iz4_, iz5_, reduceIte, if_pos, if_neg, op_os, op_vIs, op_vLs, op_vRs, op_vNs, dI_at, dL_at, dI_2, dL_1, Nat.reduceEqDiff, Nat.reduceAdd, Nat.reduceMul, false_and, and_false, true_and, and_true, ne_eq, not_true_eq_false, not_false_eq_true, b2_z, b2_o, b2_n, b2_01, nar_b, nar_0, nar_1, Bool.false_eq_true, Bool.true_eq_false]
  -- sets that are too many
  have none1 : ∀ D1, sx_ gw_ D D1 → D1.1 24 4 = nI 0 → ¬ jok_ h A B → k69_0 w (d + 6) t (nI h) a b D = some (some (.int (-104)), D1) → ∃ D', rsp_ D' (Bs + 1000) ∧ sx_ (jw_ t) D D' ∧ (jok_ h A B → k69_0 w (d + 6) t (nI h) a b D = some (some (.int (nI (nn_ (jm_ h A B)))), D') ∧ cm_ D' t (qm_ (jm_ h A B))) ∧ (¬ jok_ h A B → k69_0 w (d + 6) t (nI h) a b D = some (some (.int (-104)), D') ∧ sx_ jx_ D D') := by
    intro D1 hx h24 nok st
    exact ⟨D1, rsp_m (rsp_fw hs h24 (hx 41 (by unfold gw_; omega)).1 (hx 44 (by unfold gw_; omega)).1) (by omega), sx_w hx (fun b hb => by unfold gw_ at hb; unfold jw_ jx_; omega), fun ok => absurd ok nok, fun _ => ⟨st, sx_w hx (fun b hb => by unfold gw_ at hb; unfold jx_; omega)⟩⟩
  have sets : ∀ (T : ma_) D1, jm_ h A B = T → 4 ≤ h → h ≤ 6 → sx_ gw_ D D1 → D1.1 24 4 = nI 0 → (T.2.1 ≤ 500 → cm_ D1 24 T) → k76_0 w (d + 5) (nI h) a b D = some (some (.int (b2_ (decide (T.2.1 ≤ 500)))), D1) → ∃ D', rsp_ D' (Bs + 1000) ∧ sx_ (jw_ t) D D' ∧ (jok_ h A B → k69_0 w (d + 6) t (nI h) a b D = some (some (.int (nI (nn_ (jm_ h A B)))), D') ∧ cm_ D' t (qm_ (jm_ h A B))) ∧ (¬ jok_ h A B → k69_0 w (d + 6) t (nI h) a b D = some (some (.int (-104)), D') ∧ sx_ jx_ D D') := by
    intro T D1 hT h4 h6 hx h24 hcm st
    by_cases z : T.2.1 ≤ 500
    · have hsz : 4 ≤ h → h ≤ 6 → (jm_ h A B).2.1 ≤ 500 := fun _ _ => by rw [hT]; exact z
      refine fin D1 (by rw [hT]; exact hcm z) (jm_w hh wA wB nA nB hsz) hsz h24 (sx_w hx (fun b hb => by unfold gw_ at hb; unfold jx_; omega)) (hx 41 (by unfold gw_; omega)).1 (hx 44 (by unfold gw_; omega)).1 ?_
      rw [decide_eq_true z] at st
      rw [e69_0 ht ha hb]
      simp (disch := omega) only [nI_add, pk_mul, nI_clamp, nI_leI, nI_ltI, nI_eq, inb_, iz1_, iz2_, iz3_, iz4_, iz5_, reduceIte, if_pos, if_neg, op_os, op_vIs, op_vLs, op_vRs, op_vNs, dI_at, dL_at, dI_2, dL_1, Nat.reduceEqDiff, Nat.reduceAdd, Nat.reduceMul, false_and, and_false, true_and, and_true, ne_eq, not_true_eq_false, not_false_eq_true, b2_z, b2_o, b2_n, b2_01, nar_b, nar_0, nar_1, Bool.false_eq_true, Bool.true_eq_false, st]
    · refine none1 D1 hx h24 (fun ok => z (by rw [← hT]; exact ok.1 h4 h6)) ?_
      rw [decide_eq_false z] at st
      rw [e69_0 ht ha hb]
      simp (disch := omega) only [nI_add, pk_mul, nI_clamp, nI_leI, nI_ltI, nI_eq, inb_, iz1_, iz2_, iz3_, iz4_, iz5_, reduceIte, if_pos, if_neg, op_os, op_vIs, op_vLs, op_vRs, op_vNs, dI_at, dL_at, dI_2, dL_1, Nat.reduceEqDiff, Nat.reduceAdd, Nat.reduceMul, false_and, and_false, true_and, and_true, ne_eq, not_true_eq_false, not_false_eq_true, b2_z, b2_o, b2_n, b2_01, nar_b, nar_0, nar_1, Bool.false_eq_true, Bool.true_eq_false, st]
  by_cases z : h < 4
  · obtain ⟨D1, e1, e2, e3, e4⟩ := x72 (w := w) (d := d + 3) (h := h) ha hb ha24 hb24 hA hB wA wB nA nB cA cB z (p := A.2.2.1) (q := B.2.2.1) ⟨wA.2.2.1, wB.2.2.1⟩ hs.1
    refine fin D1 (by rw [jm_0 z]; exact e2) (jm_w hh wA wB nA nB (fun y => absurd y (by omega))) (fun y => absurd y (by omega)) e2.2.2.1 (sx_w e4 (fun b hb => by unfold pw_ at hb; unfold jx_; omega)) (e4 41 (by unfold pw_; omega)).1 (e4 44 (by unfold pw_; omega)).1 ?_
    rw [e69_0 ht ha hb]
    simp (disch := omega) only [nI_add, pk_mul, nI_clamp, nI_leI, nI_ltI, nI_eq, inb_, iz1_, iz2_, iz3_, iz4_, iz5_, reduceIte, if_pos, if_neg, op_os, op_vIs, op_vLs, op_vRs, op_vNs, dI_at, dL_at, dI_2, dL_1, Nat.reduceEqDiff, Nat.reduceAdd, Nat.reduceMul, false_and, and_false, true_and, and_true, ne_eq, not_true_eq_false, not_false_eq_true, b2_z, b2_o, b2_n, b2_01, nar_b, nar_0, nar_1, Bool.false_eq_true, Bool.true_eq_false, hA.2.2.1, hB.2.2.1, e1]
  · rcases (show h = 4 ∨ h = 5 ∨ h = 6 ∨ h = 7 by omega) with rfl | rfl | rfl | rfl
    · obtain ⟨D1, e1, e2, e3, e4⟩ := x76h (w := w) (d := d + 2) ha hb ha24 hb24 hA hB wA wB nA nB cA cB hkk hs.1
      exact sets _ D1 jm_4 (by omega) (by omega) e2 e3 e4 e1
    · obtain ⟨D1, e1, e2, e3, e4⟩ := x76a (w := w) (d := d + 1) ha hb ha24 hA wA nA cA hs.1
      exact sets _ D1 jm_5 (by omega) (by omega) e2 e3 e4 e1
    · obtain ⟨D1, e1, e2, e3, e4⟩ := x76t (w := w) (d := d + 2) ha hb ha24 hA wA nA cA hs.1
      exact sets _ D1 jm_6 (by omega) (by omega) e2 e3 e4 e1
    · obtain ⟨D1, e1, e2, e3, e4⟩ := x72 (w := w) (d := d + 3) (h := 2) ml_33 ha (by decide) ha24 h33 hA e1_wm wA (by decide) nA (by rw [cap_33]; decide) cA (by decide) (p := 0) (q := A.2.2.1) ⟨Nat.zero_lt_one, wA.2.2.1⟩ hs.1
      refine fin D1 (by rw [jm_7]; exact e2) (jm_w hh wA wB nA nB (fun _ y => absurd y (by omega))) (fun _ y => absurd y (by omega)) e2.2.2.1 (sx_w e4 (fun b hb => by unfold pw_ at hb; unfold jx_; omega)) (e4 41 (by unfold pw_; omega)).1 (e4 44 (by unfold pw_; omega)).1 ?_
      rw [e69_0 ht ha hb]
      simp (disch := omega) only [nI_add, pk_mul, nI_clamp, nI_leI, nI_ltI, nI_eq, inb_, iz1_, iz2_, iz3_, iz4_, iz5_, reduceIte, if_pos, if_neg, op_os, op_vIs, op_vLs, op_vRs, op_vNs, dI_at, dL_at, dI_2, dL_1, Nat.reduceEqDiff, Nat.reduceAdd, Nat.reduceMul, false_and, and_false, true_and, and_true, ne_eq, not_true_eq_false, not_false_eq_true, b2_z, b2_o, b2_n, b2_01, nar_b, nar_0, nar_1, Bool.false_eq_true, Bool.true_eq_false, hA.2.2.1, e1]
/-- joinTo -/
theorem x144 {t m n h : Nat} {i4 : Int32} (hh : h < 8) (ht : t < 110) (hm : m < 110) (hn : h < 5 → n < 110 ∧ i4 = nI n ∧ rm_ D n B) (hrA : rm_ D m A) (wA : wm_ A) (wB : wm_ B) (nA : A.2.1 ≤ 60) (nB : B.2.1 ≤ 60) (hkk : A.1 = B.1) : (jok_ h A B → ∃ D1 D', k144_0 w (d + 5) (nI t) (nI h) (nI m) i4 D = some (some (.int (b2_ true)), D') ∧ rm_ D' t (qm_ (jm_ h A B)) ∧ rw_ D D1 ∧ om_ t D1 D') ∧ (¬ jok_ h A B → ∃ D', k144_0 w (d + 5) (nI t) (nI h) (nI m) i4 D = some (some (.int (b2_ false)), D') ∧ rw_ D D') := by
  have fin : ∀ D1, bg_ D1 (jm_ h A B) → wm_ (jm_ h A B) ∧ io_ (jm_ h A B) ∧ (jm_ h A B).2.1 ≤ 3600 → (4 ≤ h → h ≤ 6 → (jm_ h A B).2.1 ≤ 500) → rw_ D D1 → k144_0 w (d + 5) (nI t) (nI h) (nI m) i4 D = k144_112 w (d + 5) (nI t) (nI 1) D1 → (jok_ h A B → ∃ D1 D', k144_0 w (d + 5) (nI t) (nI h) (nI m) i4 D = some (some (.int (b2_ true)), D') ∧ rm_ D' t (qm_ (jm_ h A B)) ∧ rw_ D D1 ∧ om_ t D1 D') ∧ (¬ jok_ h A B → ∃ D', k144_0 w (d + 5) (nI t) (nI h) (nI m) i4 D = some (some (.int (b2_ false)), D') ∧ rw_ D D') := by
    intro D1 hb hw h5 hr st
    obtain ⟨D2, c1, c2, c3⟩ := x127 (w := w) (d := d + 1) hw.1 hb hw.2.1 hw.2.2
    have hq := qm_wm hw.1
    have hnn : nn_ (jm_ h A B) ≤ 3600 := Nat.le_trans (cn_m (nf_1 _)) hw.2.2
    refine ⟨fun ok => ?_, fun nok => ?_⟩
    · obtain ⟨D3, f1, f2, f3⟩ := x123 (w := w) (d := d + 3) (m := t) ht c2 hq rfl ok.2
      refine ⟨D2, D3, ?_, f2, rw_t hr c3, f3⟩
      rw [st, e144_112]
      simp (disch := omega) only [nI_add, pk_mul, nI_clamp, nI_leI, nI_ltI, nI_eq, inb_, iz1_, iz2_, iz3_, iz4_, iz5_, reduceIte, if_pos, if_neg, op_os, op_vIs, op_vLs, op_vRs, op_vNs, dI_at, dL_at, dI_2, dL_1, Nat.reduceEqDiff, Nat.reduceAdd, Nat.reduceMul, false_and, and_false, true_and, and_true, ne_eq, not_true_eq_false, not_false_eq_true, b2_z, b2_o, b2_n, b2_01, nar_b, nar_0, nar_1, Bool.false_eq_true, Bool.true_eq_false, c1, f1]
    · have big : 60 < nn_ (jm_ h A B) := Nat.lt_of_not_le fun z => nok ⟨h5, z⟩
      refine ⟨D2, ?_, rw_t hr c3⟩
      rw [st, e144_112]
      simp (disch := omega) only [nI_add, pk_mul, nI_clamp, nI_leI, nI_ltI, nI_eq, inb_, iz1_, iz2_, iz3_, iz4_, iz5_, reduceIte, if_pos, if_neg, op_os, op_vIs, op_vLs, op_vRs, op_vNs, dI_at, dL_at, dI_2, dL_1, Nat.reduceEqDiff, Nat.reduceAdd, Nat.reduceMul, false_and, and_false, true_and, and_true, ne_eq, not_true_eq_false, not_false_eq_true, b2_z, b2_o, b2_n, b2_01, nar_b, nar_0, nar_1, Bool.false_eq_true, Bool.true_eq_false, c1, x123f c2 big hnn]
  have sets : ∀ (T : ma_) D1, jm_ h A B = T → 4 ≤ h → h ≤ 6 → rw_ D D1 → (T.2.1 ≤ 500 → bg_ D1 T) → k144_0 w (d + 5) (nI t) (nI h) (nI m) i4 D = k144_112 w (d + 5) (nI t) (b2_ (decide (T.2.1 ≤ 500))) D1 → (jok_ h A B → ∃ D1 D', k144_0 w (d + 5) (nI t) (nI h) (nI m) i4 D = some (some (.int (b2_ true)), D') ∧ rm_ D' t (qm_ (jm_ h A B)) ∧ rw_ D D1 ∧ om_ t D1 D') ∧ (¬ jok_ h A B → ∃ D', k144_0 w (d + 5) (nI t) (nI h) (nI m) i4 D = some (some (.int (b2_ false)), D') ∧ rw_ D D') := by
    intro T D1 hT h4 h6 hr hb st
    by_cases z : T.2.1 ≤ 500
    · have hsz : 4 ≤ h → h ≤ 6 → (jm_ h A B).2.1 ≤ 500 := fun _ _ => by rw [hT]; exact z
      refine fin D1 (by rw [hT]; exact hb z) (jm_w hh wA wB nA nB hsz) hsz hr ?_
      rw [st, decide_eq_true z]
      rfl
    · refine ⟨fun ok => absurd (by rw [← hT]; exact ok.1 h4 h6) z, fun _ => ⟨D1, ?_, hr⟩⟩
      rw [st, decide_eq_false z, e144_112]
      rfl
  by_cases z : h < 4
  · obtain ⟨n1, n2, n3⟩ := hn (by omega)
    subst n2
    obtain ⟨D1, e1, e2, e3⟩ := x139 (w := w) (d := d + 2) (h := h) z hm n1 hrA n3 wA wB nA nB hkk
    refine fin D1 (by rw [jm_0 z]; exact e2) (jm_w hh wA wB nA nB (fun y => absurd y (by omega))) (fun y => absurd y (by omega)) e3 ?_
    rw [e144_0]
    simp (disch := omega) only [nI_add, pk_mul, nI_clamp, nI_leI, nI_ltI, nI_eq, inb_, iz1_, iz2_, iz3_, iz4_, iz5_, reduceIte, if_pos, if_neg, op_os, op_vIs, op_vLs, op_vRs, op_vNs, dI_at, dL_at, dI_2, dL_1, Nat.reduceEqDiff, Nat.reduceAdd, Nat.reduceMul, false_and, and_false, true_and, and_true, ne_eq, not_true_eq_false, not_false_eq_true, b2_z, b2_o, b2_n, b2_01, nar_b, nar_0, nar_1, Bool.false_eq_true, Bool.true_eq_false, e1]
  · rcases (show h = 4 ∨ h = 5 ∨ h = 6 ∨ h = 7 by omega) with rfl | rfl | rfl | rfl
    · obtain ⟨n1, n2, n3⟩ := hn (by omega)
      subst n2
      obtain ⟨D1, e1, e2, e3⟩ := x142 (w := w) (d := d) hm n1 hrA n3 wA wB nA nB hkk
      refine sets _ D1 jm_4 (by omega) (by omega) e2 e3 ?_
      rw [e144_0]
      simp (disch := omega) only [nI_add, pk_mul, nI_clamp, nI_leI, nI_ltI, nI_eq, inb_, iz1_, iz2_, iz3_, iz4_, iz5_, reduceIte, if_pos, if_neg, op_os, op_vIs, op_vLs, op_vRs, op_vNs, dI_at, dL_at, dI_2, dL_1, Nat.reduceEqDiff, Nat.reduceAdd, Nat.reduceMul, false_and, and_false, true_and, and_true, ne_eq, not_true_eq_false, not_false_eq_true, b2_z, b2_o, b2_n, b2_01, nar_b, nar_0, nar_1, Bool.false_eq_true, Bool.true_eq_false, e1]
    · obtain ⟨D1, e1, e2, e3⟩ := x143 (w := w) (d := d) hm hrA wA nA
      refine sets _ D1 jm_5 (by omega) (by omega) e2 e3 ?_
      rw [e144_0]
      simp (disch := omega) only [nI_add, pk_mul, nI_clamp, nI_leI, nI_ltI, nI_eq, inb_, iz1_, iz2_, iz3_, iz4_, iz5_, reduceIte, if_pos, if_neg, op_os, op_vIs, op_vLs, op_vRs, op_vNs, dI_at, dL_at, dI_2, dL_1, Nat.reduceEqDiff, Nat.reduceAdd, Nat.reduceMul, false_and, and_false, true_and, and_true, ne_eq, not_true_eq_false, not_false_eq_true, b2_z, b2_o, b2_n, b2_01, nar_b, nar_0, nar_1, Bool.false_eq_true, Bool.true_eq_false, e1]
    · obtain ⟨D1, e1, e2, e3⟩ := x136 (w := w) (d := d + 1) hm hrA wA nA
      refine sets _ D1 jm_6 (by omega) (by omega) e2 e3 ?_
      rw [e144_0]
      simp (disch := omega) only [nI_add, pk_mul, nI_clamp, nI_leI, nI_ltI, nI_eq, inb_, iz1_, iz2_, iz3_, iz4_, iz5_, reduceIte, if_pos, if_neg, op_os, op_vIs, op_vLs, op_vRs, op_vNs, dI_at, dL_at, dI_2, dL_1, Nat.reduceEqDiff, Nat.reduceAdd, Nat.reduceMul, false_and, and_false, true_and, and_true, ne_eq, not_true_eq_false, not_false_eq_true, b2_z, b2_o, b2_n, b2_01, nar_b, nar_0, nar_1, Bool.false_eq_true, Bool.true_eq_false, e1]
    · obtain ⟨D1, e1, e2, e3⟩ := x122 (w := w) (d := d + 2) hm hrA wA nA
      have hl36 := (lfm_wm wA nA).2
      obtain ⟨D2, f1, f2, f3⟩ := lp_ (fun p (E : dy_) => k144_75 w (d + 5) (nI t) (nI 1) (nI p) E) (fun p E => (∀ q, q < (lfm_ A).2.1 → E.1 359 q = b2_ (if q < p then !(lfm_ A).2.2.2.2 q else (lfm_ A).2.2.2.2 q)) ∧ fx_ (fun b => b = 359) (fun _ => False) D1 E) ((lfm_ A).2.1) (s := D1) (by
        rintro p E hp ⟨t1, t2⟩
        have hp1 := t1 p hp
        rw [if_neg (by omega)] at hp1
        refine ⟨dI_ E 359 p (b2_ (!(lfm_ A).2.2.2.2 p)), ?_, fun q hq => ?_, fx_1 t2 (by omega)⟩
        · show k144_75 w (d + 5) (nI t) (nI 1) (nI p) E = _
          rw [e144_75]
          cases hac : (lfm_ A).2.2.2.2 p with
          | true =>
            rw [hac] at hp1
            simp (disch := omega) only [nI_add, pk_mul, nI_clamp, nI_leI, nI_ltI, nI_eq, inb_, iz1_, iz2_, iz3_, iz4_, iz5_, reduceIte, if_pos, if_neg, op_os, op_vIs, op_vLs, op_vRs, op_vNs, dI_at, dL_at, dI_2, dL_1, Nat.reduceEqDiff, Nat.reduceAdd, Nat.reduceMul, false_and, and_false, true_and, and_true, ne_eq, not_true_eq_false, not_false_eq_true, b2_z, b2_o, b2_n, b2_01, nar_b, nar_0, nar_1, Bool.false_eq_true, Bool.true_eq_false, t2.2.1 9 id, e2.2.1, hp1, e144_105, sf_359]
            rfl
          | false =>
            rw [hac] at hp1
            simp (disch := omega) only [nI_add, pk_mul, nI_clamp, nI_leI, nI_ltI, nI_eq, inb_, iz1_, iz2_, iz3_, iz4_, iz5_, reduceIte, if_pos, if_neg, op_os, op_vIs, op_vLs, op_vRs, op_vNs, dI_at, dL_at, dI_2, dL_1, Nat.reduceEqDiff, Nat.reduceAdd, Nat.reduceMul, false_and, and_false, true_and, and_true, ne_eq, not_true_eq_false, not_false_eq_true, b2_z, b2_o, b2_n, b2_01, nar_b, nar_0, nar_1, Bool.false_eq_true, Bool.true_eq_false, t2.2.1 9 id, e2.2.1, hp1, e144_105, sf_359]
            rfl
        · simp (disch := omega) only [nI_add, pk_mul, nI_clamp, nI_leI, nI_ltI, nI_eq, inb_, iz1_, iz2_, iz3_, iz4_, iz5_, reduceIte, op_os, op_vIs, op_vLs, op_vRs, op_vNs, dI_at, dL_at, dI_2, dL_1, Nat.reduceEqDiff, Nat.reduceAdd, Nat.reduceMul, false_and, and_false, true_and, and_true, ne_eq, not_true_eq_false, not_false_eq_true, b2_z, b2_o, b2_n, b2_01, nar_b, nar_0, nar_1, Bool.false_eq_true, Bool.true_eq_false]
          by_cases y : q = p
          · rw [if_pos y, if_pos (by omega), y]
          · rw [if_neg y, t1 q hq]
            by_cases y2 : q < p
            · rw [if_pos y2, if_pos (by omega)]
            · rw [if_neg y2, if_neg (by omega)]) ⟨fun q hq => by rw [if_neg (by omega)]; exact e2.2.2.2 q hq, fx_r _ _ D1⟩
      have hb2 : bg_ D2 (nm_ (lfm_ A)) := ⟨by rw [f3.2.1 8 id]; exact e2.1, by rw [f3.2.1 9 id]; exact e2.2.1, fun i l hi hl => by rw [f3.1 358 (by omega) (by omega)]; exact e2.2.2.1 i l hi hl, fun i hi => by
        have hi' : i < (lfm_ A).2.1 := hi
        rw [f2 i hi', if_pos hi']
        rfl⟩
      refine fin D2 (by rw [jm_7]; exact bg_em hb2 (nfm_bm wA nA)) (jm_w hh wA wB nA nB (fun _ y => absurd y (by omega))) (fun _ y => absurd y (by omega)) (rw_t e3 (rw_fx f3 (fun b hb => by omega) (fun j hj => hj.elim))) ?_
      rw [e144_0]
      simp (disch := omega) only [nI_add, pk_mul, nI_clamp, nI_leI, nI_ltI, nI_eq, inb_, iz1_, iz2_, iz3_, iz4_, iz5_, reduceIte, if_pos, if_neg, op_os, op_vIs, op_vLs, op_vRs, op_vNs, dI_at, dL_at, dI_2, dL_1, Nat.reduceEqDiff, Nat.reduceAdd, Nat.reduceMul, false_and, and_false, true_and, and_true, ne_eq, not_true_eq_false, not_false_eq_true, b2_z, b2_o, b2_n, b2_01, nar_b, nar_0, nar_1, Bool.false_eq_true, Bool.true_eq_false, e1]
      refine Eq.trans (show _ = k144_75 w (d + 5) (nI t) (nI 1) (nI ((lfm_ A).2.1)) D2 from f1) ?_
      rw [e144_75]
      simp (disch := omega) only [nI_add, pk_mul, nI_clamp, nI_leI, nI_ltI, nI_eq, inb_, iz1_, iz2_, iz3_, iz4_, iz5_, reduceIte, if_pos, if_neg, op_os, op_vIs, op_vLs, op_vRs, op_vNs, dI_at, dL_at, dI_2, dL_1, Nat.reduceEqDiff, Nat.reduceAdd, Nat.reduceMul, false_and, and_false, true_and, and_true, ne_eq, not_true_eq_false, not_false_eq_true, b2_z, b2_o, b2_n, b2_01, nar_b, nar_0, nar_1, Bool.false_eq_true, Bool.true_eq_false, f3.2.1 9 id, e2.2.1, Nat.le_refl]
end JOIN
