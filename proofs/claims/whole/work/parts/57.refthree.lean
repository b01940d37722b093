/-! turn, behind, often -/
def gar_ (A : ma_) (x : Nat × Nat) (l : Nat) : Nat × Nat := (0, agn_ A (if x.1 = 1 then 2 ^ A.2.2.2.1 (A.2.2.1) l else lon_ A x.2 l))
def xar_ : Nat × Nat := (1, 0)
/-- the names of the reference for the sets of again -/
def phi_ (x : Nat × Nat) : Nat × Nat := if x.2 = 0 then (1, 0) else x
theorem phi_g {A : ma_} (wA : wm_ A) (nA : A.2.1 ≤ 60) (x : Nat × Nat) (l : Nat) (h : dag_ A x) (hl : l < A.1) : gar_ A (phi_ x) l = phi_ (gag_ A x l) := by
  have hd := (gag_d wA nA).2 x l h hl
  have hnz : (gag_ A x l).2 ≠ 0 := by
    have : ∃ p, p < A.2.1 ∧ (if x.2 = 0 then 2 ^ A.2.2.1 else x.2).testBit p = true := by
      by_cases z : x.2 = 0
      · rw [if_pos z]
        exact ⟨A.2.2.1, wA.2.2.1, by rw [Nat.testBit_two_pow, decide_eq_true_iff]⟩
      · rw [if_neg z]
        exact h.2.2.2 z
    obtain ⟨p, p1, p2⟩ := this
    exact nz_bit.mpr ⟨A.2.2.2.1 p l, agn_t (lon_t.mpr ⟨p, p1, p2, rfl⟩)⟩
  unfold phi_
  rw [if_neg hnz]
  by_cases z : x.2 = 0
  · rw [if_pos z]
    unfold gar_ gag_
    rw [if_pos rfl, if_pos z, lon_1 wA.2.2.1]
  · rw [if_neg z]
    unfold gar_ gag_
    rw [if_neg (by have := h.1; omega), if_neg z]
theorem phi_i {A : ma_} (x y : Nat × Nat) (hx : dag_ A x) (hy : dag_ A y) (e : phi_ x = phi_ y) : x = y := by
  unfold phi_ at e
  by_cases z : x.2 = 0
  · by_cases z' : y.2 = 0
    · rw [hx.2.2.1 z, hy.2.2.1 z']
    · rw [if_pos z, if_neg z'] at e
      have := hy.1
      rw [← e] at this
      exact absurd this (by decide)
  · by_cases z' : y.2 = 0
    · rw [if_neg z, if_pos z'] at e
      have := hx.1
      rw [e] at this
      exact absurd this (by decide)
    · rwa [if_neg z, if_neg z'] at e
theorem xar_e : xar_ = phi_ xag_ := rfl
noncomputable def arm_ (A : ma_) : ma_ := gsm_ (A.1) (gar_ A) xar_ (fun i => decide (i = 0) || hac_ A (kf_ (gar_ A) (A.1) xar_ n50_ i).2)
theorem arm_len {A : ma_} (wA : wm_ A) (nA : A.2.1 ≤ 60) : (kq_ (gar_ A) (A.1) xar_ n50_).length = (kq_ (gag_ A) (A.1) xag_ n50_).length := by
  have hd := gag_d wA nA
  rw [xar_e, kq_map (P := dag_ A) (φ := phi_) (g := gag_ A) hd.1 hd.2 (phi_g wA nA) phi_i, List.length_map]
theorem arm_em {A : ma_} (wA : wm_ A) (nA : A.2.1 ≤ 60) (hc : (agm_ A).2.1 ≤ 500) : em_ (arm_ A) (agm_ A) := by
  have h50 := n50_e
  have hd := gag_d wA nA
  have hlen := arm_len wA nA
  have hc' : (kq_ (gag_ A) (A.1) xag_ n50_).length ≤ n50_ := by
    have : (kq_ (gag_ A) (A.1) xag_ n50_).length ≤ 500 := hc
    omega
  refine ⟨rfl, hlen, rfl, fun i l hi hl => ?_, fun i hi => ?_⟩
  · have hi' : i < (kq_ (gag_ A) (A.1) xag_ n50_).length := by rw [← hlen]; exact hi
    exact kt_map (P := dag_ A) (φ := phi_) (g := gag_ A) (g' := gar_ A) (x0 := xag_) hd.1 hd.2 (phi_g wA nA) phi_i hc' hi' hl
  · have hi' : i < (kq_ (gag_ A) (A.1) xag_ n50_).length := by rw [← hlen]; exact hi
    have e : kf_ (gar_ A) (A.1) xar_ n50_ i = phi_ (kf_ (gag_ A) (A.1) xag_ n50_ i) := kf_map (P := dag_ A) (φ := phi_) (g := gag_ A) (g' := gar_ A) (x0 := xag_) hd.1 hd.2 (phi_g wA nA) phi_i
    have h0 := gag_0 wA nA hi'
    show (decide (i = 0) || hac_ A (kf_ (gar_ A) (A.1) xar_ n50_ i).2) = aci_ 5 (ese_ A) (kf_ (gag_ A) (A.1) xag_ n50_) i
    unfold aci_
    by_cases z : i = 0
    · rw [decide_eq_true z]
      simp
    · have hnz : (kf_ (gag_ A) (A.1) xag_ n50_ i).2 ≠ 0 := fun y => z (h0.mp y)
      rw [e, decide_eq_false z]
      unfold phi_
      rw [if_neg hnz]
      have ht := hac_t (M := A) (S := (kf_ (gag_ A) (A.1) xag_ n50_ i).2)
      cases hac : hac_ A (kf_ (gag_ A) (A.1) xag_ n50_ i).2 with
      | true =>
        rw [hac] at ht
        rw [decide_eq_false (fun y => absurd (ht.mp y) (by decide))]
        rfl
      | false =>
        rw [hac] at ht
        rw [decide_eq_true (ht.mpr rfl)]
        rfl
section REFT
variable {w : (Nat → Int32) × Nat} {d : Nat} {D : dy_} {M A B : ma_}
/-- turn -/
theorem x136 {m : Nat} (hm : m < 110) (hr : rm_ D m M) (hM : wm_ M) (hn : M.2.1 ≤ 60) : ∃ D', k136_0 w (d + 3) (nI m) D = some (some (.int (b2_ (decide ((tum_ M).2.1 ≤ 500)))), D') ∧ rw_ D D' ∧ ((tum_ M).2.1 ≤ 500 → bg_ D' (tum_ M)) := by
  have hk := hM.1
  have hs := hM.2.2.1
  have hw : M.2.1 ≤ 60 ∧ M.1 ≤ 4 := ⟨hn, hk.2⟩
  have hd := gtu_d (M := M) hn
  generalize hE0 : dI_ D 351 31 (nI 0) = E0
  have r0 : rw_ D E0 := by
    rw [← hE0]
    exact rw_1 (rw_r D) (Or.inl ⟨rfl, by unfold wf8_; omega⟩)
  have hr0 := rm_rw hr r0
  have ends : k136_10 w (d + 3) (nI m) (lN 0) (nI 0) E0 = k136_10 w (d + 3) (nI m) (lN (ese_ M)) (nI (M.2.1)) E0 := lq_ (fun i (x : Nat) => k136_10 w (d + 3) (nI m) (lN x) (nI i) E0) (fun i => orf_ (fun s => if M.2.2.2.2 s then 2 ^ s else 0) i) (M.2.1) (by
    intro i hi
    show k136_10 w (d + 3) (nI m) (lN (orf_ (fun s => if M.2.2.2.2 s then 2 ^ s else 0) i)) (nI i) E0 = k136_10 w (d + 3) (nI m) (lN (orf_ (fun s => if M.2.2.2.2 s then 2 ^ s else 0) i ||| if M.2.2.2.2 i then 2 ^ i else 0)) (nI (i + 1)) E0
    rw [e136_10]
    simp (disch := omega) only [nI_add, pk_mul, nI_clamp, nI_leI, nI_ltI, nI_eq, inb_, iz1_, iz2_, iz3_, iz4_, iz5_, reduceIte, if_pos, if_neg, op_os, op_vIs, op_vLs, op_vRs, op_vNs, dI_at, dL_at, dI_2, dL_1, Nat.reduceEqDiff, Nat.reduceAdd, Nat.reduceMul, false_and, and_false, true_and, and_true, ne_eq, not_true_eq_false, not_false_eq_true, b2_z, b2_o, b2_n, b2_01, nar_b, nar_0, nar_1, Bool.false_eq_true, Bool.true_eq_false, hr0.2.1, x113 hm hw hr0 hi]
    cases M.2.2.2.2 i
    · simp (disch := omega) only [nI_add, pk_mul, nI_clamp, nI_leI, nI_ltI, nI_eq, inb_, iz1_, iz2_, iz3_, iz4_, iz5_, reduceIte, if_pos, if_neg, op_os, op_vIs, op_vLs, op_vRs, op_vNs, dI_at, dL_at, dI_2, dL_1, Nat.reduceEqDiff, Nat.reduceAdd, Nat.reduceMul, false_and, and_false, true_and, and_true, ne_eq, not_true_eq_false, not_false_eq_true, b2_z, b2_o, b2_n, b2_01, nar_b, nar_0, nar_1, Bool.false_eq_true, Bool.true_eq_false, e136_41]
      rw [Nat.or_zero]
    · simp (disch := omega) only [nI_add, pk_mul, nI_clamp, nI_leI, nI_ltI, nI_eq, inb_, iz1_, iz2_, iz3_, iz4_, iz5_, reduceIte, if_pos, if_neg, op_os, op_vIs, op_vLs, op_vRs, op_vNs, dI_at, dL_at, dI_2, dL_1, Nat.reduceEqDiff, Nat.reduceAdd, Nat.reduceMul, false_and, and_false, true_and, and_true, ne_eq, not_true_eq_false, not_false_eq_true, b2_z, b2_o, b2_n, b2_01, nar_b, nar_0, nar_1, Bool.false_eq_true, Bool.true_eq_false, e136_41, sb1, lN_or])
  obtain ⟨E1, b1, b2, b3⟩ := x135z (w := w) (d := d + 1) (D := E0) (kf_0 (gtu_ M) (M.1) (xtu_ M) (N := n50_)) hd.1 (by rw [← hE0]; simp (disch := omega) only [nI_add, pk_mul, nI_clamp, nI_leI, nI_ltI, nI_eq, inb_, iz1_, iz2_, iz3_, iz4_, iz5_, reduceIte, if_pos, if_neg, op_os, op_vIs, op_vLs, op_vRs, op_vNs, dI_at, dL_at, dI_2, dL_1, Nat.reduceEqDiff, Nat.reduceAdd, Nat.reduceMul, false_and, and_false, true_and, and_true, ne_eq, not_true_eq_false, not_false_eq_true, b2_z, b2_o, b2_n, b2_01, nar_b, nar_0, nar_1, Bool.false_eq_true, Bool.true_eq_false])
  have b1' : k135_0 w (d + 2) (nI 0) (lN (ese_ M)) E0 = some (some (.int (nI 0)), E1) := b1
  have hdom := kq_dom (gtu_ M) (M.1) (xtu_ M) hd.1 hd.2 n50_
  obtain ⟨D', c1, c2, c3⟩ := y76 (w := w) (d := d + 1) (D := D) (g := gtu_ M) (k := M.1) (x0 := xtu_ M) (ai := aci_ 6 (2 ^ M.2.2.1) (kf_ (gtu_ M) (M.1) (xtu_ M) n50_)) (fun i E => k136_58 w (d + 3) (nI m) (nI i) E) (fun i l E => k136_103 w (d + 3) (nI m) (nI i) (nI l) E) hk hdom (fun x l hx hl => hd.2 x l (hdom x hx) hl) (by
      intro i E n hE hrs hi hn5 hi'
      have hrE := rm_rw hr hE
      rw [e136_58]
      unfold aci_
      have hap := and_pw (S := (kf_ (gtu_ M) (M.1) (xtu_ M) n50_ i).2) (p := M.2.2.1)
      cases hb : (kf_ (gtu_ M) (M.1) (xtu_ M) n50_ i).2.testBit (M.2.2.1) with
      | true =>
        rw [hb] at hap
        rw [decide_eq_false (fun y => absurd (hap.mp y) (by decide))]
        simp (disch := omega) only [nI_add, pk_mul, nI_clamp, nI_leI, nI_ltI, nI_eq, inb_, iz1_, iz2_, iz3_, iz4_, iz5_, reduceIte, if_pos, if_neg, op_os, op_vIs, op_vLs, op_vRs, op_vNs, dI_at, dL_at, dI_2, dL_1, Nat.reduceEqDiff, Nat.reduceAdd, Nat.reduceMul, false_and, and_false, true_and, and_true, ne_eq, not_true_eq_false, not_false_eq_true, b2_z, b2_o, b2_n, b2_01, nar_b, nar_0, nar_1, Bool.false_eq_true, Bool.true_eq_false, hrs.1, (hrs.2 i hi).1, hrE.2.2.1, tb1, hb, e136_99, sf_359]
        rfl
      | false =>
        rw [hb] at hap
        rw [decide_eq_true (hap.mpr rfl)]
        simp (disch := omega) only [nI_add, pk_mul, nI_clamp, nI_leI, nI_ltI, nI_eq, inb_, iz1_, iz2_, iz3_, iz4_, iz5_, reduceIte, if_pos, if_neg, op_os, op_vIs, op_vLs, op_vRs, op_vNs, dI_at, dL_at, dI_2, dL_1, Nat.reduceEqDiff, Nat.reduceAdd, Nat.reduceMul, false_and, and_false, true_and, and_true, ne_eq, not_true_eq_false, not_false_eq_true, b2_z, b2_o, b2_n, b2_01, nar_b, nar_0, nar_1, Bool.false_eq_true, Bool.true_eq_false, hrs.1, (hrs.2 i hi).1, hrE.2.2.1, tb1, hb, e136_99, sf_359]
        rfl) (by
      intro i l E n hE hrs hi hn5 hi' hl
      have hrE := rm_rw hr hE
      rw [e136_103]
      simp (disch := omega) only [nI_add, pk_mul, nI_clamp, nI_leI, nI_ltI, nI_eq, inb_, iz1_, iz2_, iz3_, iz4_, iz5_, reduceIte, if_pos, if_neg, op_os, op_vIs, op_vLs, op_vRs, op_vNs, dI_at, dL_at, dI_2, dL_1, Nat.reduceEqDiff, Nat.reduceAdd, Nat.reduceMul, false_and, and_false, true_and, and_true, ne_eq, not_true_eq_false, not_false_eq_true, b2_z, b2_o, b2_n, b2_01, nar_b, nar_0, nar_1, Bool.false_eq_true, Bool.true_eq_false, hrE.1]
      have := lq_ (fun p (x : Nat) => k136_120 w (d + 3) (nI m) (nI i) (nI l) (lN x) (nI p) E) (fun p => orf_ (fun s => if (kf_ (gtu_ M) (M.1) (xtu_ M) n50_ i).2.testBit (M.2.2.2.1 s l) then 2 ^ s else 0) p) (M.2.1) (by
        intro p hp
        have hx := hM.2.2.2 p l hp hl
        show k136_120 w (d + 3) (nI m) (nI i) (nI l) (lN (orf_ (fun s => if (kf_ (gtu_ M) (M.1) (xtu_ M) n50_ i).2.testBit (M.2.2.2.1 s l) then 2 ^ s else 0) p)) (nI p) E = k136_120 w (d + 3) (nI m) (nI i) (nI l) (lN (orf_ (fun s => if (kf_ (gtu_ M) (M.1) (xtu_ M) n50_ i).2.testBit (M.2.2.2.1 s l) then 2 ^ s else 0) p ||| if (kf_ (gtu_ M) (M.1) (xtu_ M) n50_ i).2.testBit (M.2.2.2.1 p l) then 2 ^ p else 0)) (nI (p + 1)) E
        rw [e136_120]
        cases hb : (kf_ (gtu_ M) (M.1) (xtu_ M) n50_ i).2.testBit (M.2.2.2.1 p l) with
        | true => simp (disch := omega) only [nI_add, pk_mul, nI_clamp, nI_leI, nI_ltI, nI_eq, inb_, iz1_, iz2_, iz3_, iz4_, iz5_, reduceIte, if_pos, if_neg, op_os, op_vIs, op_vLs, op_vRs, op_vNs, dI_at, dL_at, dI_2, dL_1, Nat.reduceEqDiff, Nat.reduceAdd, Nat.reduceMul, false_and, and_false, true_and, and_true, ne_eq, not_true_eq_false, not_false_eq_true, b2_z, b2_o, b2_n, b2_01, nar_b, nar_0, nar_1, Bool.false_eq_true, Bool.true_eq_false, hrE.2.1, x112 hm hw hrE hp hl, (hrs.2 i hi).1, tb1, hb, sb1, lN_or, e136_167]
        | false =>
          simp (disch := omega) only [nI_add, pk_mul, nI_clamp, nI_leI, nI_ltI, nI_eq, inb_, iz1_, iz2_, iz3_, iz4_, iz5_, reduceIte, if_pos, if_neg, op_os, op_vIs, op_vLs, op_vRs, op_vNs, dI_at, dL_at, dI_2, dL_1, Nat.reduceEqDiff, Nat.reduceAdd, Nat.reduceMul, false_and, and_false, true_and, and_true, ne_eq, not_true_eq_false, not_false_eq_true, b2_z, b2_o, b2_n, b2_01, nar_b, nar_0, nar_1, Bool.false_eq_true, Bool.true_eq_false, hrE.2.1, x112 hm hw hrE hp hl, (hrs.2 i hi).1, tb1, hb, e136_167]
          rw [Nat.or_zero])
      refine this.trans ?_
      show k136_120 w (d + 3) (nI m) (nI i) (nI l) (lN (lbk_ M (kf_ (gtu_ M) (M.1) (xtu_ M) n50_ i).2 l)) (nI (M.2.1)) E = _
      rw [e136_120]
      simp (disch := omega) only [nI_add, pk_mul, nI_clamp, nI_leI, nI_ltI, nI_eq, inb_, iz1_, iz2_, iz3_, iz4_, iz5_, reduceIte, if_pos, if_neg, op_os, op_vIs, op_vLs, op_vRs, op_vNs, dI_at, dL_at, dI_2, dL_1, Nat.reduceEqDiff, Nat.reduceAdd, Nat.reduceMul, false_and, and_false, true_and, and_true, ne_eq, not_true_eq_false, not_false_eq_true, b2_z, b2_o, b2_n, b2_01, nar_b, nar_0, nar_1, Bool.false_eq_true, Bool.true_eq_false, hrE.2.1, Nat.le_refl]
      rfl) (by
      intro i E hE hi5
      have hrE := rm_rw hr hE
      rw [e136_103]
      simp (disch := omega) only [nI_add, pk_mul, nI_clamp, nI_leI, nI_ltI, nI_eq, inb_, iz1_, iz2_, iz3_, iz4_, iz5_, reduceIte, if_pos, if_neg, op_os, op_vIs, op_vLs, op_vRs, op_vNs, dI_at, dL_at, dI_2, dL_1, Nat.reduceEqDiff, Nat.reduceAdd, Nat.reduceMul, false_and, and_false, true_and, and_true, ne_eq, not_true_eq_false, not_false_eq_true, b2_z, b2_o, b2_n, b2_01, nar_b, nar_0, nar_1, Bool.false_eq_true, Bool.true_eq_false, hrE.1, Nat.le_refl]) (by
      intro i E n hE hrs h1 h2
      have hrE := rm_rw hr hE
      rw [e136_58]
      simp (disch := omega) only [nI_add, pk_mul, nI_clamp, nI_leI, nI_ltI, nI_eq, inb_, iz1_, iz2_, iz3_, iz4_, iz5_, reduceIte, if_pos, if_neg, op_os, op_vIs, op_vLs, op_vRs, op_vNs, dI_at, dL_at, dI_2, dL_1, Nat.reduceEqDiff, Nat.reduceAdd, Nat.reduceMul, false_and, and_false, true_and, and_true, ne_eq, not_true_eq_false, not_false_eq_true, b2_z, b2_o, b2_n, b2_01, nar_b, nar_0, nar_1, Bool.false_eq_true, Bool.true_eq_false, hrs.1, hrE.1]) b2 (rw_t r0 b3)
  refine ⟨D', ?_, c2, c3⟩
  rw [e136_0, hE0, ends, e136_10]
  simp (disch := omega) only [nI_add, pk_mul, nI_clamp, nI_leI, nI_ltI, nI_eq, inb_, iz1_, iz2_, iz3_, iz4_, iz5_, reduceIte, if_pos, if_neg, op_os, op_vIs, op_vLs, op_vRs, op_vNs, dI_at, dL_at, dI_2, dL_1, Nat.reduceEqDiff, Nat.reduceAdd, Nat.reduceMul, false_and, and_false, true_and, and_true, ne_eq, not_true_eq_false, not_false_eq_true, b2_z, b2_o, b2_n, b2_01, nar_b, nar_0, nar_1, Bool.false_eq_true, Bool.true_eq_false, hr0.2.1, Nat.le_refl, b1']
  exact c1
/-- behind -/
theorem x142 {m n : Nat} (hm : m < 110) (hn : n < 110) (hrA : rm_ D m A) (hrB : rm_ D n B) (wA : wm_ A) (wB : wm_ B) (nA : A.2.1 ≤ 60) (nB : B.2.1 ≤ 60) (hkk : A.1 = B.1) : ∃ D', k142_0 w (d + 4) (nI m) (nI n) D = some (some (.int (b2_ (decide ((thm_ A B).2.1 ≤ 500)))), D') ∧ rw_ D D' ∧ ((thm_ A B).2.1 ≤ 500 → bg_ D' (thm_ A B)) := by
  have hk := wA.1
  have hs := wA.2.2.1
  have hsB := wB.2.2.1
  have hwA : A.2.1 ≤ 60 ∧ A.1 ≤ 4 := ⟨nA, hk.2⟩
  have hdm := gth_d wA wB nA nB hkk
  have hd0 : dm_ (xth_ A B) := ⟨by show A.2.2.1 < 60; omega, ite_lt (by omega)⟩
  generalize hE0 : dI_ D 351 31 (nI 0) = E0
  have r0 : rw_ D E0 := by
    rw [← hE0]
    exact rw_1 (rw_r D) (Or.inl ⟨rfl, by unfold wf8_; omega⟩)
  have hrA0 := rm_rw hrA r0
  have hrB0 := rm_rw hrB r0
  obtain ⟨E1, b1, b2, b3⟩ := x135z (w := w) (d := d + 2) (D := E0) (kf_0 (gth_ A B) (A.1) (xth_ A B) (N := n50_)) hd0 (by rw [← hE0]; simp (disch := omega) only [nI_add, pk_mul, nI_clamp, nI_leI, nI_ltI, nI_eq, inb_, iz1_, iz2_, iz3_, iz4_, iz5_, reduceIte, if_pos, if_neg, op_os, op_vIs, op_vLs, op_vRs, op_vNs, dI_at, dL_at, dI_2, dL_1, Nat.reduceEqDiff, Nat.reduceAdd, Nat.reduceMul, false_and, and_false, true_and, and_true, ne_eq, not_true_eq_false, not_false_eq_true, b2_z, b2_o, b2_n, b2_01, nar_b, nar_0, nar_1, Bool.false_eq_true, Bool.true_eq_false])
  have b1' : k135_0 w (d + 3) (nI (A.2.2.1)) (lN (if A.2.2.2.2 (A.2.2.1) then 2 ^ B.2.2.1 else 0)) E0 = some (some (.int (nI 0)), E1) := b1
  obtain ⟨D', c1, c2, c3⟩ := y76 (w := w) (d := d + 2) (D := D) (g := gth_ A B) (k := A.1) (x0 := xth_ A B) (ai := aci_ 4 (ese_ B) (kf_ (gth_ A B) (A.1) (xth_ A B) n50_)) (fun i E => k142_44 w (d + 4) (nI m) (nI n) (nI i) E) (fun i l E => k142_72 w (d + 4) (nI m) (nI n) (nI i) (nI l) E) hk (fun x hx => ⟨by have := (hdm x hx).1; omega, (hdm x hx).2⟩) (fun x l hx hl => ⟨by have := wA.2.2.2 _ l (hdm x hx).1 hl; show A.2.2.2.1 x.1 l < 60; omega, or_lt60 (lon_lt wB nB (by omega)) (ite_lt (by omega))⟩) (by
      intro i E nn hE hrs hi hn5 hi'
      have hrE := rm_rw hrB hE
      rw [e142_44]
      unfold aci_
      have hap := hac_t (M := B) (S := (kf_ (gth_ A B) (A.1) (xth_ A B) n50_ i).2)
      cases hb : hac_ B (kf_ (gth_ A B) (A.1) (xth_ A B) n50_ i).2 with
      | true =>
        rw [hb] at hap
        rw [decide_eq_false (fun y => absurd (hap.mp y) (by decide))]
        simp (disch := omega) only [nI_add, pk_mul, nI_clamp, nI_leI, nI_ltI, nI_eq, inb_, iz1_, iz2_, iz3_, iz4_, iz5_, reduceIte, if_pos, if_neg, op_os, op_vIs, op_vLs, op_vRs, op_vNs, dI_at, dL_at, dI_2, dL_1, Nat.reduceEqDiff, Nat.reduceAdd, Nat.reduceMul, false_and, and_false, true_and, and_true, ne_eq, not_true_eq_false, not_false_eq_true, b2_z, b2_o, b2_n, b2_01, nar_b, nar_0, nar_1, Bool.false_eq_true, Bool.true_eq_false, hrs.1, (hrs.2 i hi).1, x141 hn hrE wB nB, hb]
        rfl
      | false =>
        rw [hb] at hap
        rw [decide_eq_true (hap.mpr rfl)]
        simp (disch := omega) only [nI_add, pk_mul, nI_clamp, nI_leI, nI_ltI, nI_eq, inb_, iz1_, iz2_, iz3_, iz4_, iz5_, reduceIte, if_pos, if_neg, op_os, op_vIs, op_vLs, op_vRs, op_vNs, dI_at, dL_at, dI_2, dL_1, Nat.reduceEqDiff, Nat.reduceAdd, Nat.reduceMul, false_and, and_false, true_and, and_true, ne_eq, not_true_eq_false, not_false_eq_true, b2_z, b2_o, b2_n, b2_01, nar_b, nar_0, nar_1, Bool.false_eq_true, Bool.true_eq_false, hrs.1, (hrs.2 i hi).1, x141 hn hrE wB nB, hb]
        rfl) (by
      intro i l E nn hE hrs hi hn5 hi' hl
      have hrEA := rm_rw hrA hE
      have hrEB := rm_rw hrB hE
      have hx1 : (kf_ (gth_ A B) (A.1) (xth_ A B) n50_ i).1 < A.2.1 := (hdm _ (List.mem_of_getElem? (kf_get _ _ _ hi'))).1
      have hnx := wA.2.2.2 _ l hx1 hl
      rw [e142_72]
      show _ = op_o (k135_0 w (d + 3) (nI (A.2.2.2.1 (kf_ (gth_ A B) (A.1) (xth_ A B) n50_ i).1 l)) (lN (lon_ B (kf_ (gth_ A B) (A.1) (xth_ A B) n50_ i).2 l ||| (if A.2.2.2.2 (A.2.2.2.1 (kf_ (gth_ A B) (A.1) (xth_ A B) n50_ i).1 l) then 2 ^ B.2.2.1 else 0))) E) none _
      cases hac : A.2.2.2.2 (A.2.2.2.1 (kf_ (gth_ A B) (A.1) (xth_ A B) n50_ i).1 l) with
      | true =>
        simp (disch := omega) only [nI_add, pk_mul, nI_clamp, nI_leI, nI_ltI, nI_eq, inb_, iz1_, iz2_, iz3_, iz4_, iz5_, reduceIte, if_pos, if_neg, op_os, op_vIs, op_vLs, op_vRs, op_vNs, dI_at, dL_at, dI_2, dL_1, Nat.reduceEqDiff, Nat.reduceAdd, Nat.reduceMul, false_and, and_false, true_and, and_true, ne_eq, not_true_eq_false, not_false_eq_true, b2_z, b2_o, b2_n, b2_01, nar_b, nar_0, nar_1, Bool.false_eq_true, Bool.true_eq_false, hrEA.1, (hrs.2 i hi).2, x112 hm hwA hrEA hx1 hl, (hrs.2 i hi).1, x140 hn hrEB wB nB (show l < B.1 by omega), x113 hm hwA hrEA hnx, hac, hrEB.2.2.1, sb1, lN_or, e142_142]
      | false =>
        simp (disch := omega) only [nI_add, pk_mul, nI_clamp, nI_leI, nI_ltI, nI_eq, inb_, iz1_, iz2_, iz3_, iz4_, iz5_, reduceIte, if_pos, if_neg, op_os, op_vIs, op_vLs, op_vRs, op_vNs, dI_at, dL_at, dI_2, dL_1, Nat.reduceEqDiff, Nat.reduceAdd, Nat.reduceMul, false_and, and_false, true_and, and_true, ne_eq, not_true_eq_false, not_false_eq_true, b2_z, b2_o, b2_n, b2_01, nar_b, nar_0, nar_1, Bool.false_eq_true, Bool.true_eq_false, hrEA.1, (hrs.2 i hi).2, x112 hm hwA hrEA hx1 hl, (hrs.2 i hi).1, x140 hn hrEB wB nB (show l < B.1 by omega), x113 hm hwA hrEA hnx, hac, e142_142]
        rw [Nat.or_zero]) (by
      intro i E hE hi5
      have hrE := rm_rw hrA hE
      rw [e142_72]
      simp (disch := omega) only [nI_add, pk_mul, nI_clamp, nI_leI, nI_ltI, nI_eq, inb_, iz1_, iz2_, iz3_, iz4_, iz5_, reduceIte, if_pos, if_neg, op_os, op_vIs, op_vLs, op_vRs, op_vNs, dI_at, dL_at, dI_2, dL_1, Nat.reduceEqDiff, Nat.reduceAdd, Nat.reduceMul, false_and, and_false, true_and, and_true, ne_eq, not_true_eq_false, not_false_eq_true, b2_z, b2_o, b2_n, b2_01, nar_b, nar_0, nar_1, Bool.false_eq_true, Bool.true_eq_false, hrE.1, Nat.le_refl]) (by
      intro i E nn hE hrs h1 h2
      have hrE := rm_rw hrA hE
      rw [e142_44]
      simp (disch := omega) only [nI_add, pk_mul, nI_clamp, nI_leI, nI_ltI, nI_eq, inb_, iz1_, iz2_, iz3_, iz4_, iz5_, reduceIte, if_pos, if_neg, op_os, op_vIs, op_vLs, op_vRs, op_vNs, dI_at, dL_at, dI_2, dL_1, Nat.reduceEqDiff, Nat.reduceAdd, Nat.reduceMul, false_and, and_false, true_and, and_true, ne_eq, not_true_eq_false, not_false_eq_true, b2_z, b2_o, b2_n, b2_01, nar_b, nar_0, nar_1, Bool.false_eq_true, Bool.true_eq_false, hrs.1, hrE.1]) b2 (rw_t r0 b3)
  refine ⟨D', ?_, c2, c3⟩
  rw [e142_0, hE0]
  cases hac : A.2.2.2.2 (A.2.2.1) with
  | true =>
    rw [hac, if_pos rfl] at b1'
    simp (disch := omega) only [nI_add, pk_mul, nI_clamp, nI_leI, nI_ltI, nI_eq, inb_, iz1_, iz2_, iz3_, iz4_, iz5_, reduceIte, if_pos, if_neg, op_os, op_vIs, op_vLs, op_vRs, op_vNs, dI_at, dL_at, dI_2, dL_1, Nat.reduceEqDiff, Nat.reduceAdd, Nat.reduceMul, false_and, and_false, true_and, and_true, ne_eq, not_true_eq_false, not_false_eq_true, b2_z, b2_o, b2_n, b2_01, nar_b, nar_0, nar_1, Bool.false_eq_true, Bool.true_eq_false, hrA0.2.2.1, x113 hm hwA hrA0 hs, hac, hrB0.2.2.1, sb1, e142_38, b1']
    exact c1
  | false =>
    rw [hac, if_neg (by decide)] at b1'
    simp (disch := omega) only [nI_add, pk_mul, nI_clamp, nI_leI, nI_ltI, nI_eq, inb_, iz1_, iz2_, iz3_, iz4_, iz5_, reduceIte, if_pos, if_neg, op_os, op_vIs, op_vLs, op_vRs, op_vNs, dI_at, dL_at, dI_2, dL_1, Nat.reduceEqDiff, Nat.reduceAdd, Nat.reduceMul, false_and, and_false, true_and, and_true, ne_eq, not_true_eq_false, not_false_eq_true, b2_z, b2_o, b2_n, b2_01, nar_b, nar_0, nar_1, Bool.false_eq_true, Bool.true_eq_false, hrA0.2.2.1, x113 hm hwA hrA0 hs, hac, e142_38, b1']
    exact c1
/-- often -/
theorem x143 {m : Nat} (hm : m < 110) (hrA : rm_ D m A) (wA : wm_ A) (nA : A.2.1 ≤ 60) : ∃ D', k143_0 w (d + 4) (nI m) D = some (some (.int (b2_ (decide ((agm_ A).2.1 ≤ 500)))), D') ∧ rw_ D D' ∧ ((agm_ A).2.1 ≤ 500 → bg_ D' (agm_ A)) := by
  have hk := wA.1
  have hs := wA.2.2.1
  have hwA : A.2.1 ≤ 60 ∧ A.1 ≤ 4 := ⟨nA, hk.2⟩
  have hd0 : dm_ xar_ := ⟨by show 1 < 60; omega, by show 0 < 2 ^ 60; decide⟩
  have hdg : ∀ x l, dm_ x → l < A.1 → dm_ (gar_ A x l) := fun x l _ hl => ⟨by show 0 < 60; omega, agn_lt wA nA (by
    have := wA.2.2.2 _ l hs hl
    by_cases z : x.1 = 1
    · rw [if_pos z]; exact pw_lt (by omega)
    · rw [if_neg z]; exact lon_lt wA nA hl)⟩
  have hdom := kq_dom (gar_ A) (A.1) xar_ hd0 hdg n50_
  have hz : ∀ i, i < (kq_ (gar_ A) (A.1) xar_ n50_).length → ((kf_ (gar_ A) (A.1) xar_ n50_ i).1 = 1 ↔ i = 0) := by
    intro i hi
    have hP := kf_dom (gar_ A) (A.1) xar_ (P := fun x => x = xar_ ∨ x.1 = 0) (Or.inl rfl) (fun x l _ _ => Or.inr rfl) hi
    constructor
    · intro h
      rcases hP with y | y
      · refine kf_inj (gar_ A) (A.1) xar_ hi (kq_1 _ _ _ _) ?_
        rw [y, kf_0]
      · omega
    · rintro rfl
      rw [kf_0]
      rfl
  generalize hE0 : dI_ D 351 31 (nI 0) = E0
  have r0 : rw_ D E0 := by
    rw [← hE0]
    exact rw_1 (rw_r D) (Or.inl ⟨rfl, by unfold wf8_; omega⟩)
  obtain ⟨E1, b1, b2, b3⟩ := x135z (w := w) (d := d + 2) (D := E0) (kf_0 (gar_ A) (A.1) xar_ (N := n50_)) hd0 (by rw [← hE0]; simp (disch := omega) only [nI_add, pk_mul, nI_clamp, nI_leI, nI_ltI, nI_eq, inb_, iz1_, iz2_, iz3_, iz4_, iz5_, reduceIte, if_pos, if_neg, op_os, op_vIs, op_vLs, op_vRs, op_vNs, dI_at, dL_at, dI_2, dL_1, Nat.reduceEqDiff, Nat.reduceAdd, Nat.reduceMul, false_and, and_false, true_and, and_true, ne_eq, not_true_eq_false, not_false_eq_true, b2_z, b2_o, b2_n, b2_01, nar_b, nar_0, nar_1, Bool.false_eq_true, Bool.true_eq_false])
  have b1' : k135_0 w (d + 3) (nI 1) (lN 0) E0 = some (some (.int (nI 0)), E1) := b1
  obtain ⟨D', c1, c2, c3⟩ := y76 (w := w) (d := d + 2) (D := D) (g := gar_ A) (k := A.1) (x0 := xar_) (ai := fun i => decide (i = 0) || hac_ A (kf_ (gar_ A) (A.1) xar_ n50_ i).2) (fun i E => k143_14 w (d + 4) (nI m) (nI i) E) (fun i l E => k143_53 w (d + 4) (nI m) (nI i) (nI l) E) hk hdom (fun x l hx hl => hdg x l (hdom x hx) hl) (by
      intro i E nn hE hrs hi hn5 hi'
      have hrE := rm_rw hrA hE
      rw [e143_14]
      by_cases z : i = 0
      · rw [decide_eq_true z, Bool.true_or]
        simp (disch := omega) only [nI_add, pk_mul, nI_clamp, nI_leI, nI_ltI, nI_eq, inb_, iz1_, iz2_, iz3_, iz4_, iz5_, reduceIte, if_pos, if_neg, op_os, op_vIs, op_vLs, op_vRs, op_vNs, dI_at, dL_at, dI_2, dL_1, Nat.reduceEqDiff, Nat.reduceAdd, Nat.reduceMul, false_and, and_false, true_and, and_true, ne_eq, not_true_eq_false, not_false_eq_true, b2_z, b2_o, b2_n, b2_01, nar_b, nar_0, nar_1, Bool.false_eq_true, Bool.true_eq_false, hrs.1, z, e143_45, e143_50, sf_359]
      · rw [decide_eq_false z, Bool.false_or]
        cases hb : hac_ A (kf_ (gar_ A) (A.1) xar_ n50_ i).2 with
        | true => simp (disch := omega) only [nI_add, pk_mul, nI_clamp, nI_leI, nI_ltI, nI_eq, inb_, iz1_, iz2_, iz3_, iz4_, iz5_, reduceIte, if_pos, if_neg, op_os, op_vIs, op_vLs, op_vRs, op_vNs, dI_at, dL_at, dI_2, dL_1, Nat.reduceEqDiff, Nat.reduceAdd, Nat.reduceMul, false_and, and_false, true_and, and_true, ne_eq, not_true_eq_false, not_false_eq_true, b2_z, b2_o, b2_n, b2_01, nar_b, nar_0, nar_1, Bool.false_eq_true, Bool.true_eq_false, hrs.1, (hrs.2 i hi).1, x141 hm hrE wA nA, hb, e143_45, e143_50, sf_359]
        | false => simp (disch := omega) only [nI_add, pk_mul, nI_clamp, nI_leI, nI_ltI, nI_eq, inb_, iz1_, iz2_, iz3_, iz4_, iz5_, reduceIte, if_pos, if_neg, op_os, op_vIs, op_vLs, op_vRs, op_vNs, dI_at, dL_at, dI_2, dL_1, Nat.reduceEqDiff, Nat.reduceAdd, Nat.reduceMul, false_and, and_false, true_and, and_true, ne_eq, not_true_eq_false, not_false_eq_true, b2_z, b2_o, b2_n, b2_01, nar_b, nar_0, nar_1, Bool.false_eq_true, Bool.true_eq_false, hrs.1, (hrs.2 i hi).1, x141 hm hrE wA nA, hb, e143_50, sf_359]) (by
      intro i l E nn hE hrs hi hn5 hi' hl
      have hrE := rm_rw hrA hE
      have hnx := wA.2.2.2 _ l hs hl
      have hzi := hz i hi'
      generalize hS : (if (kf_ (gar_ A) (A.1) xar_ n50_ i).1 = 1 then 2 ^ A.2.2.2.1 (A.2.2.1) l else lon_ A (kf_ (gar_ A) (A.1) xar_ n50_ i).2 l) = S
      have hg : (gar_ A (kf_ (gar_ A) (A.1) xar_ n50_ i) l) = (0, agn_ A S) := by
        rw [← hS]
        rfl
      rw [hg]
      have st : k143_53 w (d + 4) (nI m) (nI i) (nI l) E = k143_96 w (d + 4) (nI m) (nI i) (nI l) (lN S) E := by
        rw [e143_53]
        by_cases z : i = 0
        · rw [if_pos (hzi.mpr z)] at hS
          rw [← hS]
          simp (disch := omega) only [nI_add, pk_mul, nI_clamp, nI_leI, nI_ltI, nI_eq, inb_, iz1_, iz2_, iz3_, iz4_, iz5_, reduceIte, if_pos, if_neg, op_os, op_vIs, op_vLs, op_vRs, op_vNs, dI_at, dL_at, dI_2, dL_1, Nat.reduceEqDiff, Nat.reduceAdd, Nat.reduceMul, false_and, and_false, true_and, and_true, ne_eq, not_true_eq_false, not_false_eq_true, b2_z, b2_o, b2_n, b2_01, nar_b, nar_0, nar_1, Bool.false_eq_true, Bool.true_eq_false, hrE.1, z, hrE.2.2.1, x112 hm hwA hrE hs hl, sb1]
        · rw [if_neg (fun y => z (hzi.mp y))] at hS
          rw [← hS]
          simp (disch := omega) only [nI_add, pk_mul, nI_clamp, nI_leI, nI_ltI, nI_eq, inb_, iz1_, iz2_, iz3_, iz4_, iz5_, reduceIte, if_pos, if_neg, op_os, op_vIs, op_vLs, op_vRs, op_vNs, dI_at, dL_at, dI_2, dL_1, Nat.reduceEqDiff, Nat.reduceAdd, Nat.reduceMul, false_and, and_false, true_and, and_true, ne_eq, not_true_eq_false, not_false_eq_true, b2_z, b2_o, b2_n, b2_01, nar_b, nar_0, nar_1, Bool.false_eq_true, Bool.true_eq_false, hrE.1, (hrs.2 i hi).1, x140 hm hrE wA nA hl]
      rw [st, e143_96]
      show _ = op_o (k135_0 w (d + 3) (nI 0) (lN (if hac_ A S then S ||| 2 ^ A.2.2.1 else S)) E) none _
      cases hac : hac_ A S with
      | true => simp (disch := omega) only [nI_add, pk_mul, nI_clamp, nI_leI, nI_ltI, nI_eq, inb_, iz1_, iz2_, iz3_, iz4_, iz5_, reduceIte, if_pos, if_neg, op_os, op_vIs, op_vLs, op_vRs, op_vNs, dI_at, dL_at, dI_2, dL_1, Nat.reduceEqDiff, Nat.reduceAdd, Nat.reduceMul, false_and, and_false, true_and, and_true, ne_eq, not_true_eq_false, not_false_eq_true, b2_z, b2_o, b2_n, b2_01, nar_b, nar_0, nar_1, Bool.false_eq_true, Bool.true_eq_false, x141 hm hrE wA nA, hac, hrE.2.2.1, sb1, lN_or, e143_126]
      | false => simp (disch := omega) only [nI_add, pk_mul, nI_clamp, nI_leI, nI_ltI, nI_eq, inb_, iz1_, iz2_, iz3_, iz4_, iz5_, reduceIte, if_pos, if_neg, op_os, op_vIs, op_vLs, op_vRs, op_vNs, dI_at, dL_at, dI_2, dL_1, Nat.reduceEqDiff, Nat.reduceAdd, Nat.reduceMul, false_and, and_false, true_and, and_true, ne_eq, not_true_eq_false, not_false_eq_true, b2_z, b2_o, b2_n, b2_01, nar_b, nar_0, nar_1, Bool.false_eq_true, Bool.true_eq_false, x141 hm hrE wA nA, hac, e143_126]) (by
      intro i E hE hi5
      have hrE := rm_rw hrA hE
      rw [e143_53]
      simp (disch := omega) only [nI_add, pk_mul, nI_clamp, nI_leI, nI_ltI, nI_eq, inb_, iz1_, iz2_, iz3_, iz4_, iz5_, reduceIte, if_pos, if_neg, op_os, op_vIs, op_vLs, op_vRs, op_vNs, dI_at, dL_at, dI_2, dL_1, Nat.reduceEqDiff, Nat.reduceAdd, Nat.reduceMul, false_and, and_false, true_and, and_true, ne_eq, not_true_eq_false, not_false_eq_true, b2_z, b2_o, b2_n, b2_01, nar_b, nar_0, nar_1, Bool.false_eq_true, Bool.true_eq_false, hrE.1, Nat.le_refl]) (by
      intro i E nn hE hrs h1 h2
      have hrE := rm_rw hrA hE
      rw [e143_14]
      simp (disch := omega) only [nI_add, pk_mul, nI_clamp, nI_leI, nI_ltI, nI_eq, inb_, iz1_, iz2_, iz3_, iz4_, iz5_, reduceIte, if_pos, if_neg, op_os, op_vIs, op_vLs, op_vRs, op_vNs, dI_at, dL_at, dI_2, dL_1, Nat.reduceEqDiff, Nat.reduceAdd, Nat.reduceMul, false_and, and_false, true_and, and_true, ne_eq, not_true_eq_false, not_false_eq_true, b2_z, b2_o, b2_n, b2_01, nar_b, nar_0, nar_1, Bool.false_eq_true, Bool.true_eq_false, hrs.1, hrE.1]) b2 (rw_t r0 b3)
  have hlen := arm_len wA nA
  rw [hlen] at c1 c3
  refine ⟨D', ?_, c2, fun hc => bg_em (c3 hc) (arm_em wA nA hc)⟩
  rw [e143_0, hE0]
  simp (disch := omega) only [nI_add, pk_mul, nI_clamp, nI_leI, nI_ltI, nI_eq, inb_, iz1_, iz2_, iz3_, iz4_, iz5_, reduceIte, if_pos, if_neg, op_os, op_vIs, op_vLs, op_vRs, op_vNs, dI_at, dL_at, dI_2, dL_1, Nat.reduceEqDiff, Nat.reduceAdd, Nat.reduceMul, false_and, and_false, true_and, and_true, ne_eq, not_true_eq_false, not_false_eq_true, b2_z, b2_o, b2_n, b2_01, nar_b, nar_0, nar_1, Bool.false_eq_true, Bool.true_eq_false, b1']
  exact c1
end REFT
