/-! the reference's pairs -/
section PAIRS
variable {w : (Nat → Int32) × Nat} {d : Nat} {D : dy_} {S : sp_} {A B : ma_}
theorem dp_inj60 (nB : B.2.1 ≤ 60) (x y : Nat × Nat) (hx : dp_ A B x) (hy : dp_ A B y) (e : (fun x : Nat × Nat => 60 * x.1 + x.2) x = (fun x : Nat × Nat => 60 * x.1 + x.2) y) : x = y := by
  unfold dp_ at hx hy
  have e' : 60 * x.1 + x.2 = 60 * y.1 + y.2 := e
  exact Prod.ext (by omega) (by omega)
theorem x139 {h m n : Nat} (hh : h < 4) (hm : m < 110) (hn : n < 110) (hrA : rm_ D m A) (hrB : rm_ D n B) (wA : wm_ A) (wB : wm_ B) (nA : A.2.1 ≤ 60) (nB : B.2.1 ≤ 60) (hkk : A.1 = B.1) : ∃ D', k139_0 w (d + 2) (nI h) (nI m) (nI n) D = some (none, D') ∧ bg_ D' (bm_ A B h (A.2.2.1, B.2.2.1)) ∧ rw_ D D' := by
  have hkA := wA.1
  have h36 := n36_e
  have hkm : km_ A B = A.1 := by
    show min _ _ = _
    omega
  have hkl : A.1 ≤ A.1 ∧ A.1 ≤ B.1 := ⟨Nat.le_refl _, by omega⟩
  have hp0 : dp_ A B (A.2.2.1, B.2.2.1) := ⟨wA.2.2.1, wB.2.2.1⟩
  have hp0' : A.2.2.1 < A.2.1 ∧ B.2.2.1 < B.2.1 := hp0
  have hlen := gp_len wA wB hkl nA nB hp0
  have hc : (kq_ (gp_ A B) (A.1) (A.2.2.1, B.2.2.1) n36_).length ≤ n36_ := by
    have := hlen n36_
    omega
  have hwA : A.2.1 ≤ 60 ∧ A.1 ≤ 4 := ⟨nA, hkA.2⟩
  have hwB : B.2.1 ≤ 60 ∧ B.1 ≤ 4 := ⟨nB, by omega⟩
  rw [e139_0]
  obtain ⟨D1, a1, a2, a3⟩ := lp_ (fun i (E : dy_) => k139_3 w (d + 2) (nI h) (nI m) (nI n) (nI i) E) (fun i E => (∀ p, p < i → E.1 375 p = -1) ∧ rw_ D E) 3600 (s := D) (by
    rintro i E hi ⟨t1, t2⟩
    refine ⟨dI_ E 375 i (-1), ?_, fun p hp => ?_, rw_1 t2 (by omega)⟩
    · show k139_3 w (d + 2) (nI h) (nI m) (nI n) (nI i) E = _
      rw [e139_3]
      simp (disch := omega) only [nI_add, pk_mul, nI_clamp, nI_leI, nI_ltI, nI_eq, inb_, iz1_, iz2_, iz3_, iz4_, iz5_, reduceIte, if_pos, if_neg, op_os, op_vIs, op_vLs, op_vRs, op_vNs, dI_at, dL_at, dI_2, dL_1, Nat.reduceEqDiff, Nat.reduceAdd, Nat.reduceMul, false_and, and_false, true_and, and_true, ne_eq, not_true_eq_false, not_false_eq_true, b2_z, b2_o, b2_n, b2_01, nar_b, nar_0, nar_1, Bool.false_eq_true, Bool.true_eq_false]
    · simp (disch := omega) only [nI_add, pk_mul, nI_clamp, nI_leI, nI_ltI, nI_eq, inb_, iz1_, iz2_, iz3_, iz4_, iz5_, reduceIte, op_os, op_vIs, op_vLs, op_vRs, op_vNs, dI_at, dL_at, dI_2, dL_1, Nat.reduceEqDiff, Nat.reduceAdd, Nat.reduceMul, false_and, and_false, true_and, and_true, ne_eq, not_true_eq_false, not_false_eq_true, b2_z, b2_o, b2_n, b2_01, nar_b, nar_0, nar_1, Bool.false_eq_true, Bool.true_eq_false]
      by_cases z : p = i
      · rw [if_pos z]
      · rw [if_neg z]
        exact t1 p (by omega)) ⟨fun p hp => absurd hp (by omega), rw_r D⟩
  have hrA1 := rm_rw hrA a3
  have hrB1 := rm_rw hrB a3
  let acc : Nat → Bool := fun i => hw_ h (A.2.2.2.2 (kf_ (gp_ A B) (A.1) (A.2.2.1, B.2.2.1) n36_ i).1) (B.2.2.2.2 (kf_ (gp_ A B) (A.1) (A.2.2.1, B.2.2.1) n36_ i).2)
  generalize hD2 : dI_ (dI_ (dI_ (dI_ D1 351 8 (nI (A.1))) 351 9 (nI 1)) 360 0 (nI (60 * A.2.2.1 + B.2.2.1))) 375 (60 * A.2.2.1 + B.2.2.1) (nI 0) = D2
  have r2 : rw_ D D2 := by
    rw [← hD2]
    exact rw_1 (rw_1 (rw_1 (rw_1 a3 (by unfold wf8_; omega)) (by unfold wf8_; omega)) (by omega)) (by omega)
  have q0 : bq_ (dp_ A B) (fun x => 60 * x.1 + x.2) 375 (gp_ A B) (A.1) (A.2.2.1, B.2.2.1) acc (kq_ (gp_ A B) (A.1) (A.2.2.1, B.2.2.1) 0) 0 0 0 D2 := by
    rw [← hD2]
    refine ⟨⟨by simp (disch := omega) only [nI_add, pk_mul, nI_clamp, nI_leI, nI_ltI, nI_eq, inb_, iz1_, iz2_, iz3_, iz4_, iz5_, reduceIte, if_pos, if_neg, op_os, op_vIs, op_vLs, op_vRs, op_vNs, dI_at, dL_at, dI_2, dL_1, Nat.reduceEqDiff, Nat.reduceAdd, Nat.reduceMul, false_and, and_false, true_and, and_true, ne_eq, not_true_eq_false, not_false_eq_true, b2_z, b2_o, b2_n, b2_01, nar_b, nar_0, nar_1, Bool.false_eq_true, Bool.true_eq_false], by simp (disch := omega) only [nI_add, pk_mul, nI_clamp, nI_leI, nI_ltI, nI_eq, inb_, iz1_, iz2_, iz3_, iz4_, iz5_, reduceIte, if_pos, if_neg, op_os, op_vIs, op_vLs, op_vRs, op_vNs, dI_at, dL_at, dI_2, dL_1, Nat.reduceEqDiff, Nat.reduceAdd, Nat.reduceMul, false_and, and_false, true_and, and_true, ne_eq, not_true_eq_false, not_false_eq_true, b2_z, b2_o, b2_n, b2_01, nar_b, nar_0, nar_1, Bool.false_eq_true, Bool.true_eq_false]; rfl⟩, ?_, ?_, fun i' l' h1 h2 => absurd h2 (by unfold bef_; omega), fun i' hi' => absurd hi' (by omega)⟩
    · exact nb_new (f := D1.1 375) (K := []) (dp_inj60 nB) (fun x hx => by
        rw [if_neg List.not_mem_nil]
        unfold dp_ at hx
        exact a2 _ (by show 60 * x.1 + x.2 < 3600; omega)) hp0 List.not_mem_nil (by simp (disch := omega) only [nI_add, pk_mul, nI_clamp, nI_leI, nI_ltI, nI_eq, inb_, iz1_, iz2_, iz3_, iz4_, iz5_, reduceIte, if_pos, if_neg, op_os, op_vIs, op_vLs, op_vRs, op_vNs, dI_at, dL_at, dI_2, dL_1, Nat.reduceEqDiff, Nat.reduceAdd, Nat.reduceMul, false_and, and_false, true_and, and_true, ne_eq, not_true_eq_false, not_false_eq_true, b2_z, b2_o, b2_n, b2_01, nar_b, nar_0, nar_1, Bool.false_eq_true, Bool.true_eq_false]; rfl) (fun j hj => by
        have hj' : j ≠ 60 * A.2.2.1 + B.2.2.1 := hj
        simp (disch := omega) only [nI_add, pk_mul, nI_clamp, nI_leI, nI_ltI, nI_eq, inb_, iz1_, iz2_, iz3_, iz4_, iz5_, reduceIte, if_pos, if_neg, op_os, op_vIs, op_vLs, op_vRs, op_vNs, dI_at, dL_at, dI_2, dL_1, Nat.reduceEqDiff, Nat.reduceAdd, Nat.reduceMul, false_and, and_false, true_and, and_true, ne_eq, not_true_eq_false, not_false_eq_true, b2_z, b2_o, b2_n, b2_01, nar_b, nar_0, nar_1, Bool.false_eq_true, Bool.true_eq_false])
    · exact ky_new (f := D1.1 360) (K := []) (fun j x hj => by cases hj) (by show _ = nI (60 * A.2.2.1 + B.2.2.1); simp (disch := omega) only [nI_add, pk_mul, nI_clamp, nI_leI, nI_ltI, nI_eq, inb_, iz1_, iz2_, iz3_, iz4_, iz5_, reduceIte, if_pos, if_neg, op_os, op_vIs, op_vLs, op_vRs, op_vNs, dI_at, dL_at, dI_2, dL_1, Nat.reduceEqDiff, Nat.reduceAdd, Nat.reduceMul, false_and, and_false, true_and, and_true, ne_eq, not_true_eq_false, not_false_eq_true, b2_z, b2_o, b2_n, b2_01, nar_b, nar_0, nar_1, Bool.false_eq_true, Bool.true_eq_false]; rfl) (fun j hj => absurd hj (Nat.not_lt_zero j))
  obtain ⟨D', e1, e2, e3⟩ := lp_ (fun i (E : dy_) => k139_77 w (d + 2) (nI h) (nI m) (nI n) (nI i) E) (fun i E => bq_ (dp_ A B) (fun x => 60 * x.1 + x.2) 375 (gp_ A B) (A.1) (A.2.2.1, B.2.2.1) acc (kq_ (gp_ A B) (A.1) (A.2.2.1, B.2.2.1) i) i 0 i E ∧ rw_ D E) (kq_ (gp_ A B) (A.1) (A.2.2.1, B.2.2.1) n36_).length (s := D2) (by
    rintro i E hi ⟨t1, t2⟩
    have hl1 := hlen n36_
    have hin := kq_in (gp_ A B) (A.1) (A.2.2.1, B.2.2.1) hc hi
    have hlin := hlen i
    have hkf := kf_at (gp_ A B) (A.1) (A.2.2.1, B.2.2.1) (N := n36_) (show i ≤ n36_ by omega) hin
    have hdk : dp_ A B (kf_ (gp_ A B) (A.1) (A.2.2.1, B.2.2.1) n36_ i) := kf_dom (gp_ A B) (A.1) (A.2.2.1, B.2.2.1) hp0 (dp_g wA wB hkl) hi
    have hd' : (kf_ (gp_ A B) (A.1) (A.2.2.1, B.2.2.1) n36_ i).1 < A.2.1 ∧ (kf_ (gp_ A B) (A.1) (A.2.2.1, B.2.2.1) n36_ i).2 < B.2.1 := hdk
    have hcode : E.1 360 i = nI (60 * (kf_ (gp_ A B) (A.1) (A.2.2.1, B.2.2.1) n36_ i).1 + (kf_ (gp_ A B) (A.1) (A.2.2.1, B.2.2.1) n36_ i).2) := t1.2.2.1 i _ hkf
    have hacc : acc i = hw_ h (A.2.2.2.2 (kf_ (gp_ A B) (A.1) (A.2.2.1, B.2.2.1) n36_ i).1) (B.2.2.2.2 (kf_ (gp_ A B) (A.1) (A.2.2.1, B.2.2.1) n36_ i).2) := rfl
    have hq1 : (60 * (kf_ (gp_ A B) (A.1) (A.2.2.1, B.2.2.1) n36_ i).1 + (kf_ (gp_ A B) (A.1) (A.2.2.1, B.2.2.1) n36_ i).2) / 60 = (kf_ (gp_ A B) (A.1) (A.2.2.1, B.2.2.1) n36_ i).1 := by omega
    have hq2 : (60 * (kf_ (gp_ A B) (A.1) (A.2.2.1, B.2.2.1) n36_ i).1 + (kf_ (gp_ A B) (A.1) (A.2.2.1, B.2.2.1) n36_ i).2) - (kf_ (gp_ A B) (A.1) (A.2.2.1, B.2.2.1) n36_ i).1 * 60 = (kf_ (gp_ A B) (A.1) (A.2.2.1, B.2.2.1) n36_ i).2 := by omega
    obtain ⟨E', f1, f2, f3⟩ := lp_ (fun l (E' : dy_) => k139_138 w (d + 2) (nI h) (nI m) (nI n) (nI i) (nI (kf_ (gp_ A B) (A.1) (A.2.2.1, B.2.2.1) n36_ i).1) (nI (kf_ (gp_ A B) (A.1) (A.2.2.1, B.2.2.1) n36_ i).2) (nI l) E') (fun l E' => bq_ (dp_ A B) (fun x => 60 * x.1 + x.2) 375 (gp_ A B) (A.1) (A.2.2.1, B.2.2.1) acc (li_ (gp_ A B) (kf_ (gp_ A B) (A.1) (A.2.2.1, B.2.2.1) n36_ i) (kq_ (gp_ A B) (A.1) (A.2.2.1, B.2.2.1) i) l) i l (i + 1) E' ∧ rw_ D E') (A.1) (s := dI_ E 359 i (b2_ (acc i))) (by
      rintro l E' hl ⟨u1, u2⟩
      have hrA' := rm_rw hrA u2
      have hrB' := rm_rw hrB u2
      have hdg := dp_g wA wB hkl _ l hdk hl
      have hdg' : A.2.2.2.1 (kf_ (gp_ A B) (A.1) (A.2.2.1, B.2.2.1) n36_ i).1 l < A.2.1 ∧ B.2.2.2.1 (kf_ (gp_ A B) (A.1) (A.2.2.1, B.2.2.1) n36_ i).2 l < B.2.1 := hdg
      show ∃ s', k139_138 w (d + 2) (nI h) (nI m) (nI n) (nI i) (nI (kf_ (gp_ A B) (A.1) (A.2.2.1, B.2.2.1) n36_ i).1) (nI (kf_ (gp_ A B) (A.1) (A.2.2.1, B.2.2.1) n36_ i).2) (nI l) E' = _ ∧ _
      rw [e139_138]
      by_cases cm : gp_ A B (kf_ (gp_ A B) (A.1) (A.2.2.1, B.2.2.1) n36_ i) l ∈ li_ (gp_ A B) (kf_ (gp_ A B) (A.1) (A.2.2.1, B.2.2.1) n36_ i) (kq_ (gp_ A B) (A.1) (A.2.2.1, B.2.2.1) i) l
      · obtain ⟨b1, b2⟩ := bq_in (Or.inr rfl) hkA.2 hc hi hl u1 hdg cm
        have b1' : E'.1 375 (60 * A.2.2.2.1 (kf_ (gp_ A B) (A.1) (A.2.2.1, B.2.2.1) n36_ i).1 l + B.2.2.2.1 (kf_ (gp_ A B) (A.1) (A.2.2.1, B.2.2.1) n36_ i).2 l) = nI (kt_ (gp_ A B) (A.1) (A.2.2.1, B.2.2.1) n36_ i l) := b1
        have hkt := kt_lt (gp_ A B) (A.1) (A.2.2.1, B.2.2.1) hc hi hl
        refine ⟨_, ?_, b2, rw_1 u2 (by omega)⟩
        simp (disch := omega) only [nI_add, pk_mul, nI_clamp, nI_leI, nI_ltI, nI_eq, inb_, iz1_, iz2_, iz3_, iz4_, iz5_, reduceIte, if_pos, if_neg, op_os, op_vIs, op_vLs, op_vRs, op_vNs, dI_at, dL_at, dI_2, dL_1, Nat.reduceEqDiff, Nat.reduceAdd, Nat.reduceMul, false_and, and_false, true_and, and_true, ne_eq, not_true_eq_false, not_false_eq_true, b2_z, b2_o, b2_n, b2_01, nar_b, nar_0, nar_1, Bool.false_eq_true, Bool.true_eq_false, u1.1.1, x112 hm hwA hrA' hd'.1 hl, x112 hn hwB hrB' hd'.2 (show l < B.1 by omega), b1', e139_214]
      · obtain ⟨b1, b3, b4, b2⟩ := bq_new (Or.inr rfl) hkA.2 hc hi hl u1 (dp_inj60 nB) hdg cm
        have b1' : E'.1 375 (60 * A.2.2.2.1 (kf_ (gp_ A B) (A.1) (A.2.2.1, B.2.2.1) n36_ i).1 l + B.2.2.2.1 (kf_ (gp_ A B) (A.1) (A.2.2.1, B.2.2.1) n36_ i).2 l) = -1 := b1
        refine ⟨_, ?_, b2, rw_1 (rw_1 (rw_1 (rw_1 u2 (by omega)) (by omega)) (by unfold wf8_; omega)) (by omega)⟩
        simp (disch := omega) only [nI_add, pk_mul, nI_clamp, nI_leI, nI_ltI, nI_eq, inb_, iz1_, iz2_, iz3_, iz4_, iz5_, reduceIte, if_pos, if_neg, op_os, op_vIs, op_vLs, op_vRs, op_vNs, dI_at, dL_at, dI_2, dL_1, Nat.reduceEqDiff, Nat.reduceAdd, Nat.reduceMul, false_and, and_false, true_and, and_true, ne_eq, not_true_eq_false, not_false_eq_true, b2_z, b2_o, b2_n, b2_01, nar_b, nar_0, nar_1, Bool.false_eq_true, Bool.true_eq_false, u1.1.1, x112 hm hwA hrA' hd'.1 hl, x112 hn hwB hrB' hd'.2 (show l < B.1 by omega), b1', b3, e139_214]
        rfl) ⟨bq_acc (Or.inr rfl) t1, rw_1 t2 (by omega)⟩
    have hst := kq_step (gp_ A B) (A.1) (A.2.2.1, B.2.2.1) (N := n36_) (by omega) hin
    refine ⟨E', ?_, by rw [hst]; exact bq_row f2, f3⟩
    show k139_77 w (d + 2) (nI h) (nI m) (nI n) (nI i) E = _
    rw [e139_77]
    simp (disch := omega) only [nI_add, pk_mul, nI_clamp, nI_leI, nI_ltI, nI_eq, inb_, iz1_, iz2_, iz3_, iz4_, iz5_, reduceIte, if_pos, if_neg, op_os, op_vIs, op_vLs, op_vRs, op_vNs, dI_at, dL_at, dI_2, dL_1, Nat.reduceEqDiff, Nat.reduceAdd, Nat.reduceMul, false_and, and_false, true_and, and_true, ne_eq, not_true_eq_false, not_false_eq_true, b2_z, b2_o, b2_n, b2_01, nar_b, nar_0, nar_1, Bool.false_eq_true, Bool.true_eq_false, t1.1.2, hcode, pk_sub, pk_div, hq1, hq2, x113 hm hwA (rm_rw hrA t2) hd'.1, x113 hn hwB (rm_rw hrB t2) hd'.2, x138 hh]
    rw [← hacc]
    refine Eq.trans (show _ = k139_138 w (d + 2) (nI h) (nI m) (nI n) (nI i) (nI (kf_ (gp_ A B) (A.1) (A.2.2.1, B.2.2.1) n36_ i).1) (nI (kf_ (gp_ A B) (A.1) (A.2.2.1, B.2.2.1) n36_ i).2) (nI (A.1)) E' from f1) ?_
    rw [e139_138]
    simp (disch := omega) only [nI_add, pk_mul, nI_clamp, nI_leI, nI_ltI, nI_eq, inb_, iz1_, iz2_, iz3_, iz4_, iz5_, reduceIte, if_pos, if_neg, op_os, op_vIs, op_vLs, op_vRs, op_vNs, dI_at, dL_at, dI_2, dL_1, Nat.reduceEqDiff, Nat.reduceAdd, Nat.reduceMul, false_and, and_false, true_and, and_true, ne_eq, not_true_eq_false, not_false_eq_true, b2_z, b2_o, b2_n, b2_01, nar_b, nar_0, nar_1, Bool.false_eq_true, Bool.true_eq_false, f2.1.1, Nat.le_refl]) ⟨q0, r2⟩
  have hl1 := hlen n36_
  have hend := kq_end (gp_ A B) (A.1) (A.2.2.1, B.2.2.1) hc
  rw [hend] at e2
  refine ⟨D', ?_, ?_, e3⟩
  · refine a1.trans ?_
    show k139_3 w (d + 2) (nI h) (nI m) (nI n) (nI 3600) D1 = _
    rw [e139_3]
    simp (disch := omega) only [nI_add, pk_mul, nI_clamp, nI_leI, nI_ltI, nI_eq, inb_, iz1_, iz2_, iz3_, iz4_, iz5_, reduceIte, if_pos, if_neg, op_os, op_vIs, op_vLs, op_vRs, op_vNs, dI_at, dL_at, dI_2, dL_1, Nat.reduceEqDiff, Nat.reduceAdd, Nat.reduceMul, false_and, and_false, true_and, and_true, ne_eq, not_true_eq_false, not_false_eq_true, b2_z, b2_o, b2_n, b2_01, nar_b, nar_0, nar_1, Bool.false_eq_true, Bool.true_eq_false, hrA1.1, hrA1.2.2.1, hrB1.2.2.1, Nat.le_refl]
    rw [hD2]
    refine e1.trans ?_
    show k139_77 w (d + 2) (nI h) (nI m) (nI n) (nI _) D' = _
    rw [e139_77]
    simp (disch := omega) only [nI_add, pk_mul, nI_clamp, nI_leI, nI_ltI, nI_eq, inb_, iz1_, iz2_, iz3_, iz4_, iz5_, reduceIte, if_pos, if_neg, op_os, op_vIs, op_vLs, op_vRs, op_vNs, dI_at, dL_at, dI_2, dL_1, Nat.reduceEqDiff, Nat.reduceAdd, Nat.reduceMul, false_and, and_false, true_and, and_true, ne_eq, not_true_eq_false, not_false_eq_true, b2_z, b2_o, b2_n, b2_01, nar_b, nar_0, nar_1, Bool.false_eq_true, Bool.true_eq_false, e2.1.2, Nat.le_refl]
  · unfold bm_ pf_
    rw [hkm]
    exact ⟨e2.1.1, e2.1.2, fun i l hi hl => e2.2.2.2.1 i l hl (Or.inl hi), e2.2.2.2.2⟩
end PAIRS
