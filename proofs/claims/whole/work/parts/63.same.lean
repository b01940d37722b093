/-! same and apart -/
def tq_ (A B : ma_) (x0 : Nat × Nat) (D : dy_) (K : List (Nat × Nat)) (E : dy_) : Prop := nb_ (dp_ A B) (fun x => 60 * x.1 + x.2) (E.1 375) K ∧ ky_ (fun x => 60 * x.1 + x.2) (E.1 360) K ∧ E.1 381 0 = -1 ∧ (∀ v, v < K.length → v ≠ 0 → E.1 381 v = nI (par_ (bm_ A B 3 x0) v).1 ∧ E.1 382 v = nI (par_ (bm_ A B 3 x0) v).2) ∧ fx_ tA_ (fun _ => False) D E
section SAME
variable {w : (Nat → Int32) × Nat} {d : Nat} {D : dy_} {A B : ma_} {S : sp_} {B0 : Nat}
theorem x166 {m n p q : Nat} (hm : m < 110) (hn : n < 110) (hrA : rm_ D m A) (hrB : rm_ D n B) (wA : wm_ A) (wB : wm_ B) (nA : A.2.1 ≤ 60) (nB : B.2.1 ≤ 60) (hkk : A.1 = B.1) (hpq : dp_ A B (p, q)) : ∃ D1 D', fx_ tA_ (fun _ => False) D D1 ∧ (frs_ ((bm_ A B 3 (p, q)).2.2.2.2) ((bm_ A B 3 (p, q)).2.1) = (bm_ A B 3 (p, q)).2.1 → k166_0 w (d + 2) (nI m) (nI p) (nI n) (nI q) D = some (some (.int (-1)), D1)) ∧ (frs_ ((bm_ A B 3 (p, q)).2.2.2.2) ((bm_ A B 3 (p, q)).2.1) < (bm_ A B 3 (p, q)).2.1 → k166_0 w (d + 2) (nI m) (nI p) (nI n) (nI q) D = some (some (.int (nI (dep_ (bm_ A B 3 (p, q)) (frs_ ((bm_ A B 3 (p, q)).2.2.2.2) ((bm_ A B 3 (p, q)).2.1))))), D') ∧ fx_ (fun b => b = 357) (fun j => j = 7) D1 D' ∧ yp_ D' (dep_ (bm_ A B 3 (p, q)) (frs_ ((bm_ A B 3 (p, q)).2.2.2.2) ((bm_ A B 3 (p, q)).2.1))) (wyt_ (bm_ A B 3 (p, q)) (frs_ ((bm_ A B 3 (p, q)).2.2.2.2) ((bm_ A B 3 (p, q)).2.1)))) := by
  have hM := bm_wm wA wB nA nB 3 hpq
  have hio := bm_io wA wB nA nB 3 hpq
  have hlen := bm_len wA wB nA nB 3 hpq
  have h36 := n36_e
  obtain ⟨f1, f2, f3⟩ := frs_0 ((bm_ A B 3 (p, q)).2.2.2.2) ((bm_ A B 3 (p, q)).2.1)
  have hdep := fun hlt => dep_le wA wB nA nB hpq hlt (f2 hlt) f3
  have hkm : km_ A B = A.1 := by
    show min _ _ = _
    omega
  have hkl : km_ A B ≤ A.1 ∧ km_ A B ≤ B.1 := km_le A B
  have hk := wA.1
  have hwA : A.2.1 ≤ 60 ∧ A.1 ≤ 4 := ⟨nA, hk.2⟩
  have hwB : B.2.1 ≤ 60 ∧ B.1 ≤ 4 := ⟨nB, by omega⟩
  have hlen2 := gp_len wA wB hkl nA nB hpq
  have hc : (kq_ (gp_ A B) (km_ A B) (p, q) n36_).length ≤ n36_ := by
    have := hlen2 n36_
    omega
  have hnG : (bm_ A B 3 (p, q)).2.1 = (kq_ (gp_ A B) (km_ A B) (p, q) n36_).length := rfl
  have hpq' : p < A.2.1 ∧ q < B.2.1 := hpq
  have hrmA : ∀ E, fx_ tA_ (fun _ => False) D E → rm_ E m A := fun E hE => rm_fx hrA hE (fun b hb => by unfold tA_; omega)
  have hrmB : ∀ E, fx_ tA_ (fun _ => False) D E → rm_ E n B := fun E hE => rm_fx hrB hE (fun b hb => by unfold tA_; omega)
  obtain ⟨D1, a1, a2, a3⟩ := lp_ (fun i (E : dy_) => k166_3 w (d + 2) (nI m) (nI p) (nI n) (nI q) (nI i) E) (fun i E => (∀ j, j < i → E.1 375 j = -1) ∧ fx_ tA_ (fun _ => False) D E) 3600 (s := D) (by
    rintro i E hi ⟨t1, t2⟩
    refine ⟨dI_ E 375 i (-1), ?_, fun j hj => ?_, fx_1 t2 (Or.inr ⟨by omega, by unfold tA_; omega⟩)⟩
    · show k166_3 w (d + 2) (nI m) (nI p) (nI n) (nI q) (nI i) E = _
      rw [e166_3]
      simp (disch := omega) only [nI_add, pk_mul, nI_clamp, nI_leI, nI_ltI, nI_eq, inb_, iz1_, iz2_, iz3_, iz4_, iz5_, reduceIte, if_pos, if_neg, op_os, op_vIs, op_vLs, op_vRs, op_vNs, dI_at, dL_at, dI_2, dL_1, Nat.reduceEqDiff, Nat.reduceAdd, Nat.reduceMul, false_and, and_false, true_and, and_true, ne_eq, not_true_eq_false, not_false_eq_true, b2_z, b2_o, b2_n, b2_01, nar_b, nar_0, nar_1, Bool.false_eq_true, Bool.true_eq_false]
    · simp (disch := omega) only [nI_add, pk_mul, nI_clamp, nI_leI, nI_ltI, nI_eq, inb_, iz1_, iz2_, iz3_, iz4_, iz5_, reduceIte, op_os, op_vIs, op_vLs, op_vRs, op_vNs, dI_at, dL_at, dI_2, dL_1, Nat.reduceEqDiff, Nat.reduceAdd, Nat.reduceMul, false_and, and_false, true_and, and_true, ne_eq, not_true_eq_false, not_false_eq_true, b2_z, b2_o, b2_n, b2_01, nar_b, nar_0, nar_1, Bool.false_eq_true, Bool.true_eq_false]
      by_cases z : j = i
      · rw [if_pos z]
      · rw [if_neg z]
        exact t1 j (by omega)) ⟨fun j hj => absurd hj (by omega), fx_r _ _ D⟩
  generalize hD2 : dI_ (dI_ (dI_ D1 360 0 (nI (60 * p + q))) 375 (60 * p + q) (nI 0)) 381 0 (-1) = D2
  have fr2 : fx_ tA_ (fun _ => False) D D2 := by
    rw [← hD2]
    refine fx_1 (fx_1 (fx_1 a3 ?_) ?_) ?_ <;> exact Or.inr ⟨by omega, by unfold tA_; omega⟩
  have q0 : tq_ A B (p, q) D (kq_ (gp_ A B) (km_ A B) (p, q) 0) D2 := by
    refine ⟨?_, ?_, ?_, fun v hv hz => absurd hv (by show ¬ v < 1; omega), fr2⟩
    · rw [← hD2]
      exact nb_new (f := D1.1 375) (K := []) (dp_inj60 nB) (fun x hx => by
        rw [if_neg List.not_mem_nil]
        unfold dp_ at hx
        exact a2 _ (by show 60 * x.1 + x.2 < 3600; omega)) hpq List.not_mem_nil (by simp (disch := omega) only [nI_add, pk_mul, nI_clamp, nI_leI, nI_ltI, nI_eq, inb_, iz1_, iz2_, iz3_, iz4_, iz5_, reduceIte, if_pos, if_neg, op_os, op_vIs, op_vLs, op_vRs, op_vNs, dI_at, dL_at, dI_2, dL_1, Nat.reduceEqDiff, Nat.reduceAdd, Nat.reduceMul, false_and, and_false, true_and, and_true, ne_eq, not_true_eq_false, not_false_eq_true, b2_z, b2_o, b2_n, b2_01, nar_b, nar_0, nar_1, Bool.false_eq_true, Bool.true_eq_false]; rfl) (fun j hj => by
        have hj' : j ≠ 60 * p + q := hj
        simp (disch := omega) only [nI_add, pk_mul, nI_clamp, nI_leI, nI_ltI, nI_eq, inb_, iz1_, iz2_, iz3_, iz4_, iz5_, reduceIte, if_pos, if_neg, op_os, op_vIs, op_vLs, op_vRs, op_vNs, dI_at, dL_at, dI_2, dL_1, Nat.reduceEqDiff, Nat.reduceAdd, Nat.reduceMul, false_and, and_false, true_and, and_true, ne_eq, not_true_eq_false, not_false_eq_true, b2_z, b2_o, b2_n, b2_01, nar_b, nar_0, nar_1, Bool.false_eq_true, Bool.true_eq_false])
    · rw [← hD2]
      exact ky_new (f := D1.1 360) (K := []) (fun j x hj => by cases hj) (by show _ = nI (60 * p + q); simp (disch := omega) only [nI_add, pk_mul, nI_clamp, nI_leI, nI_ltI, nI_eq, inb_, iz1_, iz2_, iz3_, iz4_, iz5_, reduceIte, if_pos, if_neg, op_os, op_vIs, op_vLs, op_vRs, op_vNs, dI_at, dL_at, dI_2, dL_1, Nat.reduceEqDiff, Nat.reduceAdd, Nat.reduceMul, false_and, and_false, true_and, and_true, ne_eq, not_true_eq_false, not_false_eq_true, b2_z, b2_o, b2_n, b2_01, nar_b, nar_0, nar_1, Bool.false_eq_true, Bool.true_eq_false]; rfl) (fun j hj => absurd hj (Nat.not_lt_zero j))
    · rw [← hD2]
      simp (disch := omega) only [nI_add, pk_mul, nI_clamp, nI_leI, nI_ltI, nI_eq, inb_, iz1_, iz2_, iz3_, iz4_, iz5_, reduceIte, if_pos, if_neg, op_os, op_vIs, op_vLs, op_vRs, op_vNs, dI_at, dL_at, dI_2, dL_1, Nat.reduceEqDiff, Nat.reduceAdd, Nat.reduceMul, false_and, and_false, true_and, and_true, ne_eq, not_true_eq_false, not_false_eq_true, b2_z, b2_o, b2_n, b2_01, nar_b, nar_0, nar_1, Bool.false_eq_true, Bool.true_eq_false]
  generalize hv : frs_ ((bm_ A B 3 (p, q)).2.2.2.2) ((bm_ A B 3 (p, q)).2.1) = v at *
  -- what is done with number i before its letters
  have head : ∀ i (E : dy_), i < (bm_ A B 3 (p, q)).2.1 → tq_ A B (p, q) D (kq_ (gp_ A B) (km_ A B) (p, q) i) E → E.1 360 i = nI (60 * (pf_ A B (p, q) i).1 + (pf_ A B (p, q) i).2) ∧ dp_ A B (pf_ A B (p, q) i) ∧ i < (kq_ (gp_ A B) (km_ A B) (p, q) i).length ∧ (kq_ (gp_ A B) (km_ A B) (p, q) i).length ≤ 3600 := fun i E hi hq => by
    have hi' : i < (kq_ (gp_ A B) (km_ A B) (p, q) n36_).length := hi
    have hin := kq_in (gp_ A B) (km_ A B) (p, q) hc hi'
    exact ⟨hq.2.1 i _ (kf_at (gp_ A B) (km_ A B) (p, q) (N := n36_) (by omega) hin), kf_dom (gp_ A B) (km_ A B) (p, q) hpq (dp_g wA wB hkl) hi', hin, hlen2 i⟩
  have hacG : ∀ i, (bm_ A B 3 (p, q)).2.2.2.2 i = (A.2.2.2.2 (pf_ A B (p, q) i).1 != B.2.2.2.2 (pf_ A B (p, q) i).2) := fun i => rfl
  obtain ⟨⟨seen, D3⟩, e1, e2, e3⟩ := lp_ (fun i (s : Nat × dy_) => k166_63 w (d + 2) (nI m) (nI n) (nI s.1) (nI i) s.2) (fun i s => s.1 = (kq_ (gp_ A B) (km_ A B) (p, q) i).length ∧ tq_ A B (p, q) D (kq_ (gp_ A B) (km_ A B) (p, q) i) s.2) v (s := (1, D2)) (by
    rintro i ⟨sn, E⟩ hi ⟨t0, t1⟩
    have t0' : sn = (kq_ (gp_ A B) (km_ A B) (p, q) i).length := t0
    subst t0'
    have t1' : tq_ A B (p, q) D (kq_ (gp_ A B) (km_ A B) (p, q) i) E := t1
    have hiG : i < (bm_ A B 3 (p, q)).2.1 := by omega
    obtain ⟨g1, g2, hin, hle⟩ := head i E hiG t1'
    have hi' : i < (kq_ (gp_ A B) (km_ A B) (p, q) n36_).length := hiG
    have g2' : (pf_ A B (p, q) i).1 < A.2.1 ∧ (pf_ A B (p, q) i).2 < B.2.1 := g2
    have hacc := f3 i hi
    rw [hacG i] at hacc
    have hee : A.2.2.2.2 (pf_ A B (p, q) i).1 = B.2.2.2.2 (pf_ A B (p, q) i).2 := Classical.byContradiction fun z => by
      rw [bne_iff_ne.mpr z] at hacc
      cases hacc
    have hq1 : (60 * (pf_ A B (p, q) i).1 + (pf_ A B (p, q) i).2) / 60 = (pf_ A B (p, q) i).1 := by omega
    have hq2 : 60 * (pf_ A B (p, q) i).1 + (pf_ A B (p, q) i).2 - (pf_ A B (p, q) i).1 * 60 = (pf_ A B (p, q) i).2 := by omega
    obtain ⟨⟨sn', E'⟩, c1, c2, c3⟩ := lp_ (fun l (s : Nat × dy_) => k166_121 w (d + 2) (nI m) (nI n) (nI s.1) (nI i) (nI (pf_ A B (p, q) i).1) (nI (pf_ A B (p, q) i).2) (nI l) s.2) (fun l s => s.1 = (li_ (gp_ A B) (pf_ A B (p, q) i) (kq_ (gp_ A B) (km_ A B) (p, q) i) l).length ∧ tq_ A B (p, q) D (li_ (gp_ A B) (pf_ A B (p, q) i) (kq_ (gp_ A B) (km_ A B) (p, q) i) l) s.2) (km_ A B) (s := ((kq_ (gp_ A B) (km_ A B) (p, q) i).length, E)) (by
      rintro l ⟨s2, F⟩ hl ⟨u0, u1⟩
      have u0' : s2 = (li_ (gp_ A B) (pf_ A B (p, q) i) (kq_ (gp_ A B) (km_ A B) (p, q) i) l).length := u0
      subst u0'
      have u1' : tq_ A B (p, q) D (li_ (gp_ A B) (pf_ A B (p, q) i) (kq_ (gp_ A B) (km_ A B) (p, q) i) l) F := u1
      have hdg := dp_g wA wB hkl _ l g2 hl
      have hdg' : A.2.2.2.1 (pf_ A B (p, q) i).1 l < A.2.1 ∧ B.2.2.2.1 (pf_ A B (p, q) i).2 l < B.2.1 := hdg
      have rA := hrmA F u1'.2.2.2.2
      have rB := hrmB F u1'.2.2.2.2
      have pK : (li_ (gp_ A B) (pf_ A B (p, q) i) (kq_ (gp_ A B) (km_ A B) (p, q) i) l).length ≤ 3600 := by
        have := (li_f (gp_ A B) (km_ A B) (p, q) (N := n36_) (l := l) (show i < n36_ by omega) hin (by omega)).length_le
        have h2 : (li_ (gp_ A B) (pf_ A B (p, q) i) (kq_ (gp_ A B) (km_ A B) (p, q) i) l).length ≤ _ := this
        omega
      have hix := u1'.1 _ hdg
      by_cases cm : gp_ A B (pf_ A B (p, q) i) l ∈ li_ (gp_ A B) (pf_ A B (p, q) i) (kq_ (gp_ A B) (km_ A B) (p, q) i) l
      · obtain ⟨k1, k2⟩ := kt_s1 (gp_ A B) (km_ A B) (p, q) hc hi' hl cm
        have k1' : li_ (gp_ A B) (pf_ A B (p, q) i) (kq_ (gp_ A B) (km_ A B) (p, q) i) (l + 1) = li_ (gp_ A B) (pf_ A B (p, q) i) (kq_ (gp_ A B) (km_ A B) (p, q) i) l := k1
        rw [if_pos cm] at hix
        have hix' : F.1 375 (60 * A.2.2.2.1 (pf_ A B (p, q) i).1 l + B.2.2.2.1 (pf_ A B (p, q) i).2 l) = nI (ix_ (li_ (gp_ A B) (pf_ A B (p, q) i) (kq_ (gp_ A B) (km_ A B) (p, q) i) l) (gp_ A B (pf_ A B (p, q) i) l)) := hix
        have hlt := ix_lt cm
        refine ⟨(_, F), ?_, congrArg List.length k1'.symm, by rw [k1']; exact u1'⟩
        show k166_121 w (d + 2) (nI m) (nI n) (nI _) (nI i) (nI (pf_ A B (p, q) i).1) (nI (pf_ A B (p, q) i).2) (nI l) F = _
        rw [e166_121]
        simp (disch := omega) only [nI_add, pk_mul, nI_clamp, nI_leI, nI_ltI, nI_eq, inb_, iz1_, iz2_, iz3_, iz4_, iz5_, reduceIte, if_pos, if_neg, op_os, op_vIs, op_vLs, op_vRs, op_vNs, dI_at, dL_at, dI_2, dL_1, Nat.reduceEqDiff, Nat.reduceAdd, Nat.reduceMul, false_and, and_false, true_and, and_true, ne_eq, not_true_eq_false, not_false_eq_true, b2_z, b2_o, b2_n, b2_01, nar_b, nar_0, nar_1, Bool.false_eq_true, Bool.true_eq_false, rA.1, x112 hm hwA rA g2'.1 (show l < A.1 by omega), x112 hn hwB rB g2'.2 (show l < B.1 by omega), hix', e166_206]
      · obtain ⟨k1, k2, k3, k4⟩ := kt_s2 (gp_ A B) (km_ A B) (p, q) hc hi' hl cm
        have k1' : li_ (gp_ A B) (pf_ A B (p, q) i) (kq_ (gp_ A B) (km_ A B) (p, q) i) (l + 1) = li_ (gp_ A B) (pf_ A B (p, q) i) (kq_ (gp_ A B) (km_ A B) (p, q) i) l ++ [gp_ A B (pf_ A B (p, q) i) l] := k1
        have k3' : (li_ (gp_ A B) (pf_ A B (p, q) i) (kq_ (gp_ A B) (km_ A B) (p, q) i) l).length < _ := k3
        have k4' : fst1_ (bm_ A B 3 (p, q)) (li_ (gp_ A B) (pf_ A B (p, q) i) (kq_ (gp_ A B) (km_ A B) (p, q) i) l).length i l := k4
        have kp := par_e k4'
        rw [if_neg cm] at hix
        have hix' : F.1 375 (60 * A.2.2.2.1 (pf_ A B (p, q) i).1 l + B.2.2.2.1 (pf_ A B (p, q) i).2 l) = -1 := hix
        have hpos : 0 < (li_ (gp_ A B) (pf_ A B (p, q) i) (kq_ (gp_ A B) (km_ A B) (p, q) i) l).length := by
          have := k4'.1
          omega
        generalize hK : li_ (gp_ A B) (pf_ A B (p, q) i) (kq_ (gp_ A B) (km_ A B) (p, q) i) l = K at *
        refine ⟨(K.length + 1, dI_ (dI_ (dI_ (dI_ F 375 (60 * A.2.2.2.1 (pf_ A B (p, q) i).1 l + B.2.2.2.1 (pf_ A B (p, q) i).2 l) (nI K.length)) 360 K.length (nI (60 * A.2.2.2.1 (pf_ A B (p, q) i).1 l + B.2.2.2.1 (pf_ A B (p, q) i).2 l))) 381 K.length (nI i)) 382 K.length (nI l)), ?_, ?_, ?_, ?_, ?_, fun v' hv' hz => ?_, ?_⟩
        · show k166_121 w (d + 2) (nI m) (nI n) (nI K.length) (nI i) (nI (pf_ A B (p, q) i).1) (nI (pf_ A B (p, q) i).2) (nI l) F = _
          rw [e166_121]
          simp (disch := omega) only [nI_add, pk_mul, nI_clamp, nI_leI, nI_ltI, nI_eq, inb_, iz1_, iz2_, iz3_, iz4_, iz5_, reduceIte, if_pos, if_neg, op_os, op_vIs, op_vLs, op_vRs, op_vNs, dI_at, dL_at, dI_2, dL_1, Nat.reduceEqDiff, Nat.reduceAdd, Nat.reduceMul, false_and, and_false, true_and, and_true, ne_eq, not_true_eq_false, not_false_eq_true, b2_z, b2_o, b2_n, b2_01, nar_b, nar_0, nar_1, Bool.false_eq_true, Bool.true_eq_false, rA.1, x112 hm hwA rA g2'.1 (show l < A.1 by omega), x112 hn hwB rB g2'.2 (show l < B.1 by omega), hix', e166_206]
        · rw [k1', List.length_append]
          rfl
        · rw [k1']
          exact nb_new (dp_inj60 nB) u1'.1 hdg cm (by show _ = nI K.length; simp (disch := omega) only [nI_add, pk_mul, nI_clamp, nI_leI, nI_ltI, nI_eq, inb_, iz1_, iz2_, iz3_, iz4_, iz5_, reduceIte, op_os, op_vIs, op_vLs, op_vRs, op_vNs, dI_at, dL_at, dI_2, dL_1, Nat.reduceEqDiff, Nat.reduceAdd, Nat.reduceMul, false_and, and_false, true_and, and_true, ne_eq, not_true_eq_false, not_false_eq_true, b2_z, b2_o, b2_n, b2_01, nar_b, nar_0, nar_1, Bool.false_eq_true, Bool.true_eq_false]; exact if_pos rfl) (fun j hj => by
            have hj' : j ≠ 60 * A.2.2.2.1 (pf_ A B (p, q) i).1 l + B.2.2.2.1 (pf_ A B (p, q) i).2 l := hj
            simp (disch := omega) only [nI_add, pk_mul, nI_clamp, nI_leI, nI_ltI, nI_eq, inb_, iz1_, iz2_, iz3_, iz4_, iz5_, reduceIte, if_pos, if_neg, op_os, op_vIs, op_vLs, op_vRs, op_vNs, dI_at, dL_at, dI_2, dL_1, Nat.reduceEqDiff, Nat.reduceAdd, Nat.reduceMul, false_and, and_false, true_and, and_true, ne_eq, not_true_eq_false, not_false_eq_true, b2_z, b2_o, b2_n, b2_01, nar_b, nar_0, nar_1, Bool.false_eq_true, Bool.true_eq_false])
        · rw [k1']
          exact ky_new u1'.2.1 (by simp (disch := omega) only [nI_add, pk_mul, nI_clamp, nI_leI, nI_ltI, nI_eq, inb_, iz1_, iz2_, iz3_, iz4_, iz5_, reduceIte, if_pos, if_neg, op_os, op_vIs, op_vLs, op_vRs, op_vNs, dI_at, dL_at, dI_2, dL_1, Nat.reduceEqDiff, Nat.reduceAdd, Nat.reduceMul, false_and, and_false, true_and, and_true, ne_eq, not_true_eq_false, not_false_eq_true, b2_z, b2_o, b2_n, b2_01, nar_b, nar_0, nar_1, Bool.false_eq_true, Bool.true_eq_false]; rfl) (fun j hj => by simp (disch := omega) only [nI_add, pk_mul, nI_clamp, nI_leI, nI_ltI, nI_eq, inb_, iz1_, iz2_, iz3_, iz4_, iz5_, reduceIte, if_pos, if_neg, op_os, op_vIs, op_vLs, op_vRs, op_vNs, dI_at, dL_at, dI_2, dL_1, Nat.reduceEqDiff, Nat.reduceAdd, Nat.reduceMul, false_and, and_false, true_and, and_true, ne_eq, not_true_eq_false, not_false_eq_true, b2_z, b2_o, b2_n, b2_01, nar_b, nar_0, nar_1, Bool.false_eq_true, Bool.true_eq_false])
        · simp (disch := omega) only [nI_add, pk_mul, nI_clamp, nI_leI, nI_ltI, nI_eq, inb_, iz1_, iz2_, iz3_, iz4_, iz5_, reduceIte, if_pos, if_neg, op_os, op_vIs, op_vLs, op_vRs, op_vNs, dI_at, dL_at, dI_2, dL_1, Nat.reduceEqDiff, Nat.reduceAdd, Nat.reduceMul, false_and, and_false, true_and, and_true, ne_eq, not_true_eq_false, not_false_eq_true, b2_z, b2_o, b2_n, b2_01, nar_b, nar_0, nar_1, Bool.false_eq_true, Bool.true_eq_false]
          exact u1'.2.2.1
        · rw [k1', List.length_append] at hv'
          have hv2 : v' < K.length + 1 := hv'
          by_cases y : v' = K.length
          · rw [y, kp]
            exact ⟨by simp (disch := omega) only [nI_add, pk_mul, nI_clamp, nI_leI, nI_ltI, nI_eq, inb_, iz1_, iz2_, iz3_, iz4_, iz5_, reduceIte, if_pos, if_neg, op_os, op_vIs, op_vLs, op_vRs, op_vNs, dI_at, dL_at, dI_2, dL_1, Nat.reduceEqDiff, Nat.reduceAdd, Nat.reduceMul, false_and, and_false, true_and, and_true, ne_eq, not_true_eq_false, not_false_eq_true, b2_z, b2_o, b2_n, b2_01, nar_b, nar_0, nar_1, Bool.false_eq_true, Bool.true_eq_false], by simp (disch := omega) only [nI_add, pk_mul, nI_clamp, nI_leI, nI_ltI, nI_eq, inb_, iz1_, iz2_, iz3_, iz4_, iz5_, reduceIte, if_pos, if_neg, op_os, op_vIs, op_vLs, op_vRs, op_vNs, dI_at, dL_at, dI_2, dL_1, Nat.reduceEqDiff, Nat.reduceAdd, Nat.reduceMul, false_and, and_false, true_and, and_true, ne_eq, not_true_eq_false, not_false_eq_true, b2_z, b2_o, b2_n, b2_01, nar_b, nar_0, nar_1, Bool.false_eq_true, Bool.true_eq_false]⟩
          · obtain ⟨y1, y2⟩ := u1'.2.2.2.1 v' (by omega) hz
            exact ⟨by simp (disch := omega) only [nI_add, pk_mul, nI_clamp, nI_leI, nI_ltI, nI_eq, inb_, iz1_, iz2_, iz3_, iz4_, iz5_, reduceIte, if_pos, if_neg, op_os, op_vIs, op_vLs, op_vRs, op_vNs, dI_at, dL_at, dI_2, dL_1, Nat.reduceEqDiff, Nat.reduceAdd, Nat.reduceMul, false_and, and_false, true_and, and_true, ne_eq, not_true_eq_false, not_false_eq_true, b2_z, b2_o, b2_n, b2_01, nar_b, nar_0, nar_1, Bool.false_eq_true, Bool.true_eq_false]; exact y1, by simp (disch := omega) only [nI_add, pk_mul, nI_clamp, nI_leI, nI_ltI, nI_eq, inb_, iz1_, iz2_, iz3_, iz4_, iz5_, reduceIte, if_pos, if_neg, op_os, op_vIs, op_vLs, op_vRs, op_vNs, dI_at, dL_at, dI_2, dL_1, Nat.reduceEqDiff, Nat.reduceAdd, Nat.reduceMul, false_and, and_false, true_and, and_true, ne_eq, not_true_eq_false, not_false_eq_true, b2_z, b2_o, b2_n, b2_01, nar_b, nar_0, nar_1, Bool.false_eq_true, Bool.true_eq_false]; exact y2⟩
        · refine fx_1 (fx_1 (fx_1 (fx_1 u1'.2.2.2.2 ?_) ?_) ?_) ?_ <;> exact Or.inr ⟨by omega, by unfold tA_; omega⟩) ⟨rfl, t1'⟩
    have hst : kq_ (gp_ A B) (km_ A B) (p, q) (i + 1) = li_ (gp_ A B) (pf_ A B (p, q) i) (kq_ (gp_ A B) (km_ A B) (p, q) i) (km_ A B) := kq_step (gp_ A B) (km_ A B) (p, q) (N := n36_) (by omega) hin
    refine ⟨(sn', E'), ?_, by rw [hst]; exact c2, by rw [hst]; exact c3⟩
    have c3' : tq_ A B (p, q) D _ E' := c3
    show k166_63 w (d + 2) (nI m) (nI n) (nI _) (nI i) E = k166_63 w (d + 2) (nI m) (nI n) (nI sn') (nI (i + 1)) E'
    rw [e166_63]
    simp (disch := omega) only [nI_add, pk_mul, nI_clamp, nI_leI, nI_ltI, nI_eq, inb_, iz1_, iz2_, iz3_, iz4_, iz5_, reduceIte, if_pos, if_neg, op_os, op_vIs, op_vLs, op_vRs, op_vNs, dI_at, dL_at, dI_2, dL_1, Nat.reduceEqDiff, Nat.reduceAdd, Nat.reduceMul, false_and, and_false, true_and, and_true, ne_eq, not_true_eq_false, not_false_eq_true, b2_z, b2_o, b2_n, b2_01, nar_b, nar_0, nar_1, Bool.false_eq_true, Bool.true_eq_false, g1, pk_sub, pk_div, hq1, hq2, x113 hm hwA (hrmA E t1'.2.2.2.2) g2'.1, x113 hn hwB (hrmB E t1'.2.2.2.2) g2'.2, hee]
    refine Eq.trans (show _ = k166_121 w (d + 2) (nI m) (nI n) (nI sn') (nI i) (nI (pf_ A B (p, q) i).1) (nI (pf_ A B (p, q) i).2) (nI (km_ A B)) E' from c1) ?_
    rw [e166_121]
    simp (disch := omega) only [nI_add, pk_mul, nI_clamp, nI_leI, nI_ltI, nI_eq, inb_, iz1_, iz2_, iz3_, iz4_, iz5_, reduceIte, if_pos, if_neg, op_os, op_vIs, op_vLs, op_vRs, op_vNs, dI_at, dL_at, dI_2, dL_1, Nat.reduceEqDiff, Nat.reduceAdd, Nat.reduceMul, false_and, and_false, true_and, and_true, ne_eq, not_true_eq_false, not_false_eq_true, b2_z, b2_o, b2_n, b2_01, nar_b, nar_0, nar_1, Bool.false_eq_true, Bool.true_eq_false, (hrmA E' c3'.2.2.2.2).1, hkm, Nat.le_refl]) ⟨rfl, q0⟩
  have e2' : seen = (kq_ (gp_ A B) (km_ A B) (p, q) v).length := e2
  have e3' : tq_ A B (p, q) D (kq_ (gp_ A B) (km_ A B) (p, q) v) D3 := e3
  have st : k166_0 w (d + 2) (nI m) (nI p) (nI n) (nI q) D = k166_63 w (d + 2) (nI m) (nI n) (nI seen) (nI v) D3 := by
    rw [e166_0]
    refine Eq.trans (show _ = k166_3 w (d + 2) (nI m) (nI p) (nI n) (nI q) (nI 3600) D1 from a1) ?_
    rw [e166_3]
    simp (disch := omega) only [nI_add, pk_mul, nI_clamp, nI_leI, nI_ltI, nI_eq, inb_, iz1_, iz2_, iz3_, iz4_, iz5_, reduceIte, if_pos, if_neg, op_os, op_vIs, op_vLs, op_vRs, op_vNs, dI_at, dL_at, dI_2, dL_1, Nat.reduceEqDiff, Nat.reduceAdd, Nat.reduceMul, false_and, and_false, true_and, and_true, ne_eq, not_true_eq_false, not_false_eq_true, b2_z, b2_o, b2_n, b2_01, nar_b, nar_0, nar_1, Bool.false_eq_true, Bool.true_eq_false, Nat.le_refl]
    rw [hD2]
    exact e1
  have hseen : seen ≤ 3600 := by
    have := hlen2 v
    omega
  by_cases z : v < (bm_ A B 3 (p, q)).2.1
  · obtain ⟨g1, g2, hin, hle⟩ := head v D3 z e3'
    have g2' : (pf_ A B (p, q) v).1 < A.2.1 ∧ (pf_ A B (p, q) v).2 < B.2.1 := g2
    have hq1 : (60 * (pf_ A B (p, q) v).1 + (pf_ A B (p, q) v).2) / 60 = (pf_ A B (p, q) v).1 := by omega
    have hq2 : 60 * (pf_ A B (p, q) v).1 + (pf_ A B (p, q) v).2 - (pf_ A B (p, q) v).1 * 60 = (pf_ A B (p, q) v).2 := by omega
    have hacc := f2 z
    rw [hacG v] at hacc
    have hne : ¬ b2_ (A.2.2.2.2 (pf_ A B (p, q) v).1) = b2_ (B.2.2.2.2 (pf_ A B (p, q) v).2) := fun y => by
      have h3 := bne_iff_ne.mp hacc
      cases h1 : A.2.2.2.2 (pf_ A B (p, q) v).1 <;> cases h2 : B.2.2.2.2 (pf_ A B (p, q) v).2 <;> rw [h1, h2] at y h3 <;> first | exact h3 rfl | exact absurd y (by decide)
    obtain ⟨D', c1, c2, c3⟩ := x167 (w := w) (d := d) (D := D3) (G := bm_ A B 3 (p, q)) hM.1.2 hlen hio z (hdep z) e3'.2.2.1 (fun u hu hu' hz => e3'.2.2.2.1 u (by omega) hz)
    refine ⟨D3, D', e3'.2.2.2.2, fun y => absurd y (by omega), fun _ => ⟨?_, c3, c2⟩⟩
    rw [st, e166_63]
    simp (disch := omega) only [nI_add, pk_mul, nI_clamp, nI_leI, nI_ltI, nI_eq, inb_, iz1_, iz2_, iz3_, iz4_, iz5_, reduceIte, if_pos, if_neg, op_os, op_vIs, op_vLs, op_vRs, op_vNs, dI_at, dL_at, dI_2, dL_1, Nat.reduceEqDiff, Nat.reduceAdd, Nat.reduceMul, false_and, and_false, true_and, and_true, ne_eq, not_true_eq_false, not_false_eq_true, b2_z, b2_o, b2_n, b2_01, nar_b, nar_0, nar_1, Bool.false_eq_true, Bool.true_eq_false, g1, pk_sub, pk_div, hq1, hq2, x113 hm hwA (hrmA D3 e3'.2.2.2.2) g2'.1, x113 hn hwB (hrmB D3 e3'.2.2.2.2) g2'.2, c1]
  · have hvn : v = (bm_ A B 3 (p, q)).2.1 := by omega
    refine ⟨D3, D3, e3'.2.2.2.2, fun _ => ?_, fun y => absurd y z⟩
    have hend : (kq_ (gp_ A B) (km_ A B) (p, q) v).length = v := by
      rw [hvn, hnG]
      exact congrArg List.length (kq_end (gp_ A B) (km_ A B) (p, q) hc)
    rw [st, e166_63]
    simp (disch := omega) only [nI_add, pk_mul, nI_clamp, nI_leI, nI_ltI, nI_eq, inb_, iz1_, iz2_, iz3_, iz4_, iz5_, reduceIte, if_pos, if_neg, op_os, op_vIs, op_vLs, op_vRs, op_vNs, dI_at, dL_at, dI_2, dL_1, Nat.reduceEqDiff, Nat.reduceAdd, Nat.reduceMul, false_and, and_false, true_and, and_true, ne_eq, not_true_eq_false, not_false_eq_true, b2_z, b2_o, b2_n, b2_01, nar_b, nar_0, nar_1, Bool.false_eq_true, Bool.true_eq_false, e2', hend, Nat.le_refl]
end SAME
