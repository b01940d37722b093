/-! the constructors, one by one -/
section
variable {xs : Nat → Int32} {L d : Nat} {z : Nat} {P : List (Nat × Nat)} {D : dy_} {b : Nat}
theorem pza_c {a s : Nat} (ha : a ≤ z) (h : pza_ P z = true) : pza_ ((a, s) :: P) z = true := by
  show (Nat.ble a z && pza_ P z) = true
  rw [h, Nat.ble_eq_true_of_le ha]
  rfl
theorem pza_m {z' : Nat} (h : pza_ P z = true) (hz : z ≤ z') : pza_ P z' = true := by
  refine List.all_eq_true.mpr fun q hq => ?_
  exact Nat.ble_eq_true_of_le (Nat.le_trans (Nat.le_of_ble_eq_true (List.all_eq_true.mp h q hq)) hz)
theorem c5_ {c : Nat} (hm : z + 1 ∈ ml_) (hc : cap_ (z + 1) = c) (h1 : 1 ≤ c) (hz : z + 3 ≤ 385) (hb : b ≤ z) (hp : pza_ P z = true) : ev_ xs L mp_ (d + 1) 5 0 [(0, .ref (z + 1)), (1, .int (nI c))] [] (hp_al (HH_ z P D b) 11 5) = some (none, HH_ (z + 3) P D b) := by
  obtain ⟨m1, m2, m3, m4, m5, m6⟩ := mM_ hm
  rw [hc] at m4 m5 m6
  have e1 : (if nI c < (1 : Int32) then 1 else nI c) = nI c := if_neg (by
    show ¬ nI c < nI 1
    rw [nI_ltI (by omega) (by omega)]
    omega)
  have e4 : nI c * 4 = nI (4 * c) := by
    show nI c * nI 4 = _
    rw [pk_mul, Nat.mul_comm]
  have s1 : ¬ (nI (4 * c) < 0 ∨ 60000000 < (nI (4 * c)).toNatClampNeg) := by
    rw [nI_clamp (by omega)]
    rintro (q | q)
    · exact nI_pos (by omega) q
    · omega
  have s2 : ¬ (nI c < 0 ∨ 60000000 < (nI c).toNatClampNeg) := by
    rw [nI_clamp (by omega)]
    rintro (q | q)
    · exact nI_pos (by omega) q
    · omega
  have t0 : hp_T (hp_al (HH_ z P D b) 11 5) (z + 1) = 11 := by
    rw [hT_al]
    exact if_pos rfl
  have z0 : hp_z (hp_al (HH_ z P D b) 11 5) = z + 1 := rfl
  rw [eq_5_0]
  simp only [e1, e4]
  rw [if_pos t0, if_pos t0, if_neg s1, nI_clamp (by omega), hT_al, z0, if_neg (show ¬ z + 1 = z + 1 + 1 by omega), if_pos t0, hT_al, z0, if_pos rfl, if_pos rfl]
  rw [alM_ m1 hb hp, al0_ (z := z + 1) m4 (by omega) (by omega) (by omega) (pza_c (Nat.le_refl _) (pza_m hp (by omega))), sR_ (by omega) (Nat.le_refl _) m2 (fun k hk _ => absurd hk (by omega)) (pn_z hp (by omega))]
  rw [eq_5_27]
  simp only [e1]
  have t2 : hp_T (hp_al (HH_ (z + 1 + 1) ((z + 1, 0 + 1) :: P) D b) 2 c) (z + 1) = 11 := by
    rw [hT_al, hz_h, if_neg (show ¬ z + 1 = z + 1 + 1 + 1 by omega)]
    exact hT_h (by omega) (congrArg Prod.fst m1)
  have t3 : hp_T (hp_al (HH_ (z + 1 + 1) ((z + 1, 0 + 1) :: P) D b) 2 c) (hp_z (HH_ (z + 1 + 1) ((z + 1, 0 + 1) :: P) D b) + 1) = 2 := by
    rw [hT_al, if_pos rfl]
  rw [if_neg s2, nI_clamp (by omega), if_pos t2, if_pos t3]
  rw [al0_ (z := z + 2) m5 (by omega) (by omega) (by omega) (pza_c (by omega) (pza_m hp (by omega)))]
  rw [show hp_z (HH_ (z + 1 + 1) ((z + 1, 0 + 1) :: P) D b) + 1 = z + 3 from rfl]
  rw [sR_ (by omega) (Nat.le_refl _) m3 (fun k hk q => absurd hk (by omega)) (pn_z hp (by omega)), dr_ (by omega)]
  unfold rl_
  rw [show shp_ (z + 1) = (11, 5) from m1]
  decide
set_option maxHeartbeats 4000000 in
theorem c0_ : ev_ xs L mp_ (d + 1) 0 0 [(0, .ref 41)] [] (hp_al (HH_ 40 [(23, 5), (1, 2)] D 0) 10 7) = some (none, HH_ 45 [(23, 5), (1, 2)] D 0) := by
  rw [al_ (by decide) (by decide) (by decide) (by decide), eq_0_0]
  simp (disch := first | omega | decide) only [hT_e, hT_al, al0_, sR_, hz_h, Int32.reduceToNatClampNeg, Int32.reduceLT, Nat.reduceLT, or_self, reduceIte, Nat.reduceAdd, Nat.reduceEqDiff, eq_0_22, eq_0_40, dr_]
theorem swp_ (p q : Nat × Nat) : HH_ z (p :: q :: P) D b = HH_ z (q :: p :: P) D b := by
  refine hp_ext rfl ?_ rfl rfl rfl rfl
  funext x k
  show (if x ≤ z ∧ (_ && (_ && vis_ P x k)) = true then rr_ x k else 0) = if x ≤ z ∧ (_ && (_ && vis_ P x k)) = true then rr_ x k else 0
  rw [Bool.and_left_comm]
set_option maxHeartbeats 4000000 in
theorem c46_ : ev_ xs L mp_ (d + 1) 46 0 [(0, .ref 36)] [] (hp_al (HH_ 35 [(23, 4), (1, 2)] D 0) 14 5) = some (none, HH_ 40 [(23, 4), (1, 2)] D 0) := by
  rw [al_ (by decide) (by decide) (by decide) (by decide), eq_46_0]
  simp (disch := first | omega | decide) only [hT_e, hT_al, al0_, sR_, hz_h, Int32.reduceToNatClampNeg, Int32.reduceLT, Nat.reduceLT, or_self, reduceIte, Nat.reduceAdd, Nat.reduceEqDiff, eq_46_22, eq_46_40, dr_]
theorem c49_ : ev_ xs L mp_ (d + 1) 49 0 [(0, .ref 21)] [] (hp_al (HH_ 20 [(1, 1)] D 0) 15 2) = some (none, HH_ 22 [(1, 1)] D 0) := by
  rw [al_ (by decide) (by decide) (by decide) (by decide), eq_49_0]
  simp (disch := first | omega | decide) only [hT_e, hT_al, al0_, sR_, hz_h, Int32.reduceToNatClampNeg, Int32.reduceLT, Nat.reduceLT, or_self, reduceIte, Nat.reduceAdd, Nat.reduceEqDiff, dr_]
theorem c55_ : ev_ xs L mp_ (d + 1) 55 0 [(0, .ref 340)] [] (hp_al (HH_ 339 [(1, 4)] D 49) 16 1) = some (none, HH_ 341 [(1, 4)] D 49) := by
  rw [al_ (by decide) (by decide) (by decide) (by decide), eq_55_0]
  simp (disch := first | omega | decide) only [hT_e, hT_al, al0_, sR_, hz_h, Int32.reduceToNatClampNeg, Int32.reduceLT, Nat.reduceLT, or_self, reduceIte, Nat.reduceAdd, Nat.reduceEqDiff, dr_]
set_option maxHeartbeats 4000000 in
theorem c15_ : ev_ xs L mp_ (d + 2) 15 0 [(0, .ref 342)] [] (hp_al (HH_ 341 [(1, 5)] D 49) 12 7) = some (none, HH_ 350 [(1, 5)] D 49) := by
  have h5 : ev_ xs L mp_ (d + 1) 5 0 [(0, .ref 343), (1, .int 60)] [] (hp_al (HH_ 342 [(342, 0), (1, 5)] D 49) 11 5) = some (none, HH_ 345 [(342, 0), (1, 5)] D 49) := c5_ (z := 342) (c := 60) (by decide +kernel) (by decide +kernel) (by decide) (by decide) (by decide) (by decide)
  have t : hp_T (hp_al (HH_ 342 [(342, 0), (1, 5)] D 49) 11 5) 343 = 11 := by
    rw [hT_al]
    exact if_pos rfl
  rw [al_ (by decide) (by decide) (by decide) (by decide), eq_15_0]
  simp (disch := first | omega | decide) only [hz_h, Nat.reduceAdd, t, reduceIte, h5, op_os, op_vNs]
  simp (disch := first | omega | decide) only [hz_h, Nat.reduceAdd, hT_e, al0_, sR_, Int32.reduceToNatClampNeg, Int32.reduceLT, Nat.reduceLT, or_self, reduceIte, Nat.reduceEqDiff, dr_, eq_15_26, eq_15_44, eq_15_60]
theorem c11s {q : qs_} {a : Nat} {l l' : Int32} {j : Nat} (h1 : (q.1 a).1 = 11) (h2 : q.2.1 a 0 = a + 1) (h4 : q.1 (a + 1) = (1, 4)) (hD : D.1 a 2 = 4) (hl : ¬ 4 ≤ l) (hj : j < 4) (hc : ((0 : Int32) * 4 + l) = nI j) (hl' : l + 1 = l') : qv_ q xs L (d + 2) 11 2 [(0, .ref a), (1, .int 0), (2, .int 0), (3, .int l)] [] D = qv_ q xs L (d + 2) 11 2 [(0, .ref a), (1, .int 0), (2, .int 0), (3, .int l')] [] (dI_ D (a + 1) j 0) := by
  rw [q_11_2, if_pos h1, hD, if_neg hl, if_pos h1, q_10_0, if_pos h1, h2, if_neg (by omega), if_pos h1, h4, if_pos rfl, hD, hc, inb_ hj (by omega), nI_clamp (by omega), hl']
  rfl
theorem c6_ {q : qs_} {a : Nat} (h1 : (q.1 a).1 = 11) (h2 : q.2.1 a 0 = a + 1) (h3 : q.2.1 a 1 = a + 2) (h4 : q.1 (a + 1) = (1, 4)) (h5 : q.1 (a + 2) = (2, 1)) : qv_ q xs L (d + 3) 6 0 [(0, .ref a), (1, .int 4), (2, .int 1)] [] D = some (none, dI_ (dI_ (dI_ (dI_ (dI_ (dI_ (dI_ (dI_ D a 2 4) a 3 1) a 4 0) (a + 2) 0 0) (a + 1) 0 0) (a + 1) 1 0) (a + 1) 2 0) (a + 1) 3 0) := by
  have hn : vp_nar .boolean 0 = 0 := by decide
  rw [q_6_0, if_pos h1, if_pos h1, if_pos h1, q_6_17, if_neg (by decide), if_pos h1, h3, if_neg (by omega), h5, if_pos rfl, show mk_inb (0 : Int32) 1 = fun (fl f : rd_) => f from by funext fl f; exact if_neg (by decide)]
  show (if (q.1 a).1 = 11 then _ else _) = _
  rw [if_pos h1, q_11_0, hn, show (0 : Int32).toNatClampNeg = 0 from by decide]
  rw [c11s (l' := 1) (j := 0) h1 h2 h4 (by simp (disch := omega) only [dI_at, if_pos, if_neg]; rfl) (by decide) (by omega) (by decide) (by decide)]
  rw [c11s (l' := 2) (j := 1) h1 h2 h4 (by simp (disch := omega) only [dI_at, if_pos, if_neg]; rfl) (by decide) (by omega) (by decide) (by decide)]
  rw [c11s (l' := 3) (j := 2) h1 h2 h4 (by simp (disch := omega) only [dI_at, if_pos, if_neg]; rfl) (by decide) (by omega) (by decide) (by decide)]
  rw [c11s (l' := 4) (j := 3) h1 h2 h4 (by simp (disch := omega) only [dI_at, if_pos, if_neg]; rfl) (by decide) (by omega) (by decide) (by decide)]
  rw [q_11_2, if_pos h1, if_pos (by simp (disch := omega) only [dI_at, if_pos, if_neg, and_self, reduceIte]; decide), op_os]
  show op_vN none none _ = _
  rw [op_vNs, q_6_17, if_pos (by decide)]
set_option maxHeartbeats 4000000 in
theorem c63_ : ev_ xs L mp_ (d + 5) 63 0 [(0, .ref 23)] [] (hp_al (HH_ 22 [(1, 2)] D 0) 17 10) = ev_ xs L mp_ (d + 5) 63 111 [(0, .ref 23)] [] (HH_ 49 [(1, 2)] D 0) := by
  have h1 : ev_ xs L mp_ (d + 4) 5 0 [(0, .ref 24), (1, .int 3600)] [] (hp_al (HH_ 23 [(23, 0), (1, 2)] D 0) 11 5) = some (none, HH_ 26 [(23, 0), (1, 2)] D 0) := c5_ (z := 23) (c := 3600) (by decide +kernel) (by decide +kernel) (by decide) (by decide) (by decide) (by decide)
  have h1t : hp_T (hp_al (HH_ 23 [(23, 0), (1, 2)] D 0) 11 5) 24 = 11 := by
    rw [hT_al]
    exact if_pos rfl
  have h2 : ev_ xs L mp_ (d + 4) 5 0 [(0, .ref 27), (1, .int 60)] [] (hp_al (HH_ 26 [(23, 1), (1, 2)] D 0) 11 5) = some (none, HH_ 29 [(23, 1), (1, 2)] D 0) := c5_ (z := 26) (c := 60) (by decide +kernel) (by decide +kernel) (by decide) (by decide) (by decide) (by decide)
  have h2t : hp_T (hp_al (HH_ 26 [(23, 1), (1, 2)] D 0) 11 5) 27 = 11 := by
    rw [hT_al]
    exact if_pos rfl
  have h3 : ev_ xs L mp_ (d + 4) 5 0 [(0, .ref 30), (1, .int 1)] [] (hp_al (HH_ 29 [(23, 2), (1, 2)] D 0) 11 5) = some (none, HH_ 32 [(23, 2), (1, 2)] D 0) := c5_ (z := 29) (c := 1) (by decide +kernel) (by decide +kernel) (by decide) (by decide) (by decide) (by decide)
  have h3t : hp_T (hp_al (HH_ 29 [(23, 2), (1, 2)] D 0) 11 5) 30 = 11 := by
    rw [hT_al]
    exact if_pos rfl
  have h4 : ev_ xs L mp_ (d + 4) 5 0 [(0, .ref 33), (1, .int 1)] [] (hp_al (HH_ 32 [(23, 3), (1, 2)] D 0) 11 5) = some (none, HH_ 35 [(23, 3), (1, 2)] D 0) := c5_ (z := 32) (c := 1) (by decide +kernel) (by decide +kernel) (by decide) (by decide) (by decide) (by decide)
  have h4t : hp_T (hp_al (HH_ 32 [(23, 3), (1, 2)] D 0) 11 5) 33 = 11 := by
    rw [hT_al]
    exact if_pos rfl
  have t5 : hp_T (hp_al (HH_ 35 [(23, 4), (1, 2)] D 0) 14 5) 36 = 14 := by
    rw [hT_al]
    exact if_pos rfl
  have t6 : hp_T (hp_al (HH_ 40 [(23, 5), (1, 2)] D 0) 10 7) 41 = 10 := by
    rw [hT_al]
    exact if_pos rfl
  have t7 : hp_T (hp_al (HH_ 40 [(23, 4), (1, 2)] D 0) 10 7) 41 = 10 := by
    rw [hT_al]
    exact if_pos rfl
  have t8 : hp_T (hp_al (HH_ 26 [(23, 0), (1, 2)] D 0) 11 5) 27 = 11 := by
    rw [hT_al]
    exact if_pos rfl
  have t9 : hp_T (hp_al (HH_ 32 [(23, 2), (1, 2)] D 0) 11 5) 33 = 11 := by
    rw [hT_al]
    exact if_pos rfl
  rw [al_ (by decide) (by decide) (by decide) (by decide), eq_63_0]
  simp (disch := first | omega | decide) only [hz_h, Nat.reduceAdd, h1t, reduceIte, h1, op_os, op_vNs, hT_e, sR_, t8]
  simp (disch := first | omega | decide) only [hz_h, Nat.reduceAdd, h2t, reduceIte, h2, op_os, op_vNs, hT_e, sR_]
  rw [eq_63_31]
  simp (disch := first | omega | decide) only [hz_h, Nat.reduceAdd, h3t, reduceIte, h3, op_os, op_vNs, hT_e, sR_, t9]
  simp (disch := first | omega | decide) only [hz_h, Nat.reduceAdd, h4t, reduceIte, h4, op_os, op_vNs, hT_e, sR_]
  rw [eq_63_55]
  simp (disch := first | omega | decide) only [hz_h, Nat.reduceAdd, t5, reduceIte, c46_, op_os, op_vNs, hT_e, sR_, t7]
  simp (disch := first | omega | decide) only [hz_h, Nat.reduceAdd, t6, reduceIte, c0_, op_os, op_vNs, hT_e, sR_]
  rw [eq_63_77]
  simp (disch := first | omega | decide) only [hz_h, Nat.reduceAdd, hT_e, al0_, sR_, Int32.reduceToNatClampNeg, Int32.reduceLT, Nat.reduceLT, or_self, reduceIte, Nat.reduceEqDiff, dr_, eq_63_95]
end
