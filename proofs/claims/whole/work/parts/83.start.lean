/-! the constructors, put together -/
section
variable {xs : Nat → Int32} {L d : Nat} {z : Nat} {P : List (Nat × Nat)} {D : dy_} {b : Nat}
theorem shp_big (n : Nat) (h : 386 ≤ n) : shp_ n = (0, 0) := by
  have hb : ∀ c, c ≤ 386 → Nat.ble c n = true := fun c hc => Nat.ble_eq_true_of_le (by omega)
  have hq : ∀ c, c < 386 → Nat.beq n c = false := fun c hc => beq_n (by omega)
  simp (disch := omega) only [shp_, hb, hq, cond_true, cond_false]
theorem rr_out (n k : Nat) (h : 386 ≤ n) : rr_ n k = 0 := by
  have hb : ∀ c, c ≤ 386 → Nat.ble c n = true := fun c hc => Nat.ble_eq_true_of_le (by omega)
  have hq : ∀ c, c < 386 → Nat.beq n c = false := fun c hc => beq_n (by omega)
  simp (disch := omega) only [rr_, hb, hq, cond_true, cond_false]
theorem szz_e : szz_ 385 = ss_ := by decide +kernel
theorem qz_sh : qz_ 385 [] = sh_ := by
  refine Prod.ext ?_ (Prod.ext ?_ (Prod.ext rfl szz_e))
  · funext n
    show (if n ≤ 385 then shp_ n else (0, 0)) = shp_ n
    by_cases h : n ≤ 385
    · rw [if_pos h]
    · rw [if_neg h, shp_big n (by omega)]
  · funext n k
    show (if n ≤ 385 ∧ true = true then rr_ n k else 0) = rr_ n k
    by_cases h : n ≤ 385
    · rw [if_pos ⟨h, rfl⟩]
    · rw [if_neg (fun q => h q.1), rr_out n k (by omega)]
def d0_ : dy_ := (fun _ _ => 0, fun _ _ => 0)
def de_ (D : dy_) (a : Nat) : dy_ := dI_ (dI_ (dI_ (dI_ (dI_ (dI_ (dI_ (dI_ D a 2 4) a 3 1) a 4 0) (a + 2) 0 0) (a + 1) 0 0) (a + 1) 1 0) (a + 1) 2 0) (a + 1) 3 0
def dw_ : dy_ := dI_ (de_ (de_ (ex_ d0_ 0 49) 30) 33) 35 0 1
theorem de_hi {a x k : Nat} (h : a + 2 < x) : (de_ D a).1 x k = D.1 x k := by
  unfold de_
  simp (disch := omega) only [dI_at, if_neg]
theorem dw_hi {x k : Nat} (h : 49 < x) : dw_.1 x k = 0 := by
  unfold dw_
  rw [dI_at, if_neg (by omega), de_hi (by omega), de_hi (by omega)]
  show (if x ≤ 0 then _ else if x ≤ 49 ∧ _ then _ else _) = _
  rw [if_neg (by omega), if_neg (by omega)]
theorem dw_ex : ex_ dw_ 49 49 = dw_ := by
  refine Prod.ext ?_ ?_
  · funext a k
    show (if a ≤ 49 then dw_.1 a k else if a ≤ 49 ∧ _ then _ else _) = _
    by_cases h : a ≤ 49
    · rw [if_pos h]
    · rw [if_neg h, if_neg (fun q => h q.1), dw_hi (by omega)]
  · funext a k
    show (if a ≤ 49 then dw_.2 a k else 0) = dw_.2 a k
    have : dw_.2 a k = 0 := by
      show (if a ≤ 0 then (0 : Int64) else 0) = 0
      rw [ite_self]
    rw [this, ite_self]
theorem hsI_q (q : qs_) (D : dy_) (a i : Nat) (v : Int32) : hp_sI (hq_ q D) a i v = hq_ q (dI_ D a i v) := rfl
theorem c63w : ev_ xs L mp_ (d + 5) 63 0 [(0, .ref 23)] [] (hp_al (HH_ 22 [(1, 2)] d0_ 0) 17 10) = some (none, HH_ 49 [(1, 2)] dw_ 49) := by
  have T : ∀ (D' : dy_) (a : Nat), a ≤ 49 → hp_T (hq_ (qz_ 49 [(1, 2)]) D') a = (shp_ a).1 := fun D' a h => congrArg Prod.fst (if_pos h)
  have N : ∀ (D' : dy_) (a : Nat), a ≤ 49 → hp_N (hq_ (qz_ 49 [(1, 2)]) D') a = (shp_ a).2 := fun D' a h => congrArg Prod.snd (if_pos h)
  have R : ∀ (D' : dy_) (a k : Nat), a ≤ 49 → a ≠ 1 → hp_R (hq_ (qz_ 49 [(1, 2)]) D') a k = rr_ a k := fun D' a k h h1 => if_pos ⟨h, vis_n (show pn_ [(1, 2)] a = true by show (!(Nat.beq 1 a) && true) = true; rw [beq_n (fun q => h1 q.symm)]; rfl) k⟩
  have q1 : ev_ xs L mp_ (d + 4) 6 0 [(0, .ref 30), (1, .int 4), (2, .int 1)] [] (hq_ (qz_ 49 [(1, 2)]) (ex_ d0_ 0 49)) = some (none, hq_ (qz_ 49 [(1, 2)]) (de_ (ex_ d0_ 0 49) 30)) := qv_ok _ xs L (d + 4) 6 0 _ _ _ _ _ (c6_ (d := d + 1) (a := 30) rfl rfl rfl rfl rfl)
  have q2 : ev_ xs L mp_ (d + 4) 6 0 [(0, .ref 33), (1, .int 4), (2, .int 1)] [] (hq_ (qz_ 49 [(1, 2)]) (de_ (ex_ d0_ 0 49) 30)) = some (none, hq_ (qz_ 49 [(1, 2)]) (de_ (de_ (ex_ d0_ 0 49) 30) 33)) := qv_ok _ xs L (d + 4) 6 0 _ _ _ _ _ (c6_ (d := d + 1) (a := 33) rfl rfl rfl rfl rfl)
  rw [c63_, eq_63_111]
  rw [if_pos (hT_h (by decide) (by decide)), hR_h (by decide) (by decide), show rr_ 23 2 = 30 from rfl, if_neg (by decide), if_pos (hT_h (by decide) (by decide))]
  unfold HH_
  rw [q1, op_os]
  show op_vN none none _ = _
  rw [op_vNs]
  dsimp only
  rw [T _ 23 (by decide), if_pos (show (shp_ 23).1 = 17 from rfl), R _ 23 3 (by decide) (by decide), show rr_ 23 3 = 33 from rfl, if_neg (by decide), T _ 33 (by decide), if_pos (show (shp_ 33).1 = 11 from rfl), q2, op_os]
  show op_vN none none _ = _
  rw [op_vNs]
  dsimp only
  rw [T _ 23 (by decide), if_pos (show (shp_ 23).1 = 17 from rfl), R _ 23 3 (by decide) (by decide), show rr_ 23 3 = 33 from rfl, if_neg (by decide), T _ 33 (by decide), if_pos (show (shp_ 33).1 = 11 from rfl), R _ 33 1 (by decide) (by decide), show rr_ 33 1 = 35 from rfl, if_neg (by decide), T _ 35 (by decide), if_pos (show (shp_ 35).1 = 2 from rfl), N _ 35 (by decide)]
  rw [show mk_inb (0 : Int32) (shp_ 35).2 = fun (fl f : re_) => f from by funext fl f; exact if_neg (by decide)]
  rw [dw_ex, hsI_q, show (0 : Int32).toNatClampNeg = 0 from by decide, show vp_nar .boolean 1 = 1 from by decide]
  unfold dw_
  exact Eq.refl _
/-- three references of the reader -/
theorem sR3_ {a x y v : Nat} (ha : a ≤ z) (h2 : rr_ a 2 = x) (h0 : rr_ a 0 = y) (h1 : rr_ a 1 = v) (hp : pn_ P a = true) : hp_sR (hp_sR (hp_sR (HH_ z ((a, 0) :: P) D b) a 2 x) a 0 y) a 1 v = HH_ z ((a, 3) :: P) D b := by
  refine hp_ext rfl ?_ rfl rfl rfl rfl
  funext c
  show va_up (va_up (va_up (HH_ z ((a, 0) :: P) D b).2.1 a _) a _) a (va_up (va_up (va_up (HH_ z ((a, 0) :: P) D b).2.1 a (va_up ((HH_ z ((a, 0) :: P) D b).2.1 a) 2 x)) a (va_up (va_up (HH_ z ((a, 0) :: P) D b).2.1 a (va_up ((HH_ z ((a, 0) :: P) D b).2.1 a) 2 x) a) 0 y) a) 1 v) c = fun k => if c ≤ z ∧ vis_ ((a, 3) :: P) c k = true then rr_ c k else 0
  by_cases hx : c = a
  · subst hx
    rw [up_eq, up_eq, up_eq]
    funext k
    rw [vis_c, Nat.beq_refl, vis_n hp, Bool.and_true, Bool.not_true, Bool.false_or]
    have hz : (HH_ z ((c, 0) :: P) D b).2.1 c k = 0 := by
      show (if c ≤ z ∧ vis_ ((c, 0) :: P) c k = true then rr_ c k else 0) = 0
      rw [vis_0, if_neg (fun q => by cases q.2)]
    by_cases k1 : k = 1
    · subst k1
      rw [up_eq, if_pos ⟨ha, rfl⟩, h1]
    · rw [up_ne k1]
      by_cases k0 : k = 0
      · subst k0
        rw [up_eq, if_pos ⟨ha, rfl⟩, h0]
      · rw [up_ne k0]
        by_cases k2 : k = 2
        · subst k2
          rw [up_eq, if_pos ⟨ha, rfl⟩, h2]
        · rw [up_ne k2, hz, if_neg (fun q => absurd (Nat.le_of_ble_eq_true q.2) (by omega))]
  · rw [up_ne hx, up_ne hx, up_ne hx]
    show (fun k => if c ≤ z ∧ vis_ ((a, 0) :: P) c k = true then rr_ c k else 0) = _
    funext k
    rw [vis_o (fun q => hx q.symm), vis_o (fun q => hx q.symm)]
theorem skm_ {i : Nat} (h : i < 96) : rr_ 51 i = 52 + 3 * i ∧ 52 + 3 * i ∈ ml_ ∧ cap_ (52 + 3 * i) = 60 := (show ∀ i ∈ List.range 96, rr_ 51 i = 52 + 3 * i ∧ 52 + 3 * i ∈ ml_ ∧ cap_ (52 + 3 * i) = 60 from by decide +kernel) i (List.mem_range.mpr h)
/-- the reader's stack -/
theorem c27l : ∀ (n i : Nat), i + n = 96 → ev_ xs L mp_ (d + 2) 27 25 [(0, .ref 50), (3, .int (nI i))] [] (HH_ (51 + 3 * i) [(51, i), (1, 3)] D 49) = some (none, HH_ 339 [(1, 3)] D 49)
  | 0, i, h => by
    obtain rfl : i = 96 := by omega
    rw [eq_27_25, if_pos (by decide), dr_ (by decide) (by decide)]
  | n + 1, i, h => by
    obtain ⟨s1, s2, s3⟩ := skm_ (i := i) (by omega)
    have hv : vis_ [(51, i), (1, 3)] 50 2 = true := by
      rw [vis_o (by decide)]
      decide
    have hp : pza_ [(51, i), (1, 3)] (51 + 3 * i) = true := pza_c (by omega) (pza_c (by omega) rfl)
    have h5 := c5_ (xs := xs) (L := L) (d := d) (D := D) (b := 49) (z := 51 + 3 * i) (c := 60) (P := [(51, i), (1, 3)]) (by rw [show 51 + 3 * i + 1 = 52 + 3 * i from by omega]; exact s2) (by rw [show 51 + 3 * i + 1 = 52 + 3 * i from by omega]; exact s3) (by decide) (by omega) (by omega) hp
    have h5' : ev_ xs L mp_ (d + 1) 5 0 [(0, .ref (hp_z (HH_ (51 + 3 * i) [(51, i), (1, 3)] D 49) + 1)), (1, .int 60)] [] (hp_al (HH_ (51 + 3 * i) [(51, i), (1, 3)] D 49) 11 5) = some (none, HH_ (51 + 3 * i + 3) [(51, i), (1, 3)] D 49) := h5
    rw [eq_27_25, if_neg (by show ¬ nI 96 ≤ nI i; rw [nI_leI (by omega) (by omega)]; omega), if_pos (hT_h (by omega) (by decide)), hR_h (by omega) hv, show rr_ 50 2 = 51 from rfl, if_neg (by decide), hT_al, if_pos rfl, if_pos rfl, h5', op_os]
    show op_vN none none _ = _
    rw [op_vNs]
    show (if hp_T (HH_ (51 + 3 * i + 3) [(51, i), (1, 3)] D 49) 51 = 5 then mk_inb (nI i) (hp_N (HH_ (51 + 3 * i + 3) [(51, i), (1, 3)] D 49) 51) none (if hp_T (HH_ (51 + 3 * i + 3) [(51, i), (1, 3)] D 49) (51 + 3 * i + 1) = 11 then (ev_ xs L mp_ (d + 2) 27 25 [(0, .ref 50), (3, .int (nI i + nI 1))] [] (hp_sR (HH_ (51 + 3 * i + 3) [(51, i), (1, 3)] D 49) 51 (nI i).toNatClampNeg (51 + 3 * i + 1))) else none) else none) = _
    rw [if_pos (hT_h (by omega) (by decide)), hN_h (by omega), show (shp_ 51).2 = 96 from rfl, inb_ (by omega) (by omega), if_pos (hT_h (by omega) (by rw [show 51 + 3 * i + 1 = 52 + 3 * i from by omega]; exact congrArg Prod.fst (mM_ s2).1)), nI_clamp (by omega), nI_add]
    rw [sR_ (by omega) (Nat.le_refl _) (by rw [s1]; omega) (fun k hk q => absurd hk (by omega)) (by decide), show 51 + 3 * i + 3 = 51 + 3 * (i + 1) from by omega]
    exact c27l n (i + 1) (by omega)
theorem c27_ : ev_ xs L mp_ (d + 2) 27 0 [(0, .ref 50), (1, .ref 23), (2, .ref 21)] [] (hp_al (HH_ 49 [(1, 3)] D 49) 13 8) = some (none, HH_ 339 [(1, 3)] D 49) := by
  have e1 : HH_ 51 [(51, 0), (50, 0), (1, 3)] D 49 = HH_ 51 [(50, 0), (51, 0), (1, 3)] D 49 := swp_ _ _
  rw [al_ (by decide) (by decide) (by decide) (by decide), eq_27_0]
  rw [show (96 : Int32).toNatClampNeg = 96 from by decide, if_neg (by decide), al_ (z := 50) (by decide) (by decide) (by decide) (by decide)]
  show (if hp_T (HH_ 51 [(51, 0), (50, 0), (1, 3)] D 49) 50 = 13 then (if hp_T (HH_ 51 [(51, 0), (50, 0), (1, 3)] D 49) 51 = 5 then (if hp_T (HH_ 51 [(51, 0), (50, 0), (1, 3)] D 49) 50 = 13 then (if hp_T (HH_ 51 [(51, 0), (50, 0), (1, 3)] D 49) 23 = 17 then (if hp_T (HH_ 51 [(51, 0), (50, 0), (1, 3)] D 49) 50 = 13 then (if hp_T (HH_ 51 [(51, 0), (50, 0), (1, 3)] D 49) 21 = 15 then (ev_ xs L mp_ (d + 2) 27 23 [(0, .ref 50)] [] (hp_sR (hp_sR (hp_sR (HH_ 51 [(51, 0), (50, 0), (1, 3)] D 49) 50 2 51) 50 0 23) 50 1 21)) else none) else none) else none) else none) else none) else none) = _
  rw [if_pos (hT_h (by decide) (by decide)), if_pos (hT_h (by decide) (by decide)), if_pos (hT_h (by decide) (by decide)), if_pos (hT_h (by decide) (by decide)), if_pos (hT_h (by decide) (by decide)), if_pos (hT_h (by decide) (by decide))]
  rw [e1, sR3_ (by decide) (by decide) (by decide) (by decide) (by decide), dr_ (by decide) (by decide), eq_27_23]
  exact c27l 96 0 rfl
/-- the slots -/
theorem c81l : ∀ (n i : Nat), i + n = 6 → ev_ xs L mp_ (d + 2) 81 15 [(0, .ref 1), (1, .int (nI i))] [] (HH_ (2 + 3 * i) [(2, i), (1, 1)] D 0) = ev_ xs L mp_ (d + 2) 81 15 [(0, .ref 1), (1, .int 6)] [] (HH_ 20 [(1, 1)] D 0)
  | 0, i, h => by
    obtain rfl : i = 6 := by omega
    rw [dr_ (by decide) (by decide)]
    rfl
  | n + 1, i, h => by
    obtain ⟨s1, s2⟩ := sl_ (i := i) (by omega)
    have s3 := sl4_ (i := i) (by omega)
    have hv : vis_ [(2, i), (1, 1)] 1 0 = true := by
      rw [vis_o (by decide)]
      decide
    have hp : pza_ [(2, i), (1, 1)] (2 + 3 * i) = true := pza_c (by omega) (pza_c (by omega) rfl)
    have e3 : 2 + 3 * i + 1 = 3 + 3 * i := by omega
    have h5 := c5_ (xs := xs) (L := L) (d := d) (D := D) (b := 0) (z := 2 + 3 * i) (c := 60) (P := [(2, i), (1, 1)]) (by rw [e3]; exact s2) (by rw [e3]; exact s3) (by decide) (by omega) (by omega) hp
    have h5' : ev_ xs L mp_ (d + 1) 5 0 [(0, .ref (hp_z (HH_ (2 + 3 * i) [(2, i), (1, 1)] D 0) + 1)), (1, .int 60)] [] (hp_al (HH_ (2 + 3 * i) [(2, i), (1, 1)] D 0) 11 5) = some (none, HH_ (2 + 3 * i + 3) [(2, i), (1, 1)] D 0) := h5
    rw [eq_81_15, if_neg (by show ¬ nI 6 ≤ nI i; rw [nI_leI (by omega) (by omega)]; omega), if_pos (hT_h (by omega) (by decide)), hR_h (by omega) hv, show rr_ 1 0 = 2 from rfl, if_neg (by decide), hT_al, if_pos rfl, if_pos rfl, h5', op_os]
    show op_vN none none _ = _
    rw [op_vNs]
    show (if hp_T (HH_ (2 + 3 * i + 3) [(2, i), (1, 1)] D 0) 2 = 5 then mk_inb (nI i) (hp_N (HH_ (2 + 3 * i + 3) [(2, i), (1, 1)] D 0) 2) none (if hp_T (HH_ (2 + 3 * i + 3) [(2, i), (1, 1)] D 0) (2 + 3 * i + 1) = 11 then (ev_ xs L mp_ (d + 2) 81 15 [(0, .ref 1), (1, .int (nI i + nI 1))] [] (hp_sR (HH_ (2 + 3 * i + 3) [(2, i), (1, 1)] D 0) 2 (nI i).toNatClampNeg (2 + 3 * i + 1))) else none) else none) = _
    rw [if_pos (hT_h (by omega) (by decide)), hN_h (by omega), show (shp_ 2).2 = 6 from rfl, inb_ (by omega) (by omega), if_pos (hT_h (by omega) (by rw [e3]; exact congrArg Prod.fst (mM_ s2).1)), nI_clamp (by omega), nI_add]
    rw [sR_ (by omega) (Nat.le_refl _) (show rr_ 2 i = _ from by rw [show rr_ 2 i = 3 + 3 * i from s1]; omega) (fun k hk q => absurd hk (by omega)) (by decide), show 2 + 3 * i + 3 = 2 + 3 * (i + 1) from by omega]
    exact c81l n (i + 1) (by omega)
set_option maxHeartbeats 4000000 in
/-- the shop -/
theorem c81_ : ev_ xs L mp_ (d + 6) 81 0 [(0, .ref 1)] [] (hp_al (HH_ 0 [] d0_ 0) 18 6) = some (none, HH_ 350 [] dw_ 49) := by
  have e1 : HH_ 2 [(2, 0), (1, 0)] d0_ 0 = HH_ 2 [(1, 0), (2, 0)] d0_ 0 := swp_ _ _
  have e2 : HH_ 2 [(1, 1), (2, 0)] d0_ 0 = HH_ 2 [(2, 0), (1, 1)] d0_ 0 := swp_ _ _
  have t1 : hp_T (hp_al (HH_ 20 [(1, 1)] d0_ 0) 15 2) 21 = 15 := by
    rw [hT_al]
    exact if_pos rfl
  have t2 : hp_T (hp_al (HH_ 22 [(1, 2)] d0_ 0) 17 10) 23 = 17 := by
    rw [hT_al]
    exact if_pos rfl
  have t3 : hp_T (hp_al (HH_ 49 [(1, 3)] dw_ 49) 13 8) 50 = 13 := by
    rw [hT_al]
    exact if_pos rfl
  have t4 : hp_T (hp_al (HH_ 339 [(1, 4)] dw_ 49) 16 1) 340 = 16 := by
    rw [hT_al]
    exact if_pos rfl
  have t5 : hp_T (hp_al (HH_ 341 [(1, 5)] dw_ 49) 12 7) 342 = 12 := by
    rw [hT_al]
    exact if_pos rfl
  have t6 : ∀ P t n, hp_T (hp_al (HH_ 341 P dw_ 49) t n) 342 = t := by
    intro P t n
    rw [hT_al]
    exact if_pos rfl
  have t7 : ∀ P t n, hp_T (hp_al (HH_ 49 P dw_ 49) t n) 1 = 18 := by
    intro P t n
    rw [hT_al, hz_h, if_neg (by omega)]
    exact hT_h (by decide) (by decide)
  have t8 : ∀ P t n, hp_T (hp_al (HH_ 49 P dw_ 49) t n) 50 = t := by
    intro P t n
    rw [hT_al]
    exact if_pos rfl
  have r1 : ∀ t n, hp_R (hp_al (HH_ 49 [(1, 3)] dw_ 49) t n) 1 2 = 23 := fun t n => rfl
  have r2 : ∀ t n, hp_R (hp_al (HH_ 49 [(1, 3)] dw_ 49) t n) 1 1 = 21 := fun t n => rfl
  have n1 : (6 : Int32).toNatClampNeg = 6 := by decide
  rw [al_ (by decide) (by decide) (by decide) (by decide), eq_81_0, n1, if_neg (by decide), al_ (z := 0 + 1) (by decide) (by decide) (by decide) (by decide)]
  show (if hp_T (HH_ 2 [(2, 0), (1, 0)] d0_ 0) 1 = 18 then (if hp_T (HH_ 2 [(2, 0), (1, 0)] d0_ 0) 2 = 5 then (ev_ xs L mp_ (d + 6) 81 15 [(0, .ref 1), (1, .int (nI 0))] [] (hp_sR (HH_ 2 [(2, 0), (1, 0)] d0_ 0) 1 0 2)) else none) else none) = _
  rw [if_pos (hT_h (by decide) (by decide)), if_pos (hT_h (by decide) (by decide)), e1, sR_ (by decide) (by decide) (by decide) (by decide) (by decide), e2, show HH_ 2 [(2, 0), (1, 1)] d0_ 0 = HH_ (2 + 3 * 0) [(2, 0), (1, 1)] d0_ 0 from rfl, c81l (d := d + 4) 6 0 rfl, eq_81_15, if_pos (by decide)]
  simp (disch := first | omega | decide) only [hz_h, Nat.reduceAdd, t1, reduceIte, c49_, op_os, op_vNs, hT_e, sR_]
  rw [eq_81_53]
  simp (disch := first | omega | decide) only [hz_h, Nat.reduceAdd, t2, reduceIte, c63w (d := d), op_os, op_vNs, hT_e, sR_, t7, t8, r1, r2]
  simp (disch := first | omega | decide) only [hz_h, Nat.reduceAdd, Nat.reduceEqDiff, t3, reduceIte, c27_ (d := d + 3), op_os, op_vNs, hT_e, sR_]
  rw [eq_81_83]
  simp (disch := first | omega | decide) only [hz_h, Nat.reduceAdd, t4, reduceIte, c55_, op_os, op_vNs, hT_e, sR_, t6]
  simp (disch := first | omega | decide) only [hz_h, Nat.reduceAdd, t5, reduceIte, c15_ (d := d + 3), op_os, op_vNs, hT_e, sR_, eq_81_105, dr_]
end
