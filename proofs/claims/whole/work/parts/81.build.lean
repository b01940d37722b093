/-! THE CONSTRUCTORS: the store grows into the shape -/
theorem rr_big (n k : Nat) (h : 96 ≤ k) : rr_ n k = 0 := by
  have hb : ∀ c, c ≤ 96 → Nat.ble c k = true := fun c hc => Nat.ble_eq_true_of_le (by omega)
  have hq : ∀ c, c < 96 → Nat.beq k c = false := fun c hc => by
    cases e : Nat.beq k c
    · rfl
    · have := Nat.eq_of_beq_eq_true e
      omega
  simp (disch := omega) only [rr_, hb, hq, cond_true, cond_false, Bool.cond_self]
/-- how many slots of a cell may hold references -/
def rl_ (n : Nat) : Nat := if (shp_ n).1 < 5 then 0 else if (shp_ n).1 = 11 then 2 else if (shp_ n).1 = 10 then 4 else if (shp_ n).1 = 12 then 6 else if (shp_ n).1 = 13 then 3 else if (shp_ n).1 = 14 then 4 else if (shp_ n).1 = 15 then 1 else (shp_ n).2
theorem rr_z0 : ∀ n ∈ List.range 386, ∀ k ∈ List.range 96, rl_ n ≤ k → rr_ n k = 0 := by decide +kernel
theorem rr_z {n k : Nat} (hn : n ≤ 385) (h : rl_ n ≤ k) : rr_ n k = 0 := by
  by_cases hk : 96 ≤ k
  · exact rr_big n k hk
  · exact rr_z0 n (List.mem_range.mpr (by omega)) k (List.mem_range.mpr (by omega)) h
def vis_ (P : List (Nat × Nat)) (a k : Nat) : Bool := P.all (fun q => !(Nat.beq q.1 a) || Nat.blt k q.2)
def szz_ : Nat → Nat
  | 0 => 0
  | n + 1 => szz_ n + (shp_ (n + 1)).2
def qz_ (z : Nat) (P : List (Nat × Nat)) : qs_ := (fun n => if n ≤ z then shp_ n else (0, 0), fun a k => if a ≤ z ∧ vis_ P a k = true then rr_ a k else 0, z, szz_ z)
def ex_ (D : dy_) (b z : Nat) : dy_ := (fun a k => if a ≤ b then D.1 a k else if a ≤ z ∧ (shp_ a).1 = 11 ∧ (k = 2 ∨ k = 3) then 1 else 0, fun a k => if a ≤ b then D.2 a k else 0)
def HH_ (z : Nat) (P : List (Nat × Nat)) (D : dy_) (b : Nat) : hp_ := hq_ (qz_ z P) (ex_ D b z)
def pza_ (P : List (Nat × Nat)) (z : Nat) : Bool := P.all (fun q => Nat.ble q.1 z)
def pn_ (P : List (Nat × Nat)) (a : Nat) : Bool := P.all (fun q => !(Nat.beq q.1 a))
section
variable {z : Nat} {P : List (Nat × Nat)} {D : dy_} {b : Nat}
theorem beq_n {a c : Nat} (h : a ≠ c) : Nat.beq a c = false := by
  cases e : Nat.beq a c
  · rfl
  · exact absurd (Nat.eq_of_beq_eq_true e) h
theorem vis_c (a s x k : Nat) : vis_ ((a, s) :: P) x k = ((!(Nat.beq a x) || Nat.blt k s) && vis_ P x k) := rfl
theorem vis_n {a : Nat} (h : pn_ P a = true) (k : Nat) : vis_ P a k = true := by
  refine List.all_eq_true.mpr fun q hq => ?_
  have := List.all_eq_true.mp h q hq
  rw [this]
  rfl
theorem pn_z {a : Nat} (h : pza_ P z = true) (ha : z < a) : pn_ P a = true := by
  refine List.all_eq_true.mpr fun q hq => ?_
  have := Nat.le_of_ble_eq_true (List.all_eq_true.mp h q hq)
  rw [beq_n (by omega)]
  rfl
theorem vis_0 {x k : Nat} : vis_ ((x, 0) :: P) x k = false := by
  rw [vis_c, Nat.beq_refl, show Nat.blt k 0 = false from rfl]
  rfl
theorem vis_o {a x s k : Nat} (h : a ≠ x) : vis_ ((a, s) :: P) x k = vis_ P x k := by
  rw [vis_c, beq_n h]
  rfl
theorem ex_hi (hb : b ≤ z) : (ex_ D b z).1 (z + 1) = fun _ => 0 := by
  funext k
  show (if z + 1 ≤ b then _ else if z + 1 ≤ z ∧ _ then _ else _) = _
  rw [if_neg (by omega), if_neg (by omega)]
theorem ex_s (h : (shp_ (z + 1)).1 ≠ 11) (hb : b ≤ z) : ex_ D b (z + 1) = ex_ D b z := by
  refine Prod.ext ?_ rfl
  funext a k
  show (if a ≤ b then _ else if a ≤ z + 1 ∧ _ then _ else _) = if a ≤ b then _ else if a ≤ z ∧ _ then _ else _
  by_cases ha : a = z + 1
  · subst ha
    have h1 : ¬ z + 1 ≤ b := by omega
    rw [if_neg h1, if_neg h1, if_neg (fun q => h q.2.1), if_neg (fun q => h q.2.1)]
  · by_cases h1 : a ≤ z
    · have h2 : a ≤ z + 1 := by omega
      simp only [h1, h2]
    · have h2 : ¬ a ≤ z + 1 := by omega
      simp only [h1, h2]
theorem up_same {α : Type} {f : Nat → α} {k : Nat} {v : α} (h : f k = v) : va_up f k v = f := by
  funext x
  by_cases e : x = k
  · subst e
    rw [up_eq, h]
  · rw [up_ne e]
theorem hp_ext {h h' : hp_} (h1 : h.1 = h'.1) (h2 : h.2.1 = h'.2.1) (h3 : h.2.2.1 = h'.2.2.1) (h4 : h.2.2.2.1 = h'.2.2.2.1) (h5 : h.2.2.2.2.1 = h'.2.2.2.2.1) (h6 : h.2.2.2.2.2 = h'.2.2.2.2.2) : h = h' := Prod.ext h1 (Prod.ext h2 (Prod.ext h3 (Prod.ext h4 (Prod.ext h5 h6))))
theorem al_x {t n : Nat} (hs : shp_ (z + 1) = (t, n)) (hb : b ≤ z) (hp : pza_ P z = true) : hp_al (HH_ z P D b) t n = hq_ (qz_ (z + 1) ((z + 1, 0) :: P)) (ex_ D b z) := by
  refine hp_ext ?_ ?_ ?_ ?_ rfl ?_
  · funext a
    show va_up (fun n => if n ≤ z then shp_ n else (0, 0)) (z + 1) (t, n) a = if a ≤ z + 1 then shp_ a else (0, 0)
    by_cases ha : a = z + 1
    · subst ha
      rw [up_eq, if_pos (Nat.le_refl _), hs]
    · rw [up_ne ha]
      show (if a ≤ z then shp_ a else (0, 0)) = _
      by_cases h1 : a ≤ z
      · rw [if_pos h1, if_pos (by omega)]
      · rw [if_neg h1, if_neg (by omega)]
  · funext a
    show va_up (fun a k => if a ≤ z ∧ vis_ P a k = true then rr_ a k else 0) (z + 1) (fun _ => 0) a = fun k => if a ≤ z + 1 ∧ vis_ ((z + 1, 0) :: P) a k = true then rr_ a k else 0
    by_cases ha : a = z + 1
    · subst ha
      rw [up_eq]
      funext k
      rw [vis_0, if_neg (fun q => by cases q.2)]
    · rw [up_ne ha]
      funext k
      rw [vis_o (fun q => ha q.symm)]
      by_cases h1 : a ≤ z
      · have h2 : a ≤ z + 1 := by omega
        simp only [h1, h2]
      · have h2 : ¬ a ≤ z + 1 := by omega
        simp only [h1, h2]
  · exact up_same (ex_hi hb)
  · refine up_same ?_
    funext k
    exact if_neg (show ¬ z + 1 ≤ b by omega)
  · show szz_ z + n = szz_ z + (shp_ (z + 1)).2
    rw [hs]
theorem al_ {t n : Nat} (hs : shp_ (z + 1) = (t, n)) (ht : t ≠ 11) (hb : b ≤ z) (hp : pza_ P z = true) : hp_al (HH_ z P D b) t n = HH_ (z + 1) ((z + 1, 0) :: P) D b := by
  rw [al_x hs hb hp]
  unfold HH_
  rw [ex_s (by rw [hs]; exact ht) hb]
theorem dr_ {a s : Nat} (ha : a ≤ 385) (h : rl_ a ≤ s) : HH_ z ((a, s) :: P) D b = HH_ z P D b := by
  refine hp_ext rfl ?_ rfl rfl rfl rfl
  funext x k
  show (if x ≤ z ∧ vis_ ((a, s) :: P) x k = true then rr_ x k else 0) = if x ≤ z ∧ vis_ P x k = true then rr_ x k else 0
  by_cases hx : a = x
  · subst hx
    by_cases hk : k < s
    · rw [vis_c, show Nat.blt k s = true from Nat.ble_eq_true_of_le hk, Bool.or_true, Bool.true_and]
    · rw [rr_z ha (by omega)]
      rw [ite_self, ite_self]
  · rw [vis_o hx]
theorem al0_ {t n : Nat} (hs : shp_ (z + 1) = (t, n)) (ht : t < 5) (hz : z < 385) (hb : b ≤ z) (hp : pza_ P z = true) : hp_al (HH_ z P D b) t n = HH_ (z + 1) P D b := by
  rw [al_ hs (by omega) hb hp, dr_ (by omega)]
  unfold rl_
  rw [hs, if_pos ht]
  exact Nat.zero_le _
theorem alM_ (hs : shp_ (z + 1) = (11, 5)) (hb : b ≤ z) (hp : pza_ P z = true) : hp_sI (hp_sI (hp_al (HH_ z P D b) 11 5) (z + 1) 2 1) (z + 1) 3 1 = HH_ (z + 1) ((z + 1, 0) :: P) D b := by
  rw [al_x hs hb hp]
  refine hp_ext rfl rfl ?_ rfl rfl rfl
  funext a
  show va_up (va_up (ex_ D b z).1 (z + 1) (va_up ((ex_ D b z).1 (z + 1)) 2 1)) (z + 1) (va_up (va_up (ex_ D b z).1 (z + 1) (va_up ((ex_ D b z).1 (z + 1)) 2 1) (z + 1)) 3 1) a = (ex_ D b (z + 1)).1 a
  by_cases ha : a = z + 1
  · subst ha
    rw [up_eq, up_eq, ex_hi hb]
    funext k
    show _ = if z + 1 ≤ b then _ else if z + 1 ≤ z + 1 ∧ (shp_ (z + 1)).1 = 11 ∧ (k = 2 ∨ k = 3) then 1 else 0
    rw [if_neg (by omega), hs]
    by_cases h2 : k = 2
    · subst h2
      rw [up_ne (by omega), up_eq, if_pos ⟨Nat.le_refl _, rfl, Or.inl rfl⟩]
    · by_cases h3 : k = 3
      · subst h3
        rw [up_eq, if_pos ⟨Nat.le_refl _, rfl, Or.inr rfl⟩]
      · rw [up_ne h3, up_ne h2, if_neg (by omega)]
  · rw [up_ne ha, up_ne ha]
    funext k
    show (if a ≤ b then _ else if a ≤ z ∧ _ then _ else _) = if a ≤ b then _ else if a ≤ z + 1 ∧ _ then _ else _
    by_cases h1 : a ≤ z
    · have h2 : a ≤ z + 1 := by omega
      simp only [h1, h2]
    · have h2 : ¬ a ≤ z + 1 := by omega
      simp only [h1, h2]
theorem sR_ {a s i v : Nat} (ha : a ≤ z) (hs : s ≤ i) (hv : rr_ a i = v) (hm : ∀ k, k < i → s ≤ k → rr_ a k = 0) (hp : pn_ P a = true) : hp_sR (HH_ z ((a, s) :: P) D b) a i v = HH_ z ((a, i + 1) :: P) D b := by
  refine hp_ext rfl ?_ rfl rfl rfl rfl
  funext x
  show va_up (fun a' k => if a' ≤ z ∧ vis_ ((a, s) :: P) a' k = true then rr_ a' k else 0) a (va_up (fun k => if a ≤ z ∧ vis_ ((a, s) :: P) a k = true then rr_ a k else 0) i v) x = fun k => if x ≤ z ∧ vis_ ((a, i + 1) :: P) x k = true then rr_ x k else 0
  by_cases hx : x = a
  · subst hx
    rw [up_eq]
    funext k
    rw [vis_c, Nat.beq_refl, vis_n hp, Bool.and_true, Bool.not_true, Bool.false_or]
    by_cases hk : k = i
    · subst hk
      rw [up_eq, if_pos ⟨ha, Nat.ble_eq_true_of_le (Nat.le_refl _)⟩, hv]
    · rw [up_ne hk]
      show (if x ≤ z ∧ vis_ ((x, s) :: P) x k = true then rr_ x k else 0) = _
      rw [vis_c, Nat.beq_refl, vis_n hp, Bool.and_true, Bool.not_true, Bool.false_or]
      by_cases h1 : k < s
      · rw [if_pos ⟨ha, Nat.ble_eq_true_of_le h1⟩, if_pos ⟨ha, Nat.ble_eq_true_of_le (by omega)⟩]
      · rw [if_neg (fun q => h1 (Nat.le_of_ble_eq_true q.2))]
        by_cases h2 : k < i
        · rw [hm k h2 (by omega), ite_self]
        · rw [if_neg (fun q => absurd (Nat.le_of_ble_eq_true q.2) (by omega))]
  · rw [up_ne hx]
    funext k
    rw [vis_o (fun q => hx q.symm), vis_o (fun q => hx q.symm)]
theorem hT_h {a t : Nat} (ha : a ≤ z) (ht : (shp_ a).1 = t) : hp_T (HH_ z P D b) a = t := by
  show (if a ≤ z then shp_ a else (0, 0)).1 = t
  rw [if_pos ha, ht]
theorem hT_e {a t : Nat} (ha : a ≤ z) (ht : (shp_ a).1 = t) : (hp_T (HH_ z P D b) a = t) ↔ True := ⟨fun _ => trivial, fun _ => hT_h ha ht⟩
theorem hN_h {a : Nat} (ha : a ≤ z) : hp_N (HH_ z P D b) a = (shp_ a).2 := by
  show (if a ≤ z then shp_ a else (0, 0)).2 = _
  rw [if_pos ha]
theorem hR_h {a k : Nat} (ha : a ≤ z) (hv : vis_ P a k = true) : hp_R (HH_ z P D b) a k = rr_ a k := if_pos ⟨ha, hv⟩
theorem hz_h : hp_z (HH_ z P D b) = z := rfl
theorem hT_sR {h : hp_} {a i v x : Nat} : hp_T (hp_sR h a i v) x = hp_T h x := rfl
theorem hT_sI {h : hp_} {a i x : Nat} {v : Int32} : hp_T (hp_sI h a i v) x = hp_T h x := rfl
theorem hT_al {h : hp_} {t n x : Nat} : hp_T (hp_al h t n) x = if x = hp_z h + 1 then t else hp_T h x := by
  show (va_up h.1 (h.2.2.2.2.1 + 1) (t, n) x).1 = if x = h.2.2.2.2.1 + 1 then t else (h.1 x).1
  by_cases e : x = h.2.2.2.2.1 + 1
  · rw [if_pos e, e, up_eq]
  · rw [if_neg e, up_ne e]
theorem hz_al {h : hp_} {t n : Nat} : hp_z (hp_al h t n) = hp_z h + 1 := rfl
theorem hz_sR {h : hp_} {a i v : Nat} : hp_z (hp_sR h a i v) = hp_z h := rfl
theorem hz_sI {h : hp_} {a i : Nat} {v : Int32} : hp_z (hp_sI h a i v) = hp_z h := rfl
end
