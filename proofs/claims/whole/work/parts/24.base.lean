def ml_ : List Nat := [3, 6, 9, 12, 15, 18, 24, 27, 30, 33, 52, 55, 58, 61, 64, 67, 70, 73, 76, 79, 82, 85, 88, 91, 94, 97, 100, 103, 106, 109, 112, 115, 118, 121, 124, 127, 130, 133, 136, 139, 142, 145, 148, 151, 154, 157, 160, 163, 166, 169, 172, 175, 178, 181, 184, 187, 190, 193, 196, 199, 202, 205, 208, 211, 214, 217, 220, 223, 226, 229, 232, 235, 238, 241, 244, 247, 250, 253, 256, 259, 262, 265, 268, 271, 274, 277, 280, 283, 286, 289, 292, 295, 298, 301, 304, 307, 310, 313, 316, 319, 322, 325, 328, 331, 334, 337, 343]
/-- how many states a machine has room for -/
def cap_ (a : Nat) : Nat := (sh_.1 (a + 2)).2
set_option maxRecDepth 100000 in
theorem mM_ {a : Nat} (h : a ∈ ml_) : sh_.1 a = (11, 5) ∧ sh_.2.1 a 0 = a + 1 ∧ sh_.2.1 a 1 = a + 2 ∧ sh_.1 (a + 1) = (1, 4 * cap_ a) ∧ sh_.1 (a + 2) = (2, cap_ a) ∧ cap_ a ≤ 3600 := (show ∀ a ∈ ml_, sh_.1 a = (11, 5) ∧ sh_.2.1 a 0 = a + 1 ∧ sh_.2.1 a 1 = a + 2 ∧ sh_.1 (a + 1) = (1, 4 * cap_ a) ∧ sh_.1 (a + 2) = (2, cap_ a) ∧ cap_ a ≤ 3600 from by decide +kernel) a h
theorem sf_1 : sh_.1 1 = (18, 6) := rfl
theorem rf_1_0 : sh_.2.1 1 0 = 2 := rfl
theorem rf_1_1 : sh_.2.1 1 1 = 21 := rfl
theorem rf_1_2 : sh_.2.1 1 2 = 23 := rfl
theorem rf_1_3 : sh_.2.1 1 3 = 50 := rfl
theorem rf_1_4 : sh_.2.1 1 4 = 340 := rfl
theorem rf_1_5 : sh_.2.1 1 5 = 342 := rfl
theorem sf_2 : sh_.1 2 = (5, 6) := rfl
theorem sf_21 : sh_.1 21 = (15, 2) := rfl
theorem rf_21_0 : sh_.2.1 21 0 = 22 := rfl
theorem sf_22 : sh_.1 22 = (1, 500) := rfl
theorem sf_23 : sh_.1 23 = (17, 10) := rfl
theorem rf_23_0 : sh_.2.1 23 0 = 24 := rfl
theorem rf_23_1 : sh_.2.1 23 1 = 27 := rfl
theorem rf_23_2 : sh_.2.1 23 2 = 30 := rfl
theorem rf_23_3 : sh_.2.1 23 3 = 33 := rfl
theorem rf_23_4 : sh_.2.1 23 4 = 36 := rfl
theorem rf_23_5 : sh_.2.1 23 5 = 41 := rfl
theorem rf_23_6 : sh_.2.1 23 6 = 46 := rfl
theorem rf_23_7 : sh_.2.1 23 7 = 47 := rfl
theorem rf_23_8 : sh_.2.1 23 8 = 48 := rfl
theorem rf_23_9 : sh_.2.1 23 9 = 49 := rfl
theorem sf_24 : sh_.1 24 = (11, 5) := rfl
theorem rf_24_0 : sh_.2.1 24 0 = 25 := rfl
theorem rf_24_1 : sh_.2.1 24 1 = 26 := rfl
theorem sf_25 : sh_.1 25 = (1, 14400) := rfl
theorem sf_26 : sh_.1 26 = (2, 3600) := rfl
theorem sf_27 : sh_.1 27 = (11, 5) := rfl
theorem rf_27_0 : sh_.2.1 27 0 = 28 := rfl
theorem rf_27_1 : sh_.2.1 27 1 = 29 := rfl
theorem sf_28 : sh_.1 28 = (1, 240) := rfl
theorem sf_29 : sh_.1 29 = (2, 60) := rfl
theorem sf_30 : sh_.1 30 = (11, 5) := rfl
theorem rf_30_0 : sh_.2.1 30 0 = 31 := rfl
theorem rf_30_1 : sh_.2.1 30 1 = 32 := rfl
theorem sf_31 : sh_.1 31 = (1, 4) := rfl
theorem sf_32 : sh_.1 32 = (2, 1) := rfl
theorem sf_33 : sh_.1 33 = (11, 5) := rfl
theorem rf_33_0 : sh_.2.1 33 0 = 34 := rfl
theorem rf_33_1 : sh_.2.1 33 1 = 35 := rfl
theorem sf_34 : sh_.1 34 = (1, 4) := rfl
theorem sf_35 : sh_.1 35 = (2, 1) := rfl
theorem sf_36 : sh_.1 36 = (14, 5) := rfl
theorem rf_36_0 : sh_.2.1 36 0 = 37 := rfl
theorem rf_36_1 : sh_.2.1 36 1 = 38 := rfl
theorem rf_36_2 : sh_.2.1 36 2 = 39 := rfl
theorem rf_36_3 : sh_.2.1 36 3 = 40 := rfl
theorem sf_37 : sh_.1 37 = (4, 500) := rfl
theorem sf_38 : sh_.1 38 = (1, 500) := rfl
theorem sf_39 : sh_.1 39 = (1, 500) := rfl
theorem sf_40 : sh_.1 40 = (1, 512) := rfl
theorem sf_41 : sh_.1 41 = (10, 7) := rfl
theorem rf_41_0 : sh_.2.1 41 0 = 42 := rfl
theorem rf_41_1 : sh_.2.1 41 1 = 43 := rfl
theorem rf_41_2 : sh_.2.1 41 2 = 44 := rfl
theorem rf_41_3 : sh_.2.1 41 3 = 45 := rfl
theorem sf_42 : sh_.1 42 = (1, 3600) := rfl
theorem sf_43 : sh_.1 43 = (1, 3600) := rfl
theorem sf_44 : sh_.1 44 = (1, 3840) := rfl
theorem sf_45 : sh_.1 45 = (1, 3840) := rfl
theorem sf_46 : sh_.1 46 = (1, 3600) := rfl
theorem sf_47 : sh_.1 47 = (1, 3840) := rfl
theorem sf_48 : sh_.1 48 = (1, 3600) := rfl
theorem sf_49 : sh_.1 49 = (4, 4) := rfl
theorem sf_50 : sh_.1 50 = (13, 8) := rfl
theorem rf_50_0 : sh_.2.1 50 0 = 23 := rfl
theorem rf_50_1 : sh_.2.1 50 1 = 21 := rfl
theorem rf_50_2 : sh_.2.1 50 2 = 51 := rfl
theorem sf_51 : sh_.1 51 = (5, 96) := rfl
theorem sf_340 : sh_.1 340 = (16, 1) := rfl
theorem rf_340_0 : sh_.2.1 340 0 = 341 := rfl
theorem sf_341 : sh_.1 341 = (4, 1860) := rfl
theorem sf_342 : sh_.1 342 = (12, 7) := rfl
theorem rf_342_0 : sh_.2.1 342 0 = 343 := rfl
theorem rf_342_1 : sh_.2.1 342 1 = 346 := rfl
theorem rf_342_2 : sh_.2.1 342 2 = 347 := rfl
theorem rf_342_3 : sh_.2.1 342 3 = 348 := rfl
theorem rf_342_4 : sh_.2.1 342 4 = 349 := rfl
theorem rf_342_5 : sh_.2.1 342 5 = 350 := rfl
theorem sf_343 : sh_.1 343 = (11, 5) := rfl
theorem rf_343_0 : sh_.2.1 343 0 = 344 := rfl
theorem rf_343_1 : sh_.2.1 343 1 = 345 := rfl
theorem sf_344 : sh_.1 344 = (1, 240) := rfl
theorem sf_345 : sh_.1 345 = (2, 60) := rfl
theorem sf_346 : sh_.1 346 = (1, 24000) := rfl
theorem sf_347 : sh_.1 347 = (1, 400) := rfl
theorem sf_348 : sh_.1 348 = (1, 512) := rfl
theorem sf_349 : sh_.1 349 = (1, 60) := rfl
theorem sf_350 : sh_.1 350 = (1, 60) := rfl
theorem sf_351 : sh_.1 351 = (19, 52) := rfl
theorem rf_351_1 : sh_.2.1 351 1 = 352 := rfl
theorem rf_351_2 : sh_.2.1 351 2 = 353 := rfl
theorem rf_351_3 : sh_.2.1 351 3 = 354 := rfl
theorem rf_351_4 : sh_.2.1 351 4 = 355 := rfl
theorem rf_351_5 : sh_.2.1 351 5 = 356 := rfl
theorem rf_351_6 : sh_.2.1 351 6 = 357 := rfl
theorem rf_351_10 : sh_.2.1 351 10 = 358 := rfl
theorem rf_351_11 : sh_.2.1 351 11 = 359 := rfl
theorem rf_351_12 : sh_.2.1 351 12 = 360 := rfl
theorem rf_351_13 : sh_.2.1 351 13 = 361 := rfl
theorem rf_351_14 : sh_.2.1 351 14 = 362 := rfl
theorem rf_351_15 : sh_.2.1 351 15 = 363 := rfl
theorem rf_351_16 : sh_.2.1 351 16 = 364 := rfl
theorem rf_351_17 : sh_.2.1 351 17 = 365 := rfl
theorem rf_351_19 : sh_.2.1 351 19 = 366 := rfl
theorem rf_351_20 : sh_.2.1 351 20 = 367 := rfl
theorem rf_351_21 : sh_.2.1 351 21 = 368 := rfl
theorem rf_351_23 : sh_.2.1 351 23 = 369 := rfl
theorem rf_351_26 : sh_.2.1 351 26 = 370 := rfl
theorem rf_351_27 : sh_.2.1 351 27 = 371 := rfl
theorem rf_351_28 : sh_.2.1 351 28 = 372 := rfl
theorem rf_351_29 : sh_.2.1 351 29 = 373 := rfl
theorem rf_351_30 : sh_.2.1 351 30 = 374 := rfl
theorem rf_351_33 : sh_.2.1 351 33 = 375 := rfl
theorem rf_351_34 : sh_.2.1 351 34 = 376 := rfl
theorem rf_351_39 : sh_.2.1 351 39 = 377 := rfl
theorem rf_351_40 : sh_.2.1 351 40 = 378 := rfl
theorem rf_351_41 : sh_.2.1 351 41 = 379 := rfl
theorem rf_351_42 : sh_.2.1 351 42 = 380 := rfl
theorem rf_351_44 : sh_.2.1 351 44 = 381 := rfl
theorem rf_351_45 : sh_.2.1 351 45 = 382 := rfl
theorem rf_351_46 : sh_.2.1 351 46 = 383 := rfl
theorem rf_351_50 : sh_.2.1 351 50 = 384 := rfl
theorem rf_351_51 : sh_.2.1 351 51 = 385 := rfl
theorem sf_352 : sh_.1 352 = (1, 110) := rfl
theorem sf_353 : sh_.1 353 = (1, 110) := rfl
theorem sf_354 : sh_.1 354 = (1, 110) := rfl
theorem sf_355 : sh_.1 355 = (1, 26400) := rfl
theorem sf_356 : sh_.1 356 = (2, 6600) := rfl
theorem sf_357 : sh_.1 357 = (3, 500) := rfl
theorem sf_358 : sh_.1 358 = (1, 14400) := rfl
theorem sf_359 : sh_.1 359 = (2, 3600) := rfl
theorem sf_360 : sh_.1 360 = (1, 3600) := rfl
theorem sf_361 : sh_.1 361 = (1, 3600) := rfl
theorem sf_362 : sh_.1 362 = (1, 3600) := rfl
theorem sf_363 : sh_.1 363 = (1, 3600) := rfl
theorem sf_364 : sh_.1 364 = (1, 16384) := rfl
theorem sf_365 : sh_.1 365 = (1, 16384) := rfl
theorem sf_366 : sh_.1 366 = (1, 3600) := rfl
theorem sf_367 : sh_.1 367 = (1, 14400) := rfl
theorem sf_368 : sh_.1 368 = (2, 3600) := rfl
theorem sf_369 : sh_.1 369 = (1, 60) := rfl
theorem sf_370 : sh_.1 370 = (1, 2000) := rfl
theorem sf_371 : sh_.1 371 = (1, 2000) := rfl
theorem sf_372 : sh_.1 372 = (2, 60) := rfl
theorem sf_373 : sh_.1 373 = (4, 501) := rfl
theorem sf_374 : sh_.1 374 = (1, 501) := rfl
theorem sf_375 : sh_.1 375 = (1, 3600) := rfl
theorem sf_376 : sh_.1 376 = (2, 64) := rfl
theorem sf_377 : sh_.1 377 = (1, 40) := rfl
theorem sf_378 : sh_.1 378 = (2, 40) := rfl
theorem sf_379 : sh_.1 379 = (2, 40) := rfl
theorem sf_380 : sh_.1 380 = (2, 40) := rfl
theorem sf_381 : sh_.1 381 = (1, 3600) := rfl
theorem sf_382 : sh_.1 382 = (1, 3600) := rfl
theorem sf_383 : sh_.1 383 = (4, 1860) := rfl
theorem sf_384 : sh_.1 384 = (1, 24060) := rfl
theorem sf_385 : sh_.1 385 = (1, 240) := rfl
theorem sl_ {i : Nat} (h : i < 6) : sh_.2.1 2 i = 3 + 3 * i ∧ 3 + 3 * i ∈ ml_ := (show ∀ i ∈ List.range 6, sh_.2.1 2 i = 3 + 3 * i ∧ 3 + 3 * i ∈ ml_ from by decide +kernel) i (List.mem_range.mpr h)
theorem sk_ {i : Nat} (h : i < 96) : sh_.2.1 51 i = 52 + 3 * i ∧ 52 + 3 * i ∈ ml_ := (show ∀ i ∈ List.range 96, sh_.2.1 51 i = 52 + 3 * i ∧ 52 + 3 * i ∈ ml_ from by decide +kernel) i (List.mem_range.mpr h)
theorem inb_ {ρ : Type} {n N : Nat} (h : n < N) (hN : N < 2 ^ 31) (fl f : ρ) : mk_inb (nI n) N fl f = f := if_neg (nI_in h hN)
theorem op_os {ρ α : Type} (a : α) (fl : ρ) (f : α → ρ) : op_o (some a) fl f = f a := rfl
theorem op_vIs {ρ : Type} (n : Int32) (fl : ρ) (f : Int32 → ρ) : op_vI (some (.int n)) fl f = f n := rfl
theorem op_vLs {ρ : Type} (n : Int64) (fl : ρ) (f : Int64 → ρ) : op_vL (some (.long n)) fl f = f n := rfl
theorem op_vRs {ρ : Type} (n : Nat) (fl : ρ) (f : Nat → ρ) : op_vR (some (.ref n)) fl f = f n := rfl
theorem op_vNs {ρ : Type} (fl f : ρ) : op_vN none fl f = f := rfl
theorem dI_at (D : dy_) (a i : Nat) (v : Int32) (b j : Nat) : (dI_ D a i v).1 b j = if b = a ∧ j = i then v else D.1 b j := by
  unfold dI_ va_up
  by_cases h1 : b = a
  · subst h1
    by_cases h2 : j = i
    · simp [h2]
    · simp [h2]
  · simp [h1]
theorem dL_at (D : dy_) (a i : Nat) (v : Int64) (b j : Nat) : (dL_ D a i v).2 b j = if b = a ∧ j = i then v else D.2 b j := by
  unfold dL_ va_up
  by_cases h1 : b = a
  · subst h1
    by_cases h2 : j = i
    · simp [h2]
    · simp [h2]
  · simp [h1]
theorem dI_2 (D : dy_) (a i : Nat) (v : Int32) : (dI_ D a i v).2 = D.2 := rfl
theorem dL_1 (D : dy_) (a i : Nat) (v : Int64) : (dL_ D a i v).1 = D.1 := rfl
section LEAF
variable {xs : Nat → Int32} {L d : Nat} {D : dy_} {a : Nat}
/-- Machine.next -/
theorem m_next (ha : a ∈ ml_) {k s l : Nat} (hk : D.1 a 2 = nI k) (hb : s * k + l < 4 * cap_ a) : qv_ sh_ xs L (d + 1) 9 0 [(0, .ref a), (1, .int (nI s)), (2, .int (nI l))] [] D = some (some (.int (D.1 (a + 1) (s * k + l))), D) := by
  obtain ⟨h1, h2, h3, h4, h5, h6⟩ := mM_ ha
  have hc : s * k + l < 2 ^ 31 := by omega
  rw [q_9_0]
  simp only [h1, h2, h4, hk, pk_mul, nI_add, reduceIte, Nat.add_one_ne_zero]
  rw [inb_ hb (by omega), nI_clamp hc]
/-- Machine.lead -/
theorem m_lead (ha : a ∈ ml_) {k s l : Nat} {t : Int32} (hk : D.1 a 2 = nI k) (hb : s * k + l < 4 * cap_ a) : qv_ sh_ xs L (d + 1) 10 0 [(0, .ref a), (1, .int (nI s)), (2, .int (nI l)), (3, .int t)] [] D = some (none, dI_ D (a + 1) (s * k + l) t) := by
  obtain ⟨h1, h2, h3, h4, h5, h6⟩ := mM_ ha
  have hc : s * k + l < 2 ^ 31 := by omega
  rw [q_10_0]
  simp only [h1, h2, h4, hk, pk_mul, nI_add, reduceIte, Nat.add_one_ne_zero]
  rw [inb_ hb (by omega), nI_clamp hc]
/-- Machine.hasState -/
theorem m_hasState (ha : a ∈ ml_) {n : Nat} (hn : D.1 a 3 = nI n) (hn' : n < 2 ^ 31) (x : Int32) : qv_ sh_ xs L (d + 1) 7 0 [(0, .ref a), (1, .int x)] [] D = some (some (.int (if x < 0 ∨ nI n ≤ x then 0 else 1)), D) := by
  obtain ⟨h1, h2, h3, h4, h5, h6⟩ := mM_ ha
  rw [q_7_0]
  simp only [h1, hn, reduceIte]
  by_cases c1 : x < 0
  · rw [if_pos c1, if_pos (Or.inl c1)]
  · rw [if_neg c1]
    by_cases c2 : nI n ≤ x
    · rw [if_pos c2, if_pos (Or.inr c2)]
    · rw [if_neg c2, if_neg (by rintro (q | q); exact c1 q; exact c2 q)]
end LEAF
