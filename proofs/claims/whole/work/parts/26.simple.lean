/-! the small tests of both classes -/
theorem lc_lt (a b : Int64) : lg_cmp a b < 0 ↔ a < b := by
  have h := lg_cmp_ge a b
  rw [← Int32.not_le, h, Int64.not_le]
theorem lc_gt (a b : Int64) : 0 < lg_cmp a b ↔ b < a := by
  unfold lg_cmp
  by_cases h1 : a > b
  · rw [if_pos h1]
    exact ⟨fun _ => h1, fun _ => by decide⟩
  · rw [if_neg h1]
    by_cases h2 : a = b
    · rw [if_pos h2]
      exact ⟨fun q => absurd q (by decide), fun q => absurd q h1⟩
    · rw [if_neg h2]
      exact ⟨fun q => absurd q (by decide), fun q => absurd q h1⟩
theorem x64_lt (x y : Int32) : x.toInt64 < y.toInt64 ↔ x < y := by
  rw [Int64.lt_iff_toInt_lt, Int32.lt_iff_toInt_lt, Int32.toInt_toInt64, Int32.toInt_toInt64]
section SMALL
variable {xs : Nat → Int32} {L d : Nat} {D : dy_}
/-- the reference's in, over ints -/
theorem r_in (x lo hi : Int32) : qv_ sh_ xs L (d + 1) 111 0 [(0, .long x.toInt64), (2, .long lo.toInt64), (4, .long hi.toInt64)] [] D = some (some (.int (if x < lo ∨ hi < x then 0 else 1)), D) := by
  rw [q_111_0]
  by_cases c1 : x < lo
  · rw [if_pos ((lc_lt _ _).mpr ((x64_lt _ _).mpr c1)), if_pos (Or.inl c1)]
  · rw [if_neg (fun q => c1 ((x64_lt _ _).mp ((lc_lt _ _).mp q)))]
    by_cases c2 : hi < x
    · rw [if_pos ((lc_gt _ _).mpr ((x64_lt _ _).mpr c2)), if_pos (Or.inr c2)]
    · rw [if_neg (fun q => c2 ((x64_lt _ _).mp ((lc_gt _ _).mp q))), if_neg (by rintro (q | q); exact c1 q; exact c2 q)]
theorem r_isSlot (x : Int32) : qv_ sh_ xs L (d + 2) 114 0 [(0, .int x)] [] D = some (some (.int (if x < 0 ∨ 5 < x then 0 else 1)), D) := by
  rw [q_114_0, show (0 : Int64) = (0 : Int32).toInt64 from rfl, show (5 : Int64) = (5 : Int32).toInt64 from rfl, r_in, op_os, op_vIs]
  by_cases c : x < 0 ∨ 5 < x
  · rw [if_pos c, if_pos (Or.inl rfl)]
  · rw [if_neg c, if_pos (Or.inr rfl)]
theorem c_isSlot (x : Int32) : qv_ sh_ xs L (d + 1) 106 0 [(0, .int x)] [] D = some (some (.int (if x < 0 ∨ 5 < x then 0 else 1)), D) := by
  rw [q_106_0]
  have h6 : (6 : Int32) ≤ x ↔ 5 < x := by
    rw [Int32.le_iff_toInt_le, Int32.lt_iff_toInt_lt]
    show (6 : Int) ≤ _ ↔ (5 : Int) < _
    omega
  by_cases c1 : x < 0
  · rw [if_pos c1, if_pos (Or.inl c1)]
  · rw [if_neg c1]
    by_cases c2 : (6 : Int32) ≤ x
    · rw [if_pos c2, if_pos (Or.inr (h6.mp c2))]
    · rw [if_neg c2, if_neg (by rintro (q | q); exact c1 q; exact c2 (h6.mpr q))]
theorem c_isAlphabet (x : Int32) : qv_ sh_ xs L (d + 1) 107 0 [(0, .int x)] [] D = some (some (.int (if x < 1 ∨ 4 < x then 0 else 1)), D) := by
  rw [q_107_0]
  by_cases c1 : x < 1
  · rw [if_pos c1, if_pos (Or.inl c1)]
  · rw [if_neg c1]
    by_cases c2 : (4 : Int32) < x
    · rw [if_pos c2, if_pos (Or.inr c2)]
    · rw [if_neg c2, if_neg (by rintro (q | q); exact c1 q; exact c2 q)]
/-- an int between two numbers is a number -/
theorem nI_btw {x : Int32} {lo hi : Nat} (hlo : lo ≤ hi) (hh : hi < 2 ^ 31) (h : ¬ (x < nI lo ∨ nI hi < x)) : ∃ n : Nat, x = nI n ∧ lo ≤ n ∧ n ≤ hi := by
  have h1 : nI lo ≤ x := Int32.not_lt.mp fun q => h (Or.inl q)
  have h2 : x ≤ nI hi := Int32.not_lt.mp fun q => h (Or.inr q)
  rw [Int32.le_iff_toInt_le] at h1 h2
  rw [nI_toInt hh] at h2
  rw [nI_toInt (by omega)] at h1
  refine ⟨x.toInt.toNat, ?_, by omega, by omega⟩
  apply Int32.toInt_inj.mp
  rw [nI_toInt (by omega)]
  omega
theorem if_01 {c : Prop} {dc : Decidable c} : ((if c then (0 : Int32) else 1) = 0) ↔ c := by
  by_cases h : c
  · rw [if_pos h]; exact ⟨fun _ => h, fun _ => rfl⟩
  · rw [if_neg h]; exact ⟨fun q => absurd q (by decide), fun q => absurd q h⟩
/-- what make refuses -/
def bad_make (s k n : Int32) : Prop := (s < 0 ∨ 5 < s) ∨ (k < 1 ∨ 4 < k) ∨ (n < 1 ∨ 60 < n)
theorem c_make_bad {s k n : Int32} (h : bad_make s k n) : qv_ sh_ xs L (d + 2) 82 0 [(0, .ref 1), (1, .int s), (2, .int k), (3, .int n)] [] D = some (some (.int (-102)), D) := by
  rw [q_82_0, c_isSlot, op_os, op_vIs]
  by_cases c1 : s < 0 ∨ 5 < s
  · rw [if_pos (if_01.mpr c1)]
  · rw [if_neg (fun q => c1 (if_01.mp q)), c_isAlphabet, op_os, op_vIs]
    by_cases c2 : k < 1 ∨ 4 < k
    · rw [if_pos (if_01.mpr c2)]
    · rw [if_neg (fun q => c2 (if_01.mp q))]
      by_cases c3 : n < 1
      · rw [if_pos c3]
      · rw [if_neg c3, if_neg]
        rcases h with q | q | q
        · exact absurd q c1
        · exact absurd q c2
        · rcases q with q | q
          · exact absurd q c3
          · exact Int32.not_le.mpr q
theorem c_make {s k n : Int32} (h : ¬ bad_make s k n) : ∃ (i k' n' : Nat) (D' : dy_), s = nI i ∧ k = nI k' ∧ n = nI n' ∧ i < 6 ∧ (1 ≤ k' ∧ k' ≤ 4) ∧ (1 ≤ n' ∧ n' ≤ 60) ∧ qv_ sh_ xs L (d + 4) 82 0 [(0, .ref 1), (1, .int s), (2, .int k), (3, .int n)] [] D = some (some (.int 1), D') ∧ cm_ D' (3 + 3 * i) (k', n', 0, fun p _ => p, fun _ => false) ∧ sx_ (fun b => b = 3 + 3 * i ∨ b = 3 + 3 * i + 1 ∨ b = 3 + 3 * i + 2) D D' := by
  have c1 : ¬ (s < 0 ∨ 5 < s) := fun q => h (Or.inl q)
  have c2 : ¬ (k < 1 ∨ 4 < k) := fun q => h (Or.inr (Or.inl q))
  have c3 : ¬ (n < 1 ∨ 60 < n) := fun q => h (Or.inr (Or.inr q))
  obtain ⟨i, rfl, -, hi⟩ := nI_btw (lo := 0) (hi := 5) (by omega) (by omega) c1
  obtain ⟨k', rfl, hk1, hk2⟩ := nI_btw (lo := 1) (hi := 4) (by omega) (by omega) c2
  obtain ⟨n', rfl, hn1, hn2⟩ := nI_btw (lo := 1) (hi := 60) (by omega) (by omega) c3
  obtain ⟨s1, s2⟩ := sl_ (i := i) (by omega)
  obtain ⟨h1, h2, h3, h4, h5, h6⟩ := mM_ s2
  have hcap : cap_ (3 + 3 * i) = 60 := (show ∀ i ∈ List.range 6, cap_ (3 + 3 * i) = 60 from by decide +kernel) i (List.mem_range.mpr (by omega))
  obtain ⟨D', e1, e2, e3⟩ := m_reset (xs := xs) (L := L) (d := d) (D := D) s2 ⟨hk1, hk2⟩ (show n' ≤ cap_ (3 + 3 * i) by omega)
  refine ⟨i, k', n', D', rfl, rfl, rfl, by omega, ⟨hk1, hk2⟩, ⟨hn1, hn2⟩, ?_, e2, e3⟩
  rw [q_82_0, c_isSlot, op_os, op_vIs, if_neg (fun q => c1 (if_01.mp q)), c_isAlphabet, op_os, op_vIs, if_neg (fun q => c2 (if_01.mp q)), if_neg (fun q => c3 (Or.inl q)), if_pos (Int32.not_lt.mp fun q => c3 (Or.inr q))]
  simp only [sf_1, rf_1_0, sf_2, reduceIte, Nat.reduceEqDiff]
  rw [inb_ (show i < 6 by omega) (by omega), nI_clamp (by omega)]
  simp only [s1, h1, reduceIte, Nat.add_eq_zero_iff, Nat.reduceEqDiff, false_and]
  rw [e1, op_os, op_vNs]
end SMALL
