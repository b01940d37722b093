/-! small steps over the keyed equations -/
theorem b2_z {b : Bool} : (b2_ b = nI 0) ↔ b = false := by cases b <;> decide
theorem b2_o {b : Bool} : (b2_ b = nI 1) ↔ b = true := by cases b <;> decide
theorem b2_n {b : Bool} : (nI 0 = b2_ b) ↔ b = false := by cases b <;> decide
theorem b2_01 {b : Bool} : (b2_ b = 0 ∨ b2_ b = 1) ↔ True := by cases b <;> decide
theorem nar_b {b : Bool} : vp_nar .boolean (b2_ b) = b2_ b := by cases b <;> rfl
theorem nar_0 : vp_nar .boolean (nI 0) = b2_ false := rfl
theorem nar_1 : vp_nar .boolean (nI 1) = b2_ true := rfl
/-- negative numbers against natural ones -/
theorem iz1_ {x : Int32} {n : Nat} (h : x < 0) (hn : n < 2 ^ 31) : (x < nI n) ↔ True := ⟨fun _ => trivial, fun _ => Int32.lt_of_lt_of_le h (nI_pos' hn)⟩
theorem iz2_ {x : Int32} {n : Nat} (h : x < 0) (hn : n < 2 ^ 31) : (nI n ≤ x) ↔ False := ⟨fun q => absurd (Int32.lt_of_lt_of_le h (nI_pos' hn)) (Int32.not_lt.mpr q), False.elim⟩
theorem iz3_ {x : Int32} {n : Nat} (h : x < 0) (hn : n < 2 ^ 31) : (x = nI n) ↔ False := ⟨fun q => absurd (q ▸ h) (nI_pos hn), False.elim⟩
theorem iz4_ {x : Int32} {n : Nat} (h : x < 0) (hn : n < 2 ^ 31) : (nI n < x) ↔ False := ⟨fun q => absurd (Int32.lt_trans q h) (nI_pos hn), False.elim⟩
theorem iz5_ {n : Nat} (h : n < 2 ^ 31) : (nI n = -1) ↔ False := ⟨fun q => absurd (show nI n < 0 by rw [q]; decide) (nI_pos h), False.elim⟩
/-- an int is a number or below 0 -/
theorem ic_ (x : Int32) : (∃ n : Nat, n < 2 ^ 31 ∧ x = nI n) ∨ x < 0 := by
  by_cases h : x < 0
  · exact Or.inr h
  · exact Or.inl (nI_of h)
/-! loops -/
theorem lp_ {σ ρ : Type} (F : Nat → σ → ρ) (I : Nat → σ → Prop) (n : Nat) (hs : ∀ i s, i < n → I i s → ∃ s', F i s = F (i + 1) s' ∧ I (i + 1) s') {s : σ} (h0 : I 0 s) : ∃ s', F 0 s = F n s' ∧ I n s' := by
  have key : ∀ r i s, i + r = n → I i s → ∃ s', F i s = F n s' ∧ I n s' := by
    intro r
    induction r with
    | zero =>
      intro i s hi h
      obtain rfl : i = n := by omega
      exact ⟨s, rfl, h⟩
    | succ r ih =>
      intro i s hi h
      obtain ⟨s1, e1, h1⟩ := hs i s (by omega) h
      obtain ⟨s2, e2, h2⟩ := ih (i + 1) s1 (by omega) h1
      exact ⟨s2, e1.trans e2, h2⟩
  exact key n 0 s (by omega) h0
/-- a loop with one way of state -/
theorem lq_ {σ ρ : Type} (F : Nat → σ → ρ) (g : Nat → σ) (n : Nat) (hs : ∀ i, i < n → F i (g i) = F (i + 1) (g (i + 1))) : F 0 (g 0) = F n (g n) := by
  have key : ∀ r i, i + r = n → F i (g i) = F n (g n) := by
    intro r
    induction r with
    | zero =>
      intro i hi
      obtain rfl : i = n := by omega
      rfl
    | succ r ih =>
      intro i hi
      exact (hs i (by omega)).trans (ih (i + 1) (by omega))
  exact key n 0 (by omega)
theorem wh_ {σ ρ : Type} (F : σ → ρ) (I E : σ → Prop) (μ : σ → Nat) (hs : ∀ s, I s → E s ∨ ∃ s', F s = F s' ∧ I s' ∧ μ s' < μ s) : ∀ s, I s → ∃ s', F s = F s' ∧ I s' ∧ E s' := by
  have key : ∀ m s, μ s ≤ m → I s → ∃ s', F s = F s' ∧ I s' ∧ E s' := by
    intro m
    induction m with
    | zero =>
      intro s hm h
      rcases hs s h with q | ⟨s', e, h', hl⟩
      · exact ⟨s, rfl, h, q⟩
      · omega
    | succ m ih =>
      intro s hm h
      rcases hs s h with q | ⟨s', e, h', hl⟩
      · exact ⟨s, rfl, h, q⟩
      · obtain ⟨s2, e2, h2, q2⟩ := ih s' (by omega) h'
        exact ⟨s2, e.trans e2, h2, q2⟩
  exact fun s h => key (μ s) s (Nat.le_refl _) h
section SM
variable {w : (Nat → Int32) × Nat} {d : Nat} {D : dy_}
theorem b2_if {c : Prop} {dc : Decidable c} : (if c then (0 : Int32) else 1) = b2_ (decide ¬ c) := by
  by_cases h : c
  · rw [if_pos h, decide_eq_false (by simp [h])]; rfl
  · rw [if_neg h, decide_eq_true h]; rfl
/-- in -/
theorem x111 (x lo hi : Int32) : k111_0 w (d + 1) x.toInt64 lo.toInt64 hi.toInt64 D = some (some (.int (b2_ (decide ¬ (x < lo ∨ hi < x)))), D) := by
  rw [← b2_if]
  exact r_in x lo hi
theorem lt64 {n : Nat} (h : n < 2 ^ 31) : lN n = (nI n).toInt64 := (nI_l h).symm
theorem x114 (x : Int32) : k114_0 w (d + 2) x D = some (some (.int (b2_ (decide ¬ (x < 0 ∨ 5 < x)))), D) := by
  rw [← b2_if]
  exact r_isSlot x
theorem x106 (x : Int32) : k106_0 w (d + 1) x D = some (some (.int (b2_ (decide ¬ (x < 0 ∨ 5 < x)))), D) := by
  rw [← b2_if]
  exact c_isSlot x
theorem x107 (x : Int32) : k107_0 w (d + 1) x D = some (some (.int (b2_ (decide ¬ (x < 1 ∨ 4 < x)))), D) := by
  rw [← b2_if]
  exact c_isAlphabet x
theorem x105 (b : Bool) : k105_0 w (d + 1) (b2_ b) D = some (some (.int (b2_ b)), D) := by
  rw [e105_0]
  cases b <;> rfl
end SM
