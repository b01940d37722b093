/-! MACHINES, as numbers: letters, states, START, where they go, which accept -/
abbrev ma_ : Type := Nat × Nat × Nat × (Nat → Nat → Nat) × (Nat → Bool)
def b2_ (b : Bool) : Int32 := cond b 1 0
/-- the class's machine at a -/
def cm_ (D : dy_) (a : Nat) (M : ma_) : Prop := D.1 a 2 = nI M.1 ∧ D.1 a 3 = nI M.2.1 ∧ D.1 a 4 = nI M.2.2.1 ∧ (∀ p l, p < M.2.1 → l < M.1 → D.1 (a + 1) (p * M.1 + l) = nI (M.2.2.2.1 p l)) ∧ ∀ p, p < M.2.1 → D.1 (a + 2) p = b2_ (M.2.2.2.2 p)
def wm_ (M : ma_) : Prop := (1 ≤ M.1 ∧ M.1 ≤ 4) ∧ 1 ≤ M.2.1 ∧ M.2.2.1 < M.2.1 ∧ ∀ p l, p < M.2.1 → l < M.1 → M.2.2.2.1 p l < M.2.1
/-- the same but in some cells -/
def sx_ (A : Nat → Prop) (D D' : dy_) : Prop := ∀ b, ¬ A b → D'.1 b = D.1 b ∧ D'.2 b = D.2 b
theorem sx_r (A : Nat → Prop) (D : dy_) : sx_ A D D := fun _ _ => ⟨rfl, rfl⟩
theorem sx_t {A : Nat → Prop} {D D' D'' : dy_} (h : sx_ A D D') (h' : sx_ A D' D'') : sx_ A D D'' := fun b hb => ⟨((h' b hb).1).trans (h b hb).1, ((h' b hb).2).trans (h b hb).2⟩
theorem sx_w {A B : Nat → Prop} {D D' : dy_} (h : sx_ A D D') (hw : ∀ b, A b → B b) : sx_ B D D' := fun b hb => h b fun q => hb (hw b q)
theorem sx_I {A : Nat → Prop} {D : dy_} {a i : Nat} {v : Int32} (ha : A a) : sx_ A D (dI_ D a i v) := fun b hb => ⟨by
  exact up_ne (f := D.1) (fun q => hb (by rw [q]; exact ha)), rfl⟩
theorem sx_L {A : Nat → Prop} {D : dy_} {a i : Nat} {v : Int64} (ha : A a) : sx_ A D (dL_ D a i v) := fun b hb => ⟨rfl, by
  exact up_ne (f := D.2) (fun q => hb (by rw [q]; exact ha))⟩
/-- a stretch of an array set to one value -/
def fr_ (D : dy_) (a lo n : Nat) (v : Int32) : dy_ := (va_up D.1 a (fun i => if lo ≤ i ∧ i < lo + n then v else D.1 a i), D.2)
theorem fr_0 (D : dy_) (a lo : Nat) (v : Int32) : fr_ D a lo 0 v = D := by
  unfold fr_
  refine Prod.ext ?_ rfl
  funext b
  show va_up D.1 a _ b = D.1 b
  by_cases h : b = a
  · subst h
    rw [up_eq]
    funext i
    rw [if_neg (by omega)]
  · rw [up_ne h]
theorem fr_s (D : dy_) (a lo n : Nat) (v : Int32) : dI_ (fr_ D a lo n v) a (lo + n) v = fr_ D a lo (n + 1) v := by
  unfold fr_ dI_
  refine Prod.ext ?_ rfl
  funext b
  show va_up (va_up D.1 a (fun i => if lo ≤ i ∧ i < lo + n then v else D.1 a i)) a (va_up (va_up D.1 a (fun i => if lo ≤ i ∧ i < lo + n then v else D.1 a i) a) (lo + n) v) b = va_up D.1 a (fun i => if lo ≤ i ∧ i < lo + (n + 1) then v else D.1 a i) b
  by_cases h : b = a
  · subst h
    simp only [up_eq]
    funext i
    unfold va_up
    by_cases hi : i = lo + n
    · rw [if_pos hi, if_pos (by omega)]
    · rw [if_neg hi]
      show (if lo ≤ i ∧ i < lo + n then v else D.1 b i) = _
      by_cases hj : lo ≤ i ∧ i < lo + n
      · rw [if_pos hj, if_pos (by omega)]
      · rw [if_neg hj, if_neg (by omega)]
  · simp only [up_ne h]
theorem fr_ne {D : dy_} {a lo n : Nat} {v : Int32} {b : Nat} (h : b ≠ a) : (fr_ D a lo n v).1 b = D.1 b := up_ne h
theorem fr_at (D : dy_) (a lo n : Nat) (v : Int32) (i : Nat) : (fr_ D a lo n v).1 a i = if lo ≤ i ∧ i < lo + n then v else D.1 a i := by
  show va_up D.1 a _ a i = _
  rw [up_eq]
theorem mul_in {s n k l : Nat} (hs : s < n) (hl : l < k) : s * k + l < n * k := by
  have h1 : (s + 1) * k ≤ n * k := Nat.mul_le_mul_right k hs
  rw [Nat.add_mul, Nat.one_mul] at h1
  omega
section LEAF2
variable {xs : Nat → Int32} {L d : Nat} {D : dy_} {a : Nat}
/-- Machine.hasLetter -/
theorem m_hasLetter (ha : a ∈ ml_) {k : Nat} (hk : D.1 a 2 = nI k) (x : Int32) : qv_ sh_ xs L (d + 1) 8 0 [(0, .ref a), (1, .int x)] [] D = some (some (.int (if x < 0 ∨ nI k ≤ x then 0 else 1)), D) := by
  obtain ⟨h1, h2, h3, h4, h5, h6⟩ := mM_ ha
  rw [q_8_0]
  simp only [h1, hk, reduceIte]
  by_cases c1 : x < 0
  · rw [if_pos c1, if_pos (Or.inl c1)]
  · rw [if_neg c1]
    by_cases c2 : nI k ≤ x
    · rw [if_pos c2, if_pos (Or.inr c2)]
    · rw [if_neg c2, if_neg (by rintro (q | q); exact c1 q; exact c2 q)]
/-- Machine.leadAll -/
theorem m_leadAll (ha : a ∈ ml_) {k s : Nat} {t : Int32} (hk : D.1 a 2 = nI k) (hk4 : k ≤ 4) (hs : s < cap_ a) : qv_ sh_ xs L (d + 2) 11 0 [(0, .ref a), (1, .int (nI s)), (2, .int t)] [] D = some (none, fr_ D (a + 1) (s * k) k t) := by
  obtain ⟨h1, h2, h3, h4, h5, h6⟩ := mM_ ha
  have hb : s * k + k ≤ 4 * cap_ a := by
    have e1 : (s + 1) * k ≤ cap_ a * 4 := Nat.mul_le_mul hs hk4
    rw [Nat.add_mul, Nat.one_mul] at e1
    omega
  have key : ∀ n l, l + n = k → qv_ sh_ xs L (d + 2) 11 2 [(0, .ref a), (1, .int (nI s)), (2, .int t), (3, .int (nI l))] [] (fr_ D (a + 1) (s * k) l t) = some (none, fr_ D (a + 1) (s * k) k t) := by
    intro n
    induction n with
    | zero =>
      intro l hl
      obtain rfl : l = k := by omega
      rw [q_11_2]
      simp only [h1, reduceIte, fr_ne (show a ≠ a + 1 by omega), hk]
      rw [if_pos (nI_le (Nat.le_refl _) (by omega))]
    | succ n ih =>
      intro l hl
      rw [q_11_2]
      simp only [h1, reduceIte, fr_ne (show a ≠ a + 1 by omega), hk]
      rw [if_neg (nI_ge (by omega) (by omega)), m_lead ha (k := k) (by rw [fr_ne (by omega)]; exact hk) (by omega), op_os, op_vNs, fr_s, nI_1]
      exact ih (l + 1) (by omega)
  rw [q_11_0]
  have := key k 0 (by omega)
  rw [fr_0] at this
  exact this
/-- Machine.reset -/
theorem m_reset (ha : a ∈ ml_) {k n : Nat} (hk : 1 ≤ k ∧ k ≤ 4) (hn : n ≤ cap_ a) : ∃ D', qv_ sh_ xs L (d + 3) 6 0 [(0, .ref a), (1, .int (nI k)), (2, .int (nI n))] [] D = some (none, D') ∧ cm_ D' a (k, n, 0, fun p _ => p, fun _ => false) ∧ sx_ (fun b => b = a ∨ b = a + 1 ∨ b = a + 2) D D' := by
  obtain ⟨h1, h2, h3, h4, h5, h6⟩ := mM_ ha
  have key : ∀ m s (E : dy_), s + m = n → (E.1 a 2 = nI k ∧ E.1 a 3 = nI n ∧ E.1 a 4 = nI 0) → (∀ p l, p < s → l < k → E.1 (a + 1) (p * k + l) = nI p) → (∀ p, p < s → E.1 (a + 2) p = 0) → ∃ D', qv_ sh_ xs L (d + 3) 6 17 [(0, .ref a), (2, .int (nI n)), (3, .int (nI s))] [] E = some (none, D') ∧ cm_ D' a (k, n, 0, fun p _ => p, fun _ => false) ∧ sx_ (fun b => b = a ∨ b = a + 1 ∨ b = a + 2) E D' := by
    intro m
    induction m with
    | zero =>
      intro s E hs h0 hw he
      obtain rfl : s = n := by omega
      refine ⟨E, ?_, ⟨h0.1, h0.2.1, h0.2.2, fun p l hp hl => hw p l hp hl, fun p hp => he p hp⟩, sx_r _ _⟩
      rw [q_6_17, if_pos (nI_le (Nat.le_refl _) (by omega))]
    | succ m ih =>
      intro s E hs h0 hw he
      have hsc : s < cap_ a := by omega
      have hv : vp_nar .boolean 0 = 0 := rfl
      obtain ⟨D', e1, e2, e3⟩ := ih (s + 1) (fr_ (dI_ E (a + 2) s 0) (a + 1) (s * k) k (nI s)) (by omega)
        (by
          rw [fr_ne (by omega)]
          simp only [dI_at]
          rw [if_neg (by omega), if_neg (by omega), if_neg (by omega)]
          exact h0)
        (by
          intro p l hp hl
          rw [fr_at]
          by_cases hps : p = s
          · subst hps
            rw [if_pos ⟨by omega, by omega⟩]
          · have hlt : p < s := by omega
            have := mul_in hlt hl
            rw [if_neg (by omega), dI_at, if_neg (by omega)]
            exact hw p l hlt hl)
        (by
          intro p hp
          rw [fr_ne (by omega), dI_at]
          by_cases hps : p = s
          · rw [if_pos ⟨rfl, hps⟩]
          · rw [if_neg (by omega)]
            exact he p (by omega))
      refine ⟨D', ?_, e2, sx_t (sx_t (sx_I (i := s) (v := 0) (Or.inr (Or.inr rfl))) ?_) e3⟩
      · rw [q_6_17, if_neg (nI_ge (by omega) (by omega))]
        simp only [h1, h3, h5, reduceIte, Nat.add_eq_zero_iff, Nat.succ_ne_zero, and_false]
        rw [inb_ hsc (by omega), nI_clamp (by omega), hv, m_leadAll ha (k := k) (by
          rw [dI_at, if_neg (by omega)]
          exact h0.1) hk.2 hsc, op_os, op_vNs, nI_1]
        exact e1
      · intro b hb
        refine ⟨fr_ne (fun q => hb (Or.inr (Or.inl q))), rfl⟩
  obtain ⟨D', e1, e2, e3⟩ := key n 0 (dI_ (dI_ (dI_ D a 2 (nI k)) a 3 (nI n)) a 4 0) (by omega) (by
    simp only [dI_at]
    exact ⟨rfl, rfl, rfl⟩) (fun p l hp => absurd hp (by omega)) (fun p hp => absurd hp (by omega))
  refine ⟨D', ?_, e2, sx_t (sx_t (sx_t (sx_I (Or.inl rfl)) (sx_I (Or.inl rfl))) (sx_I (Or.inl rfl))) e3⟩
  rw [q_6_0]
  simp only [h1, reduceIte]
  exact e1
end LEAF2
