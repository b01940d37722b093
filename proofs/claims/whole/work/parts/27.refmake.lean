/-- the reference's machine m -/
def rm_ (D : dy_) (m : Nat) (M : ma_) : Prop := D.1 352 m = nI M.1 ∧ D.1 353 m = nI M.2.1 ∧ D.1 354 m = nI M.2.2.1 ∧ (∀ p l, p < M.2.1 → l < M.1 → D.1 355 (4 * (60 * m + p) + l) = nI (M.2.2.2.1 p l)) ∧ ∀ p, p < M.2.1 → D.1 356 (60 * m + p) = b2_ (M.2.2.2.2 p)
/-- only machine m (and the field of throws) may have changed -/
def om_ (m : Nat) (D D' : dy_) : Prop := D'.2 = D.2 ∧ (∀ b, b < 351 ∨ 356 < b → D'.1 b = D.1 b) ∧ (∀ j, j ≠ 0 → D'.1 351 j = D.1 351 j) ∧ (∀ b j, (b = 352 ∨ b = 353 ∨ b = 354) → j ≠ m → D'.1 b j = D.1 b j) ∧ (∀ j, (j < 240 * m ∨ 240 * m + 240 ≤ j) → D'.1 355 j = D.1 355 j) ∧ ∀ j, (j < 60 * m ∨ 60 * m + 60 ≤ j) → D'.1 356 j = D.1 356 j
theorem om_r (m : Nat) (D : dy_) : om_ m D D := ⟨rfl, fun _ _ => rfl, fun _ _ => rfl, fun _ _ _ _ => rfl, fun _ _ => rfl, fun _ _ => rfl⟩
theorem om_t {m : Nat} {D D' D'' : dy_} (h : om_ m D D') (g : om_ m D' D'') : om_ m D D'' := ⟨g.1.trans h.1, fun b q => (g.2.1 b q).trans (h.2.1 b q), fun j q => (g.2.2.1 j q).trans (h.2.2.1 j q), fun b j q r => (g.2.2.2.1 b j q r).trans (h.2.2.2.1 b j q r), fun j q => (g.2.2.2.2.1 j q).trans (h.2.2.2.2.1 j q), fun j q => (g.2.2.2.2.2 j q).trans (h.2.2.2.2.2 j q)⟩
theorem om_I {m : Nat} {D : dy_} {b i : Nat} {v : Int32} (h : (b = 351 ∧ i = 0) ∨ ((b = 352 ∨ b = 353 ∨ b = 354) ∧ i = m) ∨ (b = 355 ∧ 240 * m ≤ i ∧ i < 240 * m + 240) ∨ (b = 356 ∧ 60 * m ≤ i ∧ i < 60 * m + 60)) : om_ m D (dI_ D b i v) := by
  refine ⟨rfl, fun c hc => ?_, fun j hj => ?_, fun c j hc hj => ?_, fun j hj => ?_, fun j hj => ?_⟩
  · exact up_ne (f := D.1) (by omega)
  · rw [dI_at, if_neg (by omega)]
  · rw [dI_at, if_neg (by omega)]
  · rw [dI_at, if_neg (by omega)]
  · rw [dI_at, if_neg (by omega)]
theorem om_fr {m : Nat} {D : dy_} {lo n : Nat} {v : Int32} (h : 240 * m ≤ lo ∧ lo + n ≤ 240 * m + 240) : om_ m D (fr_ D 355 lo n v) := by
  refine ⟨rfl, fun c hc => fr_ne (by omega), fun j _ => by rw [fr_ne (by decide)], fun c j hc _ => by rw [fr_ne (by omega)], fun j hj => by rw [fr_at, if_neg (by omega)], fun j _ => by rw [fr_ne (by decide)]⟩
section RM
variable {xs : Nat → Int32} {L d : Nat} {D : dy_}
theorem r_make_in {m k n p : Nat} (hm : m < 110) (hp : p < 60) (hk : k ≤ 4) (E : dy_) : qv_ sh_ xs L (d + 1) 115 85 [(0, .ref 351), (1, .int (nI m)), (2, .int (nI k)), (3, .int (nI n)), (4, .int (nI p)), (5, .int 0)] [] E = qv_ sh_ xs L (d + 1) 115 63 [(0, .ref 351), (1, .int (nI m)), (2, .int (nI k)), (3, .int (nI n)), (4, .int (nI (p + 1)))] [] (fr_ E 355 (4 * (60 * m + p)) k (nI p)) := by
  have key : ∀ r l, l + r = k → qv_ sh_ xs L (d + 1) 115 85 [(0, .ref 351), (1, .int (nI m)), (2, .int (nI k)), (3, .int (nI n)), (4, .int (nI p)), (5, .int (nI l))] [] (fr_ E 355 (4 * (60 * m + p)) l (nI p)) = qv_ sh_ xs L (d + 1) 115 63 [(0, .ref 351), (1, .int (nI m)), (2, .int (nI k)), (3, .int (nI n)), (4, .int (nI (p + 1)))] [] (fr_ E 355 (4 * (60 * m + p)) k (nI p)) := by
    intro r
    induction r with
    | zero =>
      intro l hl
      obtain rfl : l = k := by omega
      rw [q_115_85, if_pos (nI_le (Nat.le_refl _) (by omega)), nI_1]
    | succ r ih =>
      intro l hl
      rw [q_115_85, if_neg (nI_ge (by omega) (by omega))]
      simp only [sf_351, rf_351_4, sf_355, reduceIte, Nat.reduceEqDiff, show (60 : Int32) = nI 60 from rfl, show (4 : Int32) = nI 4 from rfl, pk_mul, nI_add]
      rw [inb_ (by omega) (by omega), nI_clamp (by omega), fr_s, nI_1]
      exact ih (l + 1) (by omega)
  have := key k 0 (by omega)
  rw [fr_0] at this
  exact this
theorem r_make_out {m k n : Nat} (hm : m < 110) (hn : n ≤ 60) (hk : k ≤ 4) : ∀ r p (E : dy_), p + r = n → (∀ q l, q < p → l < k → E.1 355 (4 * (60 * m + q) + l) = nI q) → (∀ q, q < p → E.1 356 (60 * m + q) = 0) → ∃ D', qv_ sh_ xs L (d + 1) 115 63 [(0, .ref 351), (1, .int (nI m)), (2, .int (nI k)), (3, .int (nI n)), (4, .int (nI p))] [] E = some (some (.int 1), D') ∧ om_ m E D' ∧ (∀ b, b < 355 → D'.1 b = E.1 b) ∧ (∀ q l, q < n → l < k → D'.1 355 (4 * (60 * m + q) + l) = nI q) ∧ ∀ q, q < n → D'.1 356 (60 * m + q) = 0 := by
  intro r
  induction r with
  | zero =>
    intro p E hp h1 h2
    obtain rfl : p = n := by omega
    refine ⟨E, ?_, om_r _ _, fun _ _ => rfl, h1, h2⟩
    rw [q_115_63, if_pos (nI_le (Nat.le_refl _) (by omega))]
  | succ r ih =>
    intro p E hp h1 h2
    obtain ⟨D', e1, e2, e3, e4, e5⟩ := ih (p + 1) (fr_ (dI_ E 356 (60 * m + p) 0) 355 (4 * (60 * m + p)) k (nI p)) (by omega)
      (by
        intro q l hq hl
        rw [fr_at]
        by_cases hqp : q = p
        · subst hqp
          rw [if_pos ⟨by omega, by omega⟩]
        · rw [if_neg (by omega), dI_at, if_neg (by omega)]
          exact h1 q l (by omega) hl)
      (by
        intro q hq
        rw [fr_ne (by decide), dI_at]
        by_cases hqp : q = p
        · rw [if_pos ⟨rfl, by omega⟩]
        · rw [if_neg (by omega)]
          exact h2 q (by omega))
    refine ⟨D', ?_, om_t (om_t (om_I (Or.inr (Or.inr (Or.inr ⟨rfl, by omega, by omega⟩)))) (om_fr (by omega))) e2, fun b hb => ?_, e4, e5⟩
    · rw [q_115_63, if_neg (nI_ge (by omega) (by omega))]
      simp only [sf_351, rf_351_5, sf_356, reduceIte, Nat.reduceEqDiff, show (60 : Int32) = nI 60 from rfl, pk_mul, nI_add]
      rw [inb_ (by omega) (by omega), nI_clamp (by omega), show vp_nar .boolean 0 = 0 from rfl, r_make_in hm (by omega) hk]
      exact e1
    · rw [e3 b hb, fr_ne (by omega)]
      exact up_ne (f := E.1) (by omega)
end RM
