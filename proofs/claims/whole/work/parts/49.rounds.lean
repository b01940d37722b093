/-! byRounds -/
/-- one of them -/
def som_ (f : Nat → Bool) : Nat → Bool
  | 0 => false
  | n + 1 => som_ f n || f n
theorem som_t {f : Nat → Bool} {n : Nat} : som_ f n = true ↔ ∃ p, p < n ∧ f p = true := by
  induction n with
  | zero => exact ⟨fun h => (by cases h), fun ⟨p, hp, _⟩ => absurd hp (by omega)⟩
  | succ n ih =>
    show (som_ f n || f n) = true ↔ _
    rw [Bool.or_eq_true_iff, ih]
    constructor
    · rintro (⟨p, h1, h2⟩ | h)
      · exact ⟨p, by omega, h2⟩
      · exact ⟨n, by omega, h⟩
    · rintro ⟨p, h1, h2⟩
      by_cases z : p = n
      · exact Or.inr (by rw [← z]; exact h2)
      · exact Or.inl ⟨p, by omega, h2⟩
theorem mct0 {M : ma_} (hM : wm_ M) : mct_ M 0 = if som_ (M.2.2.2.2) (M.2.1) && som_ (fun p => !M.2.2.2.2 p) (M.2.1) then 2 else 1 := by
  have h1 := hM.2.1
  let c : Nat → Nat := fun p => if M.2.2.2.2 p = M.2.2.2.2 0 then 0 else 1
  have c0 : c 0 = 0 := if_pos rfl
  have c01 : ∀ p, c p = 0 ∨ c p = 1 := fun p => by
    show (if M.2.2.2.2 p = M.2.2.2.2 0 then 0 else 1) = 0 ∨ (if M.2.2.2.2 p = M.2.2.2.2 0 then 0 else 1) = 1
    by_cases z : M.2.2.2.2 p = M.2.2.2.2 0
    · rw [if_pos z]; exact Or.inl rfl
    · rw [if_neg z]; exact Or.inr rfl
  have pat : ∀ p q, c p = c q ↔ mrr_ M 0 p q := fun p q => by
    show ((if M.2.2.2.2 p = M.2.2.2.2 0 then 0 else 1) = if M.2.2.2.2 q = M.2.2.2.2 0 then 0 else 1) ↔ M.2.2.2.2 p = M.2.2.2.2 q
    cases M.2.2.2.2 p <;> cases M.2.2.2.2 q <;> cases M.2.2.2.2 0 <;> decide
  have ino : ∀ p, p < M.2.1 → ∀ v, v < c p → ∃ q, q < p ∧ c q = v := fun p hp v hv => by
    have := c01 p
    refine ⟨0, ?_, by omega⟩
    rcases Nat.eq_zero_or_pos p with z | z
    · rw [z] at hv
      omega
    · exact z
  by_cases z : ∃ p, p < M.2.1 ∧ c p = 1
  · obtain ⟨p, hp, ep⟩ := z
    have g : cnu_ (M.2.1) (mrr_ M 0) c 2 := ⟨fun p q _ _ => pat p q, ino, fun p _ => by have := c01 p; omega, fun v hv => by
      by_cases y : v = 0
      · exact ⟨0, by omega, by omega⟩
      · exact ⟨p, hp, by omega⟩⟩
    have e : mct_ M 0 = 2 := ((cn_u g (nc_1 (mo_qv M 0) (M.2.1))).2).symm
    have hne : M.2.2.2.2 p ≠ M.2.2.2.2 0 := fun y => by
      have : c p = 0 := if_pos y
      omega
    rw [e, if_pos]
    rw [Bool.and_eq_true_iff, som_t, som_t]
    cases ha : M.2.2.2.2 0 with
    | true =>
      rw [ha] at hne
      exact ⟨⟨0, by omega, ha⟩, ⟨p, hp, by rw [bf_ hne]; rfl⟩⟩
    | false =>
      rw [ha] at hne
      have : M.2.2.2.2 p = true := by
        cases hb : M.2.2.2.2 p with
        | true => rfl
        | false => exact absurd hb hne
      exact ⟨⟨p, hp, this⟩, ⟨0, by omega, by rw [ha]; rfl⟩⟩
  · have hz : ∀ p, p < M.2.1 → c p = 0 := fun p hp => by
      rcases c01 p with y | y
      · exact y
      · exact absurd ⟨p, hp, y⟩ z
    have g : cnu_ (M.2.1) (mrr_ M 0) c 1 := ⟨fun p q _ _ => pat p q, ino, fun p hp => by rw [hz p hp]; exact Nat.zero_lt_one, fun v hv => ⟨0, by omega, by omega⟩⟩
    have e : mct_ M 0 = 1 := ((cn_u g (nc_1 (mo_qv M 0) (M.2.1))).2).symm
    have he : ∀ p, p < M.2.1 → M.2.2.2.2 p = M.2.2.2.2 0 := fun p hp => by
      have := hz p hp
      by_cases y : M.2.2.2.2 p = M.2.2.2.2 0
      · exact y
      · have : c p = 1 := if_neg y
        omega
    rw [e, if_neg]
    rw [Bool.and_eq_true_iff, som_t, som_t]
    rintro ⟨⟨p, p1, p2⟩, ⟨q, q1, q2⟩⟩
    rw [he p p1] at p2
    rw [he q q1, p2] at q2
    cases q2
/-- staysWith -/
def sb_ (M : ma_) (c : Nat → Nat) (p q : Nat) : Nat → Bool
  | 0 => decide (c p = c q)
  | l + 1 => sb_ M c p q l && decide (c (M.2.2.2.1 p l) = c (M.2.2.2.1 q l))
theorem sb_t {M : ma_} (hM : wm_ M) {c : Nat → Nat} {r : Nat} (h : ∀ p q, p < M.2.1 → q < M.2.1 → (c p = c q ↔ mrr_ M r p q)) {p q : Nat} (hp : p < M.2.1) (hq : q < M.2.1) : ∀ l, l ≤ M.1 → (sb_ M c p q l = true ↔ el_ M r l p q) := by
  intro l
  induction l with
  | zero =>
    intro _
    show decide _ = true ↔ _
    rw [decide_eq_true_iff, h p q hp hq]
    exact ⟨fun z => ⟨z, fun j hj => absurd hj (by omega)⟩, fun z => z.1⟩
  | succ l ih =>
    intro hl
    show (sb_ M c p q l && decide _) = true ↔ _
    rw [Bool.and_eq_true_iff, ih (by omega), decide_eq_true_iff, h _ _ (hM.2.2.2 p l hp (by omega)) (hM.2.2.2 q l hq (by omega)), el_s]
section ROUNDS
variable {w : (Nat → Int32) × Nat} {d : Nat} {D : dy_} {M : ma_}
theorem x129 {c : Nat → Nat} {p q : Nat} (hM : wm_ M) (hb : bg_ D M) (hn : M.2.1 ≤ 3600) (w1 : nwr_ D 362 (M.2.1) c) (b1 : ∀ p, p < M.2.1 → c p < 3600) (hp : p < M.2.1) (hq : q < M.2.1) : k129_0 w (d + 1) (nI p) (nI q) D = some (some (.int (b2_ (sb_ M c p q (M.1)))), D) := by
  have hk := hM.1
  have st : k129_0 w (d + 1) (nI p) (nI q) D = k129_24 w (d + 1) (nI p) (nI q) (b2_ (sb_ M c p q 0)) (nI 0) D := by
    have := b1 p hp
    have := b1 q hq
    rw [e129_0]
    simp (disch := omega) only [nI_add, pk_mul, nI_clamp, nI_leI, nI_ltI, nI_eq, inb_, iz1_, iz2_, iz3_, iz4_, iz5_, reduceIte, op_os, op_vIs, op_vLs, op_vRs, op_vNs, dI_at, dL_at, dI_2, dL_1, Nat.reduceEqDiff, Nat.reduceAdd, Nat.reduceMul, false_and, and_false, true_and, and_true, ne_eq, not_true_eq_false, not_false_eq_true, b2_z, b2_o, b2_n, b2_01, nar_b, nar_0, nar_1, Bool.false_eq_true, Bool.true_eq_false, w1 p hp, w1 q hq]
    show _ = k129_24 w (d + 1) (nI p) (nI q) (b2_ (decide (c p = c q))) (nI 0) D
    by_cases z : c p = c q
    · rw [if_neg (fun y => y z), decide_eq_true z, e129_20]
      rfl
    · rw [if_pos z, decide_eq_false z, e129_20]
      rfl
  rw [st]
  have := lq_ (fun l (x : Bool) => k129_24 w (d + 1) (nI p) (nI q) (b2_ x) (nI l) D) (fun l => sb_ M c p q l) (M.1) (by
    intro l hl
    have g1 := hM.2.2.2 p l hp hl
    have g2 := hM.2.2.2 q l hq hl
    have := b1 _ g1
    have := b1 _ g2
    show k129_24 w (d + 1) (nI p) (nI q) (b2_ (sb_ M c p q l)) (nI l) D = k129_24 w (d + 1) (nI p) (nI q) (b2_ (sb_ M c p q l && decide (c (M.2.2.2.1 p l) = c (M.2.2.2.1 q l)))) (nI (l + 1)) D
    rw [e129_24]
    simp (disch := omega) only [nI_add, pk_mul, nI_clamp, nI_leI, nI_ltI, nI_eq, inb_, iz1_, iz2_, iz3_, iz4_, iz5_, reduceIte, op_os, op_vIs, op_vLs, op_vRs, op_vNs, dI_at, dL_at, dI_2, dL_1, Nat.reduceEqDiff, Nat.reduceAdd, Nat.reduceMul, false_and, and_false, true_and, and_true, ne_eq, not_true_eq_false, not_false_eq_true, b2_z, b2_o, b2_n, b2_01, nar_b, nar_0, nar_1, Bool.false_eq_true, Bool.true_eq_false, hb.1, hb.2.2.1 p l hp hl, hb.2.2.1 q l hq hl, w1 _ g1, w1 _ g2]
    rw [if_neg (by omega)]
    cases sb_ M c p q l with
    | false =>
      rw [if_pos rfl, e129_76, e129_77]
      simp (disch := omega) only [nI_add, pk_mul, nI_clamp, nI_leI, nI_ltI, nI_eq, inb_, iz1_, iz2_, iz3_, iz4_, iz5_, reduceIte, if_pos, if_neg, op_os, op_vIs, op_vLs, op_vRs, op_vNs, dI_at, dL_at, dI_2, dL_1, Nat.reduceEqDiff, Nat.reduceAdd, Nat.reduceMul, false_and, and_false, true_and, and_true, ne_eq, not_true_eq_false, not_false_eq_true, b2_z, b2_o, b2_n, b2_01, nar_b, nar_0, nar_1, Bool.false_eq_true, Bool.true_eq_false]
      rfl
    | true =>
      rw [if_neg (by decide)]
      by_cases z : c (M.2.2.2.1 p l) = c (M.2.2.2.1 q l)
      · rw [if_neg (fun y => y z), decide_eq_true z, e129_77]
        simp (disch := omega) only [nI_add, pk_mul, nI_clamp, nI_leI, nI_ltI, nI_eq, inb_, iz1_, iz2_, iz3_, iz4_, iz5_, reduceIte, if_pos, if_neg, op_os, op_vIs, op_vLs, op_vRs, op_vNs, dI_at, dL_at, dI_2, dL_1, Nat.reduceEqDiff, Nat.reduceAdd, Nat.reduceMul, false_and, and_false, true_and, and_true, ne_eq, not_true_eq_false, not_false_eq_true, b2_z, b2_o, b2_n, b2_01, nar_b, nar_0, nar_1, Bool.false_eq_true, Bool.true_eq_false]
        rfl
      · rw [if_pos z, decide_eq_false z, e129_76, e129_77]
        simp (disch := omega) only [nI_add, pk_mul, nI_clamp, nI_leI, nI_ltI, nI_eq, inb_, iz1_, iz2_, iz3_, iz4_, iz5_, reduceIte, if_pos, if_neg, op_os, op_vIs, op_vLs, op_vRs, op_vNs, dI_at, dL_at, dI_2, dL_1, Nat.reduceEqDiff, Nat.reduceAdd, Nat.reduceMul, false_and, and_false, true_and, and_true, ne_eq, not_true_eq_false, not_false_eq_true, b2_z, b2_o, b2_n, b2_01, nar_b, nar_0, nar_1, Bool.false_eq_true, Bool.true_eq_false]
        rfl)
  refine this.trans ?_
  show k129_24 w (d + 1) (nI p) (nI q) (b2_ (sb_ M c p q (M.1))) (nI (M.1)) D = _
  rw [e129_24]
  simp (disch := omega) only [nI_add, pk_mul, nI_clamp, nI_leI, nI_ltI, nI_eq, inb_, iz1_, iz2_, iz3_, iz4_, iz5_, reduceIte, if_pos, if_neg, op_os, op_vIs, op_vLs, op_vRs, op_vNs, dI_at, dL_at, dI_2, dL_1, Nat.reduceEqDiff, Nat.reduceAdd, Nat.reduceMul, false_and, and_false, true_and, and_true, ne_eq, not_true_eq_false, not_false_eq_true, b2_z, b2_o, b2_n, b2_01, nar_b, nar_0, nar_1, Bool.false_eq_true, Bool.true_eq_false, hb.1, Nat.le_refl]
/-- the search for an earlier like state -/
theorem x130q {c c' : Nat → Nat} {p : Nat} {i1 i4 i5 : Int32} (hM : wm_ M) (hn : M.2.1 ≤ 3600) (b1 : ∀ p, p < M.2.1 → c p < 3600) (hp : p < M.2.1) (bc : ∀ q, q < p → c' q < 3600) : ∀ u q (E : dy_), q + u = p → bg_ E M → nwr_ E 362 (M.2.1) c → nwr_ E 363 p c' → E.1 363 p = -1 → (∀ x, x < q → sb_ M c p x (M.1) = false) → ∃ D', k130_143 w (d + 2) i1 i4 i5 (nI p) (nI q) E = k130_196 w (d + 2) i1 i4 i5 (nI p) D' ∧ (∀ j, j ≠ p → D'.1 363 j = E.1 363 j) ∧ fx_ (fun b => b = 363) (fun _ => False) E D' ∧ ((∃ x, x < p ∧ sb_ M c p x (M.1) = true ∧ D'.1 363 p = nI (c' x)) ∨ ((∀ x, x < p → sb_ M c p x (M.1) = false) ∧ D'.1 363 p = -1)) := by
  intro u
  induction u with
  | zero =>
    intro q E hu hb w1 w2 h1 h2
    obtain rfl : q = p := by omega
    refine ⟨E, ?_, fun _ _ => rfl, fx_r _ _ E, Or.inr ⟨h2, h1⟩⟩
    rw [e130_143]
    simp (disch := omega) only [nI_add, pk_mul, nI_clamp, nI_leI, nI_ltI, nI_eq, inb_, iz1_, iz2_, iz3_, iz4_, iz5_, reduceIte, if_pos, if_neg, op_os, op_vIs, op_vLs, op_vRs, op_vNs, dI_at, dL_at, dI_2, dL_1, Nat.reduceEqDiff, Nat.reduceAdd, Nat.reduceMul, false_and, and_false, true_and, and_true, ne_eq, not_true_eq_false, not_false_eq_true, b2_z, b2_o, b2_n, b2_01, nar_b, nar_0, nar_1, Bool.false_eq_true, Bool.true_eq_false, Nat.le_refl]
  | succ u ih =>
    intro q E hu hb w1 w2 h1 h2
    have hq : q < M.2.1 := by omega
    have hqp : q < p := by omega
    have hcq := bc q hqp
    rw [e130_143]
    cases hs : sb_ M c p q (M.1) with
    | true =>
      refine ⟨dI_ E 363 p (nI (c' q)), ?_, fun j hj => by simp (disch := omega) only [nI_add, pk_mul, nI_clamp, nI_leI, nI_ltI, nI_eq, inb_, iz1_, iz2_, iz3_, iz4_, iz5_, reduceIte, if_pos, if_neg, op_os, op_vIs, op_vLs, op_vRs, op_vNs, dI_at, dL_at, dI_2, dL_1, Nat.reduceEqDiff, Nat.reduceAdd, Nat.reduceMul, false_and, and_false, true_and, and_true, ne_eq, not_true_eq_false, not_false_eq_true, b2_z, b2_o, b2_n, b2_01, nar_b, nar_0, nar_1, Bool.false_eq_true, Bool.true_eq_false], fx_1 (fx_r _ _ E) (by omega), Or.inl ⟨q, hqp, hs, by simp (disch := omega) only [nI_add, pk_mul, nI_clamp, nI_leI, nI_ltI, nI_eq, inb_, iz1_, iz2_, iz3_, iz4_, iz5_, reduceIte, if_pos, if_neg, op_os, op_vIs, op_vLs, op_vRs, op_vNs, dI_at, dL_at, dI_2, dL_1, Nat.reduceEqDiff, Nat.reduceAdd, Nat.reduceMul, false_and, and_false, true_and, and_true, ne_eq, not_true_eq_false, not_false_eq_true, b2_z, b2_o, b2_n, b2_01, nar_b, nar_0, nar_1, Bool.false_eq_true, Bool.true_eq_false]⟩⟩
      simp (disch := omega) only [nI_add, pk_mul, nI_clamp, nI_leI, nI_ltI, nI_eq, inb_, iz1_, iz2_, iz3_, iz4_, iz5_, reduceIte, if_pos, if_neg, op_os, op_vIs, op_vLs, op_vRs, op_vNs, dI_at, dL_at, dI_2, dL_1, Nat.reduceEqDiff, Nat.reduceAdd, Nat.reduceMul, false_and, and_false, true_and, and_true, ne_eq, not_true_eq_false, not_false_eq_true, b2_z, b2_o, b2_n, b2_01, nar_b, nar_0, nar_1, Bool.false_eq_true, Bool.true_eq_false, h1, x129 hM hb hn w1 b1 hp hq, hs, w2 q hqp, e130_189, sf_363]
      rw [e130_143]
      simp (disch := omega) only [nI_add, pk_mul, nI_clamp, nI_leI, nI_ltI, nI_eq, inb_, iz1_, iz2_, iz3_, iz4_, iz5_, reduceIte, op_os, op_vIs, op_vLs, op_vRs, op_vNs, dI_at, dL_at, dI_2, dL_1, Nat.reduceEqDiff, Nat.reduceAdd, Nat.reduceMul, false_and, and_false, true_and, and_true, ne_eq, not_true_eq_false, not_false_eq_true, b2_z, b2_o, b2_n, b2_01, nar_b, nar_0, nar_1, Bool.false_eq_true, Bool.true_eq_false]
      by_cases z : p ≤ q + 1
      · rw [if_pos z]
      · rw [if_neg z]
    | false =>
      obtain ⟨D', i1', i2, i3, i4'⟩ := ih (q + 1) (dI_ E 363 p (-1)) (by omega) (bg_fx hb (fx_1 (fx_r (fun b => b = 363) (fun _ => False) E) (by omega)) id id (by omega) (by omega)) (fun x hx => by simp (disch := omega) only [nI_add, pk_mul, nI_clamp, nI_leI, nI_ltI, nI_eq, inb_, iz1_, iz2_, iz3_, iz4_, iz5_, reduceIte, if_pos, if_neg, op_os, op_vIs, op_vLs, op_vRs, op_vNs, dI_at, dL_at, dI_2, dL_1, Nat.reduceEqDiff, Nat.reduceAdd, Nat.reduceMul, false_and, and_false, true_and, and_true, ne_eq, not_true_eq_false, not_false_eq_true, b2_z, b2_o, b2_n, b2_01, nar_b, nar_0, nar_1, Bool.false_eq_true, Bool.true_eq_false]; exact w1 x hx) (fun x hx => by simp (disch := omega) only [nI_add, pk_mul, nI_clamp, nI_leI, nI_ltI, nI_eq, inb_, iz1_, iz2_, iz3_, iz4_, iz5_, reduceIte, if_pos, if_neg, op_os, op_vIs, op_vLs, op_vRs, op_vNs, dI_at, dL_at, dI_2, dL_1, Nat.reduceEqDiff, Nat.reduceAdd, Nat.reduceMul, false_and, and_false, true_and, and_true, ne_eq, not_true_eq_false, not_false_eq_true, b2_z, b2_o, b2_n, b2_01, nar_b, nar_0, nar_1, Bool.false_eq_true, Bool.true_eq_false]; exact w2 x hx) (by simp (disch := omega) only [nI_add, pk_mul, nI_clamp, nI_leI, nI_ltI, nI_eq, inb_, iz1_, iz2_, iz3_, iz4_, iz5_, reduceIte, if_pos, if_neg, op_os, op_vIs, op_vLs, op_vRs, op_vNs, dI_at, dL_at, dI_2, dL_1, Nat.reduceEqDiff, Nat.reduceAdd, Nat.reduceMul, false_and, and_false, true_and, and_true, ne_eq, not_true_eq_false, not_false_eq_true, b2_z, b2_o, b2_n, b2_01, nar_b, nar_0, nar_1, Bool.false_eq_true, Bool.true_eq_false]) (fun x hx => by
        by_cases z : x = q
        · rw [z]; exact hs
        · exact h2 x (by omega))
      refine ⟨D', ?_, fun j hj => ?_, fx_t (fx_1 (fx_r _ _ E) (by omega)) i3, i4'⟩
      · simp (disch := omega) only [nI_add, pk_mul, nI_clamp, nI_leI, nI_ltI, nI_eq, inb_, iz1_, iz2_, iz3_, iz4_, iz5_, reduceIte, if_pos, if_neg, op_os, op_vIs, op_vLs, op_vRs, op_vNs, dI_at, dL_at, dI_2, dL_1, Nat.reduceEqDiff, Nat.reduceAdd, Nat.reduceMul, false_and, and_false, true_and, and_true, ne_eq, not_true_eq_false, not_false_eq_true, b2_z, b2_o, b2_n, b2_01, nar_b, nar_0, nar_1, Bool.false_eq_true, Bool.true_eq_false, h1, x129 hM hb hn w1 b1 hp hq, hs, e130_189, sf_363]
        exact i1'
      · rw [i2 j hj]
        simp (disch := omega) only [nI_add, pk_mul, nI_clamp, nI_leI, nI_ltI, nI_eq, inb_, iz1_, iz2_, iz3_, iz4_, iz5_, reduceIte, if_pos, if_neg, op_os, op_vIs, op_vLs, op_vRs, op_vNs, dI_at, dL_at, dI_2, dL_1, Nat.reduceEqDiff, Nat.reduceAdd, Nat.reduceMul, false_and, and_false, true_and, and_true, ne_eq, not_true_eq_false, not_false_eq_true, b2_z, b2_o, b2_n, b2_01, nar_b, nar_0, nar_1, Bool.false_eq_true, Bool.true_eq_false]
/-- the rounds -/
theorem x130r (hM : wm_ M) (hn : M.2.1 ≤ 3600) : ∀ u r bf nw (E : dy_) c, 3601 ≤ nw + u → bg_ E M → (∀ p q, p < M.2.1 → q < M.2.1 → (c p = c q ↔ mrr_ M r p q)) → (∀ p, p < M.2.1 → c p < 3600) → nwr_ E 362 (M.2.1) c → nw ≤ 3600 → bf ≤ 3600 → r ≤ nw → (r = 0 → bf = 0) → (r ≠ 0 → bf = mct_ M (r - 1)) → nw = mct_ M r → (∀ s, s + 1 < r → mct_ M s < mct_ M (s + 1)) → ∃ D', k130_106 w (d + 2) (nI nw) (nI r) (nI bf) E = some (some (.int (nI (rd_ct M))), D') ∧ fx_ (fun b => b = 362 ∨ b = 363) (fun _ => False) E D' := by
  intro u
  induction u with
  | zero =>
    intro r bf nw E c hu
    intros
    omega
  | succ u ih =>
    intro r bf nw E c hu hb h1 b1 w1 hnw hbf hrn r0 r1 hm hr
    have hk := hM.1
    have hge : ∀ s, 1 ≤ mct_ M s := fun s => Nat.lt_of_le_of_lt (Nat.zero_le _) ((nc_1 (mo_qv M s) (M.2.1)).2.2.1 0 hM.2.1)
    rw [e130_106]
    by_cases z : nw ≤ bf
    · have hr0 : r ≠ 0 := fun y => by
        have := r0 y
        have := hge r
        omega
      have e := rd_eq (M := M) (r := r - 1) (fun s hs => hr s (by omega)) (by rw [show r - 1 + 1 = r by omega, ← hm, ← r1 hr0]; exact z)
      refine ⟨E, ?_, fx_r _ _ E⟩
      rw [e, show r - 1 + 1 = r by omega]
      simp (disch := omega) only [nI_add, pk_mul, nI_clamp, nI_leI, nI_ltI, nI_eq, inb_, iz1_, iz2_, iz3_, iz4_, iz5_, reduceIte, if_pos, if_neg, op_os, op_vIs, op_vLs, op_vRs, op_vNs, dI_at, dL_at, dI_2, dL_1, Nat.reduceEqDiff, Nat.reduceAdd, Nat.reduceMul, false_and, and_false, true_and, and_true, ne_eq, not_true_eq_false, not_false_eq_true, b2_z, b2_o, b2_n, b2_01, nar_b, nar_0, nar_1, Bool.false_eq_true, Bool.true_eq_false]
    · have hlt : ∀ s, s < r → mct_ M s < mct_ M (s + 1) := fun s hs => by
        by_cases y : s + 1 < r
        · exact hr s y
        · have : s = r - 1 := by omega
          rw [this, ← r1 (by omega), show r - 1 + 1 = r by omega, ← hm]
          omega
      have hE : qv1_ (mrr_ M (r + 1)) := mo_qv M (r + 1)
      have sbr : ∀ p q, p < M.2.1 → q < M.2.1 → (sb_ M c p q (M.1) = true ↔ mrr_ M (r + 1) p q) := fun p q hp hq => sb_t hM h1 hp hq (M.1) (Nat.le_refl _)
      obtain ⟨⟨m', E1⟩, a1, ⟨c', a2, a3⟩, a4⟩ := lp_ (fun p (s : Nat × dy_) => k130_123 w (d + 2) (nI s.1) (nI (r + 1)) (nI nw) (nI p) s.2) (fun p s => (∃ c', cnu_ p (mrr_ M (r + 1)) c' s.1 ∧ nwr_ s.2 363 p c') ∧ fx_ (fun b => b = 363) (fun _ => False) E s.2) (M.2.1) (s := (0, E)) (by
        rintro p ⟨m', F⟩ hp ⟨⟨c', t1, t2⟩, t3⟩
        have t1' : cnu_ p (mrr_ M (r + 1)) c' m' := t1
        have hbF : bg_ F M := bg_fx hb t3 id id (by omega) (by omega)
        have hwF : nwr_ F 362 (M.2.1) c := fun x hx => by
          have t3' : F.1 362 = E.1 362 := t3.1 362 (by omega) (by omega)
          rw [t3']
          exact w1 x hx
        have hmp : m' ≤ p := cn_m t1'
        have bc : ∀ q, q < p → c' q < 3600 := fun q hq => by
          have := t1'.2.2.1 q hq
          omega
        generalize hF1 : dI_ F 363 p (-1) = F1
        have fr1 : fx_ (fun b => b = 363) (fun _ => False) F F1 := by
          rw [← hF1]
          exact fx_1 (fx_r _ _ F) (by omega)
        obtain ⟨F2, g1, g2, g3, g4⟩ := x130q (w := w) (d := d) (c := c) (c' := c') (p := p) (i1 := nI m') (i4 := nI (r + 1)) (i5 := nI nw) hM hn b1 hp bc p 0 F1 (by omega) (bg_fx hbF fr1 id id (by omega) (by omega)) (fun x hx => by rw [fr1.1 362 (by omega) (by omega)]; exact hwF x hx) (fun x hx => by rw [← hF1]; simp (disch := omega) only [nI_add, pk_mul, nI_clamp, nI_leI, nI_ltI, nI_eq, inb_, iz1_, iz2_, iz3_, iz4_, iz5_, reduceIte, if_pos, if_neg, op_os, op_vIs, op_vLs, op_vRs, op_vNs, dI_at, dL_at, dI_2, dL_1, Nat.reduceEqDiff, Nat.reduceAdd, Nat.reduceMul, false_and, and_false, true_and, and_true, ne_eq, not_true_eq_false, not_false_eq_true, b2_z, b2_o, b2_n, b2_01, nar_b, nar_0, nar_1, Bool.false_eq_true, Bool.true_eq_false]; exact t2 x hx) (by rw [← hF1]; simp (disch := omega) only [nI_add, pk_mul, nI_clamp, nI_leI, nI_ltI, nI_eq, inb_, iz1_, iz2_, iz3_, iz4_, iz5_, reduceIte, if_pos, if_neg, op_os, op_vIs, op_vLs, op_vRs, op_vNs, dI_at, dL_at, dI_2, dL_1, Nat.reduceEqDiff, Nat.reduceAdd, Nat.reduceMul, false_and, and_false, true_and, and_true, ne_eq, not_true_eq_false, not_false_eq_true, b2_z, b2_o, b2_n, b2_01, nar_b, nar_0, nar_1, Bool.false_eq_true, Bool.true_eq_false]) (fun x hx => absurd hx (by omega))
        have g2' : ∀ j, j < p → F2.1 363 j = nI (c' j) := fun j hj => by
          rw [g2 j (by omega), ← hF1]
          simp (disch := omega) only [nI_add, pk_mul, nI_clamp, nI_leI, nI_ltI, nI_eq, inb_, iz1_, iz2_, iz3_, iz4_, iz5_, reduceIte, if_pos, if_neg, op_os, op_vIs, op_vLs, op_vRs, op_vNs, dI_at, dL_at, dI_2, dL_1, Nat.reduceEqDiff, Nat.reduceAdd, Nat.reduceMul, false_and, and_false, true_and, and_true, ne_eq, not_true_eq_false, not_false_eq_true, b2_z, b2_o, b2_n, b2_01, nar_b, nar_0, nar_1, Bool.false_eq_true, Bool.true_eq_false]
          exact t2 j hj
        have nxt : ∀ v q, q < p → (if q = p then v else c' q) = c' q := fun v q hq => if_neg (by omega)
        have st : k130_123 w (d + 2) (nI m') (nI (r + 1)) (nI nw) (nI p) F = k130_196 w (d + 2) (nI m') (nI (r + 1)) (nI nw) (nI p) F2 := by
          rw [e130_123]
          simp (disch := omega) only [nI_add, pk_mul, nI_clamp, nI_leI, nI_ltI, nI_eq, inb_, iz1_, iz2_, iz3_, iz4_, iz5_, reduceIte, if_pos, if_neg, op_os, op_vIs, op_vLs, op_vRs, op_vNs, dI_at, dL_at, dI_2, dL_1, Nat.reduceEqDiff, Nat.reduceAdd, Nat.reduceMul, false_and, and_false, true_and, and_true, ne_eq, not_true_eq_false, not_false_eq_true, b2_z, b2_o, b2_n, b2_01, nar_b, nar_0, nar_1, Bool.false_eq_true, Bool.true_eq_false, hbF.2.1]
          rw [hF1]
          exact g1
        rcases g4 with ⟨x, x1, x2, x3⟩ | ⟨x1, x2⟩
        · have := bc x x1
          refine ⟨(m', F2), ?_, ⟨fun q => if q = p then c' x else c' q, cn_o hE t1' (nxt _) x1 (hE.2.1 _ _ ((sbr p x hp (by omega)).mp x2)) (if_pos rfl), fun q hq => ?_⟩, fx_t t3 (fx_t fr1 g3)⟩
          · refine Eq.trans st ?_
            rw [e130_196]
            simp (disch := omega) only [nI_add, pk_mul, nI_clamp, nI_leI, nI_ltI, nI_eq, inb_, iz1_, iz2_, iz3_, iz4_, iz5_, reduceIte, if_pos, if_neg, op_os, op_vIs, op_vLs, op_vRs, op_vNs, dI_at, dL_at, dI_2, dL_1, Nat.reduceEqDiff, Nat.reduceAdd, Nat.reduceMul, false_and, and_false, true_and, and_true, ne_eq, not_true_eq_false, not_false_eq_true, b2_z, b2_o, b2_n, b2_01, nar_b, nar_0, nar_1, Bool.false_eq_true, Bool.true_eq_false, x3, e130_218]
          · show F2.1 363 q = nI (if q = p then c' x else c' q)
            by_cases y : q = p
            · rw [if_pos y, y]; exact x3
            · rw [if_neg y]
              exact g2' q (by omega)
        · refine ⟨(m' + 1, dI_ F2 363 p (nI m')), ?_, ⟨fun q => if q = p then m' else c' q, cn_n hE t1' (nxt _) (fun q hq e => by
            have := (sbr p q hp (by omega)).mpr (hE.2.1 _ _ e)
            rw [x1 q hq] at this
            cases this) (if_pos rfl), fun q hq => ?_⟩, fx_1 (fx_t t3 (fx_t fr1 g3)) (by omega)⟩
          · refine Eq.trans st ?_
            rw [e130_196]
            simp (disch := omega) only [nI_add, pk_mul, nI_clamp, nI_leI, nI_ltI, nI_eq, inb_, iz1_, iz2_, iz3_, iz4_, iz5_, reduceIte, if_pos, if_neg, op_os, op_vIs, op_vLs, op_vRs, op_vNs, dI_at, dL_at, dI_2, dL_1, Nat.reduceEqDiff, Nat.reduceAdd, Nat.reduceMul, false_and, and_false, true_and, and_true, ne_eq, not_true_eq_false, not_false_eq_true, b2_z, b2_o, b2_n, b2_01, nar_b, nar_0, nar_1, Bool.false_eq_true, Bool.true_eq_false, x2, e130_218]
          · show (dI_ F2 363 p (nI m')).1 363 q = nI (if q = p then m' else c' q)
            simp (disch := omega) only [nI_add, pk_mul, nI_clamp, nI_leI, nI_ltI, nI_eq, inb_, iz1_, iz2_, iz3_, iz4_, iz5_, reduceIte, op_os, op_vIs, op_vLs, op_vRs, op_vNs, dI_at, dL_at, dI_2, dL_1, Nat.reduceEqDiff, Nat.reduceAdd, Nat.reduceMul, false_and, and_false, true_and, and_true, ne_eq, not_true_eq_false, not_false_eq_true, b2_z, b2_o, b2_n, b2_01, nar_b, nar_0, nar_1, Bool.false_eq_true, Bool.true_eq_false]
            by_cases y : q = p
            · rw [if_pos y, if_pos y]
            · rw [if_neg y, if_neg y]
              exact g2' q (by omega)) ⟨⟨fun _ => 0, cn_0 _ _, fun p hp => absurd hp (by omega)⟩, fx_r _ _ E⟩
      have a2' : cnu_ (M.2.1) (mrr_ M (r + 1)) c' m' := a2
      have a4' : fx_ (fun b => b = 363) (fun _ => False) E E1 := a4
      have hb1 := bg_fx hb a4' id id (by omega) (by omega)
      have hm1 := cn_m a2'
      have hm1' : m' = mct_ M (r + 1) := (cn_u a2' (nc_1 (mo_qv M (r + 1)) _)).2
      obtain ⟨E3, f1, f2, f3⟩ := lp_ (fun s (F : dy_) => k130_227 w (d + 2) (nI m') (nI (r + 1)) (nI nw) (nI s) F) (fun s F => nwr_ F 362 s c' ∧ fx_ (fun b => b = 362) (fun _ => False) E1 F) (M.2.1) (s := E1) (by
        rintro s F hs ⟨t1, t2⟩
        have hw3 : E1.1 363 s = nI (c' s) := a3 s hs
        refine ⟨dI_ F 362 s (nI (c' s)), ?_, fun p hp => ?_, fx_1 t2 (by omega)⟩
        · show k130_227 w (d + 2) (nI m') (nI (r + 1)) (nI nw) (nI s) F = _
          rw [e130_227]
          simp (disch := omega) only [nI_add, pk_mul, nI_clamp, nI_leI, nI_ltI, nI_eq, inb_, iz1_, iz2_, iz3_, iz4_, iz5_, reduceIte, if_pos, if_neg, op_os, op_vIs, op_vLs, op_vRs, op_vNs, dI_at, dL_at, dI_2, dL_1, Nat.reduceEqDiff, Nat.reduceAdd, Nat.reduceMul, false_and, and_false, true_and, and_true, ne_eq, not_true_eq_false, not_false_eq_true, b2_z, b2_o, b2_n, b2_01, nar_b, nar_0, nar_1, Bool.false_eq_true, Bool.true_eq_false, t2.2.1 9 id, hb1.2.1, t2.1 363 (by omega) (by omega), hw3]
        · simp (disch := omega) only [nI_add, pk_mul, nI_clamp, nI_leI, nI_ltI, nI_eq, inb_, iz1_, iz2_, iz3_, iz4_, iz5_, reduceIte, op_os, op_vIs, op_vLs, op_vRs, op_vNs, dI_at, dL_at, dI_2, dL_1, Nat.reduceEqDiff, Nat.reduceAdd, Nat.reduceMul, false_and, and_false, true_and, and_true, ne_eq, not_true_eq_false, not_false_eq_true, b2_z, b2_o, b2_n, b2_01, nar_b, nar_0, nar_1, Bool.false_eq_true, Bool.true_eq_false]
          by_cases y : p = s
          · rw [if_pos y, y]
          · rw [if_neg y]
            exact t1 p (by omega)) ⟨fun p hp => absurd hp (by omega), fx_r _ _ E1⟩
      have hb3 := bg_fx hb1 f3 id id (by omega) (by omega)
      have fr : fx_ (fun b => b = 362 ∨ b = 363) (fun _ => False) E E3 := fx_t (fx_w a4' (fun b hb => Or.inr hb) (fun j hj => hj)) (fx_w f3 (fun b hb => Or.inl hb) (fun j hj => hj))
      have st : k130_123 w (d + 2) (nI 0) (nI (r + 1)) (nI nw) (nI 0) E = k130_106 w (d + 2) (nI m') (nI (r + 1)) (nI nw) E3 := by
        refine Eq.trans (show _ = k130_123 w (d + 2) (nI m') (nI (r + 1)) (nI nw) (nI (M.2.1)) E1 from a1) ?_
        rw [e130_123]
        simp (disch := omega) only [nI_add, pk_mul, nI_clamp, nI_leI, nI_ltI, nI_eq, inb_, iz1_, iz2_, iz3_, iz4_, iz5_, reduceIte, if_pos, if_neg, op_os, op_vIs, op_vLs, op_vRs, op_vNs, dI_at, dL_at, dI_2, dL_1, Nat.reduceEqDiff, Nat.reduceAdd, Nat.reduceMul, false_and, and_false, true_and, and_true, ne_eq, not_true_eq_false, not_false_eq_true, b2_z, b2_o, b2_n, b2_01, nar_b, nar_0, nar_1, Bool.false_eq_true, Bool.true_eq_false, hb1.2.1, Nat.le_refl]
        refine Eq.trans (show _ = k130_227 w (d + 2) (nI m') (nI (r + 1)) (nI nw) (nI (M.2.1)) E3 from f1) ?_
        rw [e130_227]
        simp (disch := omega) only [nI_add, pk_mul, nI_clamp, nI_leI, nI_ltI, nI_eq, inb_, iz1_, iz2_, iz3_, iz4_, iz5_, reduceIte, if_pos, if_neg, op_os, op_vIs, op_vLs, op_vRs, op_vNs, dI_at, dL_at, dI_2, dL_1, Nat.reduceEqDiff, Nat.reduceAdd, Nat.reduceMul, false_and, and_false, true_and, and_true, ne_eq, not_true_eq_false, not_false_eq_true, b2_z, b2_o, b2_n, b2_01, nar_b, nar_0, nar_1, Bool.false_eq_true, Bool.true_eq_false, hb3.2.1, Nat.le_refl]
      by_cases y : m' ≤ nw
      · have e := rd_eq hlt (by omega)
        refine ⟨E3, ?_, fr⟩
        simp (disch := omega) only [nI_add, pk_mul, nI_clamp, nI_leI, nI_ltI, nI_eq, inb_, iz1_, iz2_, iz3_, iz4_, iz5_, reduceIte, if_pos, if_neg, op_os, op_vIs, op_vLs, op_vRs, op_vNs, dI_at, dL_at, dI_2, dL_1, Nat.reduceEqDiff, Nat.reduceAdd, Nat.reduceMul, false_and, and_false, true_and, and_true, ne_eq, not_true_eq_false, not_false_eq_true, b2_z, b2_o, b2_n, b2_01, nar_b, nar_0, nar_1, Bool.false_eq_true, Bool.true_eq_false]
        rw [st, e130_106, e]
        simp (disch := omega) only [nI_add, pk_mul, nI_clamp, nI_leI, nI_ltI, nI_eq, inb_, iz1_, iz2_, iz3_, iz4_, iz5_, reduceIte, if_pos, if_neg, op_os, op_vIs, op_vLs, op_vRs, op_vNs, dI_at, dL_at, dI_2, dL_1, Nat.reduceEqDiff, Nat.reduceAdd, Nat.reduceMul, false_and, and_false, true_and, and_true, ne_eq, not_true_eq_false, not_false_eq_true, b2_z, b2_o, b2_n, b2_01, nar_b, nar_0, nar_1, Bool.false_eq_true, Bool.true_eq_false]
      · obtain ⟨D', i1, i2⟩ := ih (r + 1) nw m' E3 c' (by omega) hb3 a2'.1 (fun p hp => by have := a2'.2.2.1 p hp; omega) f2 (by omega) hnw (by omega) (fun x => absurd x (by omega)) (fun _ => by rw [Nat.add_sub_cancel]; exact hm) hm1' (fun s hs => hlt s (by omega))
        refine ⟨D', ?_, fx_t fr i2⟩
        simp (disch := omega) only [nI_add, pk_mul, nI_clamp, nI_leI, nI_ltI, nI_eq, inb_, iz1_, iz2_, iz3_, iz4_, iz5_, reduceIte, if_pos, if_neg, op_os, op_vIs, op_vLs, op_vRs, op_vNs, dI_at, dL_at, dI_2, dL_1, Nat.reduceEqDiff, Nat.reduceAdd, Nat.reduceMul, false_and, and_false, true_and, and_true, ne_eq, not_true_eq_false, not_false_eq_true, b2_z, b2_o, b2_n, b2_01, nar_b, nar_0, nar_1, Bool.false_eq_true, Bool.true_eq_false]
        rw [st]
        exact i1
/-- byRounds -/
theorem x130 (hM : wm_ M) (hb : bg_ D M) (hn : M.2.1 ≤ 3600) : ∃ D', k130_0 w (d + 2) D = some (some (.int (nI (rd_ct M))), D') ∧ fx_ (fun b => b = 362 ∨ b = 363) (fun _ => False) D D' := by
  have h1 := hM.2.1
  let c : Nat → Nat := fun p => if M.2.2.2.2 p then 1 else 0
  rw [e130_0]
  obtain ⟨E, a1, a2, a3⟩ := lp_ (fun s (F : dy_) => k130_9 w (d + 2) (b2_ (som_ (M.2.2.2.2) s)) (b2_ (som_ (fun p => !M.2.2.2.2 p) s)) (nI s) F) (fun s F => nwr_ F 362 s c ∧ fx_ (fun b => b = 362) (fun _ => False) D F) (M.2.1) (s := D) (by
    rintro s F hs ⟨t1, t2⟩
    have g1 : F.1 359 s = b2_ (M.2.2.2.2 s) := by
      rw [t2.1 359 (by omega) (by omega)]
      exact hb.2.2.2 s hs
    refine ⟨dI_ F 362 s (nI (c s)), ?_, fun p hp => ?_, fx_1 t2 (by omega)⟩
    · show k130_9 w (d + 2) (b2_ (som_ (M.2.2.2.2) s)) (b2_ (som_ (fun p => !M.2.2.2.2 p) s)) (nI s) F = k130_9 w (d + 2) (b2_ (som_ (M.2.2.2.2) s || M.2.2.2.2 s)) (b2_ (som_ (fun p => !M.2.2.2.2 p) s || !M.2.2.2.2 s)) (nI (s + 1)) (dI_ F 362 s (nI (if M.2.2.2.2 s then 1 else 0)))
      rw [e130_9]
      simp (disch := omega) only [nI_add, pk_mul, nI_clamp, nI_leI, nI_ltI, nI_eq, inb_, iz1_, iz2_, iz3_, iz4_, iz5_, reduceIte, if_pos, if_neg, op_os, op_vIs, op_vLs, op_vRs, op_vNs, dI_at, dL_at, dI_2, dL_1, Nat.reduceEqDiff, Nat.reduceAdd, Nat.reduceMul, false_and, and_false, true_and, and_true, ne_eq, not_true_eq_false, not_false_eq_true, b2_z, b2_o, b2_n, b2_01, nar_b, nar_0, nar_1, Bool.false_eq_true, Bool.true_eq_false, t2.2.1 9 id, hb.2.1, g1]
      cases ha : M.2.2.2.2 s <;> cases som_ (M.2.2.2.2) s <;> cases som_ (fun p => !M.2.2.2.2 p) s <;> (rw [ha] at g1; simp (disch := omega) only [nI_add, pk_mul, nI_clamp, nI_leI, nI_ltI, nI_eq, inb_, iz1_, iz2_, iz3_, iz4_, iz5_, reduceIte, if_pos, if_neg, op_os, op_vIs, op_vLs, op_vRs, op_vNs, dI_at, dL_at, dI_2, dL_1, Nat.reduceEqDiff, Nat.reduceAdd, Nat.reduceMul, false_and, and_false, true_and, and_true, ne_eq, not_true_eq_false, not_false_eq_true, b2_z, b2_o, b2_n, b2_01, nar_b, nar_0, nar_1, Bool.false_eq_true, Bool.true_eq_false, e130_39, sf_362, g1, e130_54, e130_59, e130_74, e130_79]; rfl)
    · simp (disch := omega) only [nI_add, pk_mul, nI_clamp, nI_leI, nI_ltI, nI_eq, inb_, iz1_, iz2_, iz3_, iz4_, iz5_, reduceIte, op_os, op_vIs, op_vLs, op_vRs, op_vNs, dI_at, dL_at, dI_2, dL_1, Nat.reduceEqDiff, Nat.reduceAdd, Nat.reduceMul, false_and, and_false, true_and, and_true, ne_eq, not_true_eq_false, not_false_eq_true, b2_z, b2_o, b2_n, b2_01, nar_b, nar_0, nar_1, Bool.false_eq_true, Bool.true_eq_false]
      by_cases y : p = s
      · rw [if_pos y, y]
      · rw [if_neg y]
        exact t1 p (by omega)) ⟨fun p hp => absurd hp (by omega), fx_r _ _ D⟩
  have hb1 := bg_fx hb a3 id id (by omega) (by omega)
  have hm0 := mct0 hM
  have hm3 : mct_ M 0 ≤ 3600 := by
    have := cn_m (nc_1 (mo_qv M 0) (M.2.1))
    unfold mct_
    omega
  obtain ⟨D', i1, i2⟩ := x130r (w := w) (d := d) hM hn 3601 0 0 (mct_ M 0) E c (by omega) hb1 (fun p q hp hq => by
    show ((if M.2.2.2.2 p then 1 else 0) = if M.2.2.2.2 q then 1 else 0) ↔ M.2.2.2.2 p = M.2.2.2.2 q
    cases M.2.2.2.2 p <;> cases M.2.2.2.2 q <;> decide) (fun p hp => by
    show (if M.2.2.2.2 p then 1 else 0) < 3600
    cases M.2.2.2.2 p <;> decide) a2 hm3 (by omega) (by omega) (fun _ => rfl) (fun x => absurd rfl x) rfl (fun s hs => absurd hs (by omega))
  refine ⟨D', ?_, fx_t (fx_w a3 (fun b hb => Or.inl hb) (fun j hj => hj)) i2⟩
  refine Eq.trans (show _ = k130_9 w (d + 2) (b2_ (som_ (M.2.2.2.2) (M.2.1))) (b2_ (som_ (fun p => !M.2.2.2.2 p) (M.2.1))) (nI (M.2.1)) E from a1) ?_
  rw [e130_9]
  simp (disch := omega) only [nI_add, pk_mul, nI_clamp, nI_leI, nI_ltI, nI_eq, inb_, iz1_, iz2_, iz3_, iz4_, iz5_, reduceIte, op_os, op_vIs, op_vLs, op_vRs, op_vNs, dI_at, dL_at, dI_2, dL_1, Nat.reduceEqDiff, Nat.reduceAdd, Nat.reduceMul, false_and, and_false, true_and, and_true, ne_eq, not_true_eq_false, not_false_eq_true, b2_z, b2_o, b2_n, b2_01, nar_b, nar_0, nar_1, Bool.false_eq_true, Bool.true_eq_false, hb1.2.1, Nat.le_refl]
  refine Eq.trans ?_ i1
  rw [hm0]
  cases som_ (M.2.2.2.2) (M.2.1) <;> cases som_ (fun p => !M.2.2.2.2 p) (M.2.1) <;> (simp (disch := omega) only [nI_add, pk_mul, nI_clamp, nI_leI, nI_ltI, nI_eq, inb_, iz1_, iz2_, iz3_, iz4_, iz5_, reduceIte, if_pos, if_neg, op_os, op_vIs, op_vLs, op_vRs, op_vNs, dI_at, dL_at, dI_2, dL_1, Nat.reduceEqDiff, Nat.reduceAdd, Nat.reduceMul, false_and, and_false, true_and, and_true, ne_eq, not_true_eq_false, not_false_eq_true, b2_z, b2_o, b2_n, b2_01, nar_b, nar_0, nar_1, Bool.false_eq_true, Bool.true_eq_false, e130_98, e130_99]; rfl)
end ROUNDS
