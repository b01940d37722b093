/-! Classes.reduce -/
/-- after r rounds and l letters -/
def el_ (M : ma_) (r l p q : Nat) : Prop := mrr_ M r p q ∧ ∀ j, j < l → mrr_ M r (M.2.2.2.1 p j) (M.2.2.2.1 q j)
theorem el_qv (M : ma_) (r l : Nat) : qv1_ (el_ M r l) := by
  obtain ⟨h1, h2, h3⟩ := mo_qv M r
  exact ⟨fun p => ⟨h1 p, fun l _ => h1 _⟩, fun p q h => ⟨h2 _ _ h.1, fun l hl => h2 _ _ (h.2 l hl)⟩, fun p q s h g => ⟨h3 _ _ _ h.1 g.1, fun l hl => h3 _ _ _ (h.2 l hl) (g.2 l hl)⟩⟩
theorem el_s (M : ma_) (r l p q : Nat) : el_ M r (l + 1) p q ↔ el_ M r l p q ∧ mrr_ M r (M.2.2.2.1 p l) (M.2.2.2.1 q l) := by
  constructor
  · exact fun h => ⟨⟨h.1, fun j hj => h.2 j (by omega)⟩, h.2 l (by omega)⟩
  · rintro ⟨h, g⟩
    refine ⟨h.1, fun j hj => ?_⟩
    by_cases z : j = l
    · rw [z]; exact g
    · exact h.2 j (by omega)
theorem el_mi {M : ma_} {r l p q : Nat} (hl : l ≤ M.1) (h : mnd_ M p q) : el_ M r l p q := ⟨h r, fun j hj => (h (r + 1)).2 j (by omega)⟩
theorem rd_eq {M : ma_} {r : Nat} (h1 : ∀ s, s < r → mct_ M s < mct_ M (s + 1)) (h2 : mct_ M (r + 1) ≤ mct_ M r) : rd_ct M = r + 1 := by
  obtain ⟨a1, a2, a3, a4⟩ := rd_1 M
  rcases Nat.lt_trichotomy (rd_ct M) (r + 1) with q | q | q
  · have := h1 (rd_ct M - 1) (by omega)
    rw [show rd_ct M - 1 + 1 = rd_ct M by omega] at this
    omega
  · exact q
  · have := a2 r q
    omega
/-- stamps -/
def skr_ (D : dy_) (t : Nat) : Prop := D.1 41 4 = nI t ∧ ∀ c, c < 3840 → ∃ y, y ≤ t ∧ D.1 44 c = nI y
/-- the row of class numbers -/
def nwr_ (D : dy_) (a n : Nat) (c : Nat → Nat) : Prop := ∀ p, p < n → D.1 a p = nI (c p)
section REDUCE
variable {w : (Nat → Int32) × Nat} {d : Nat} {D : dy_} {M : ma_}
theorem x2 (hM : wm_ M) (hc : cm_ D 24 M) (hn : M.2.1 ≤ 3600) : ∃ D' c m, k2_0 w (d + 2) 24 D = some (none, D') ∧ cnu_ (M.2.1) (mrr_ M 0) c m ∧ m ≤ 2 ∧ D'.1 41 5 = nI m ∧ nwr_ D' 42 (M.2.1) c ∧ (∀ j, j ≠ 5 → D'.1 41 j = D.1 41 j) ∧ sx_ (fun b => b = 41 ∨ b = 42) D D' := by
  have h1 := hM.2.1
  let c : Nat → Nat := fun p => if M.2.2.2.2 p = M.2.2.2.2 0 then 0 else 1
  have c01 : ∀ p, c p = 0 ∨ c p = 1 := fun p => by
    show (if M.2.2.2.2 p = M.2.2.2.2 0 then 0 else 1) = 0 ∨ (if M.2.2.2.2 p = M.2.2.2.2 0 then 0 else 1) = 1
    by_cases z : M.2.2.2.2 p = M.2.2.2.2 0
    · rw [if_pos z]; exact Or.inl rfl
    · rw [if_neg z]; exact Or.inr rfl
  rw [e2_0 ml_24]
  obtain ⟨D', e1, ⟨m, e2, e3⟩, e4, e5, e6⟩ := lp_ (fun i (E : dy_) => k2_7 w (d + 2) 24 (nI i) E) (fun i E => (∃ m, E.1 41 5 = nI m ∧ ((m = 1 ∧ ∀ p, p < i → c p = 0) ∨ (m = 2 ∧ ∃ p, p < i ∧ c p = 1))) ∧ nwr_ E 42 i c ∧ (∀ j, j ≠ 5 → E.1 41 j = D.1 41 j) ∧ sx_ (fun b => b = 41 ∨ b = 42) D E) (M.2.1) (s := dI_ D 41 5 (nI 1)) (by
    rintro i E hi ⟨⟨m, t1, t2⟩, t3, t4, t5⟩
    have hc' := cm_sx hc t5 (by omega) (by omega) (by omega)
    have key : k2_7 w (d + 2) 24 (nI i) E = k2_40 w (d + 2) 24 (nI i) 42 (nI i) (nI (c i)) E := by
      rw [e2_7 ml_24]
      simp (disch := omega) only [nI_add, pk_mul, nI_clamp, nI_leI, nI_ltI, nI_eq, inb_, iz1_, iz2_, iz3_, iz4_, iz5_, reduceIte, if_pos, if_neg, op_os, op_vIs, op_vLs, op_vRs, op_vNs, dI_at, dL_at, dI_2, dL_1, Nat.reduceEqDiff, Nat.reduceAdd, Nat.reduceMul, false_and, and_false, true_and, and_true, ne_eq, not_true_eq_false, not_false_eq_true, b2_z, b2_o, b2_n, b2_01, nar_b, nar_0, nar_1, Bool.false_eq_true, Bool.true_eq_false, hc'.2.1, cap_24, hc'.2.2.2.2 i hi, hc'.2.2.2.2 0 (show 0 < M.2.1 by omega)]
      show _ = k2_40 w (d + 2) 24 (nI i) 42 (nI i) (nI (if M.2.2.2.2 i = M.2.2.2.2 0 then 0 else 1)) E
      cases M.2.2.2.2 i <;> cases M.2.2.2.2 0 <;> rfl
    have nw1 : nwr_ (dI_ E 42 i (nI (c i))) 42 (i + 1) c := by
      intro p hp
      simp (disch := omega) only [nI_add, pk_mul, nI_clamp, nI_leI, nI_ltI, nI_eq, inb_, iz1_, iz2_, iz3_, iz4_, iz5_, reduceIte, op_os, op_vIs, op_vLs, op_vRs, op_vNs, dI_at, dL_at, dI_2, dL_1, Nat.reduceEqDiff, Nat.reduceAdd, Nat.reduceMul, false_and, and_false, true_and, and_true, ne_eq, not_true_eq_false, not_false_eq_true, b2_z, b2_o, b2_n, b2_01, nar_b, nar_0, nar_1, Bool.false_eq_true, Bool.true_eq_false]
      by_cases z : p = i
      · rw [if_pos z, z]
      · rw [if_neg z]
        exact t3 p (by omega)
    have x5 : ∀ b : Bool, k105_0 w (d + 1) (b2_ b) E = some (some (.int (b2_ b)), E) := fun b => x105 b
    rcases c01 i with z | z
    · refine ⟨dI_ E 42 i (nI (c i)), key.trans ?_, ⟨m, by simp (disch := omega) only [nI_add, pk_mul, nI_clamp, nI_leI, nI_ltI, nI_eq, inb_, iz1_, iz2_, iz3_, iz4_, iz5_, reduceIte, if_pos, if_neg, op_os, op_vIs, op_vLs, op_vRs, op_vNs, dI_at, dL_at, dI_2, dL_1, Nat.reduceEqDiff, Nat.reduceAdd, Nat.reduceMul, false_and, and_false, true_and, and_true, ne_eq, not_true_eq_false, not_false_eq_true, b2_z, b2_o, b2_n, b2_01, nar_b, nar_0, nar_1, Bool.false_eq_true, Bool.true_eq_false]; exact t1, ?_⟩, nw1, fun j hj => by simp (disch := omega) only [nI_add, pk_mul, nI_clamp, nI_leI, nI_ltI, nI_eq, inb_, iz1_, iz2_, iz3_, iz4_, iz5_, reduceIte, if_pos, if_neg, op_os, op_vIs, op_vLs, op_vRs, op_vNs, dI_at, dL_at, dI_2, dL_1, Nat.reduceEqDiff, Nat.reduceAdd, Nat.reduceMul, false_and, and_false, true_and, and_true, ne_eq, not_true_eq_false, not_false_eq_true, b2_z, b2_o, b2_n, b2_01, nar_b, nar_0, nar_1, Bool.false_eq_true, Bool.true_eq_false]; exact t4 j hj, sx_1 t5 (Or.inr rfl)⟩
      · rw [e2_40 ml_24, z, show nI 0 = b2_ false from rfl, x5]
        simp (disch := omega) only [nI_add, pk_mul, nI_clamp, nI_leI, nI_ltI, nI_eq, inb_, iz1_, iz2_, iz3_, iz4_, iz5_, reduceIte, if_pos, if_neg, op_os, op_vIs, op_vLs, op_vRs, op_vNs, dI_at, dL_at, dI_2, dL_1, Nat.reduceEqDiff, Nat.reduceAdd, Nat.reduceMul, false_and, and_false, true_and, and_true, ne_eq, not_true_eq_false, not_false_eq_true, b2_z, b2_o, b2_n, b2_01, nar_b, nar_0, nar_1, Bool.false_eq_true, Bool.true_eq_false, sf_42, e2_59 ml_24]
      · rcases t2 with ⟨q1, q2⟩ | ⟨q1, p, q2, q3⟩
        · refine Or.inl ⟨q1, fun p hp => ?_⟩
          by_cases y : p = i
          · rw [y]; exact z
          · exact q2 p (by omega)
        · exact Or.inr ⟨q1, p, by omega, q3⟩
    · refine ⟨dI_ (dI_ E 42 i (nI (c i))) 41 5 (nI 2), key.trans ?_, ⟨2, by simp (disch := omega) only [nI_add, pk_mul, nI_clamp, nI_leI, nI_ltI, nI_eq, inb_, iz1_, iz2_, iz3_, iz4_, iz5_, reduceIte, if_pos, if_neg, op_os, op_vIs, op_vLs, op_vRs, op_vNs, dI_at, dL_at, dI_2, dL_1, Nat.reduceEqDiff, Nat.reduceAdd, Nat.reduceMul, false_and, and_false, true_and, and_true, ne_eq, not_true_eq_false, not_false_eq_true, b2_z, b2_o, b2_n, b2_01, nar_b, nar_0, nar_1, Bool.false_eq_true, Bool.true_eq_false], Or.inr ⟨rfl, i, by omega, z⟩⟩, fun p hp => by simp (disch := omega) only [nI_add, pk_mul, nI_clamp, nI_leI, nI_ltI, nI_eq, inb_, iz1_, iz2_, iz3_, iz4_, iz5_, reduceIte, if_pos, if_neg, op_os, op_vIs, op_vLs, op_vRs, op_vNs, dI_at, dL_at, dI_2, dL_1, Nat.reduceEqDiff, Nat.reduceAdd, Nat.reduceMul, false_and, and_false, true_and, and_true, ne_eq, not_true_eq_false, not_false_eq_true, b2_z, b2_o, b2_n, b2_01, nar_b, nar_0, nar_1, Bool.false_eq_true, Bool.true_eq_false]; exact nw1 p hp, fun j hj => by simp (disch := omega) only [nI_add, pk_mul, nI_clamp, nI_leI, nI_ltI, nI_eq, inb_, iz1_, iz2_, iz3_, iz4_, iz5_, reduceIte, if_pos, if_neg, op_os, op_vIs, op_vLs, op_vRs, op_vNs, dI_at, dL_at, dI_2, dL_1, Nat.reduceEqDiff, Nat.reduceAdd, Nat.reduceMul, false_and, and_false, true_and, and_true, ne_eq, not_true_eq_false, not_false_eq_true, b2_z, b2_o, b2_n, b2_01, nar_b, nar_0, nar_1, Bool.false_eq_true, Bool.true_eq_false]; exact t4 j hj, sx_1 (sx_1 t5 (Or.inr rfl)) (Or.inl rfl)⟩
      rw [e2_40 ml_24, z, show nI 1 = b2_ true from rfl, x5]
      simp (disch := omega) only [nI_add, pk_mul, nI_clamp, nI_leI, nI_ltI, nI_eq, inb_, iz1_, iz2_, iz3_, iz4_, iz5_, reduceIte, if_pos, if_neg, op_os, op_vIs, op_vLs, op_vRs, op_vNs, dI_at, dL_at, dI_2, dL_1, Nat.reduceEqDiff, Nat.reduceAdd, Nat.reduceMul, false_and, and_false, true_and, and_true, ne_eq, not_true_eq_false, not_false_eq_true, b2_z, b2_o, b2_n, b2_01, nar_b, nar_0, nar_1, Bool.false_eq_true, Bool.true_eq_false, sf_42, e2_59 ml_24]) ⟨⟨1, by simp (disch := omega) only [nI_add, pk_mul, nI_clamp, nI_leI, nI_ltI, nI_eq, inb_, iz1_, iz2_, iz3_, iz4_, iz5_, reduceIte, if_pos, if_neg, op_os, op_vIs, op_vLs, op_vRs, op_vNs, dI_at, dL_at, dI_2, dL_1, Nat.reduceEqDiff, Nat.reduceAdd, Nat.reduceMul, false_and, and_false, true_and, and_true, ne_eq, not_true_eq_false, not_false_eq_true, b2_z, b2_o, b2_n, b2_01, nar_b, nar_0, nar_1, Bool.false_eq_true, Bool.true_eq_false], Or.inl ⟨rfl, fun p hp => absurd hp (by omega)⟩⟩, fun p hp => absurd hp (by omega), fun j hj => by simp (disch := omega) only [nI_add, pk_mul, nI_clamp, nI_leI, nI_ltI, nI_eq, inb_, iz1_, iz2_, iz3_, iz4_, iz5_, reduceIte, if_pos, if_neg, op_os, op_vIs, op_vLs, op_vRs, op_vNs, dI_at, dL_at, dI_2, dL_1, Nat.reduceEqDiff, Nat.reduceAdd, Nat.reduceMul, false_and, and_false, true_and, and_true, ne_eq, not_true_eq_false, not_false_eq_true, b2_z, b2_o, b2_n, b2_01, nar_b, nar_0, nar_1, Bool.false_eq_true, Bool.true_eq_false], sx_I (Or.inl rfl)⟩
  refine ⟨D', c, m, e1.trans ?_, ⟨fun p q hp hq => ?_, fun p hp v hv => ?_, fun p hp => ?_, fun v hv => ?_⟩, by omega, e2, e4, e5, e6⟩
  · show k2_7 w (d + 2) 24 (nI (M.2.1)) D' = _
    rw [e2_7 ml_24]
    simp (disch := omega) only [nI_add, pk_mul, nI_clamp, nI_leI, nI_ltI, nI_eq, inb_, iz1_, iz2_, iz3_, iz4_, iz5_, reduceIte, if_pos, if_neg, op_os, op_vIs, op_vLs, op_vRs, op_vNs, dI_at, dL_at, dI_2, dL_1, Nat.reduceEqDiff, Nat.reduceAdd, Nat.reduceMul, false_and, and_false, true_and, and_true, ne_eq, not_true_eq_false, not_false_eq_true, b2_z, b2_o, b2_n, b2_01, nar_b, nar_0, nar_1, Bool.false_eq_true, Bool.true_eq_false, (cm_sx hc e6 (by omega) (by omega) (by omega)).2.1, Nat.le_refl]
  · show ((if M.2.2.2.2 p = M.2.2.2.2 0 then 0 else 1) = if M.2.2.2.2 q = M.2.2.2.2 0 then 0 else 1) ↔ M.2.2.2.2 p = M.2.2.2.2 q
    cases M.2.2.2.2 p <;> cases M.2.2.2.2 q <;> cases M.2.2.2.2 0 <;> decide
  · refine ⟨0, ?_, ?_⟩
    · rcases Nat.eq_zero_or_pos p with z | z
      · rw [z] at hv
        have : c 0 = 0 := if_pos rfl
        omega
      · exact z
    · have := c01 p
      have h0 : c 0 = 0 := if_pos rfl
      omega
  · rcases e3 with ⟨q1, q2⟩ | ⟨q1, _⟩
    · rw [q1, q2 p hp]; exact Nat.zero_lt_one
    · have := c01 p
      omega
  · have h0 : c 0 = 0 := if_pos rfl
    rcases e3 with ⟨q1, q2⟩ | ⟨q1, p, q2, q3⟩
    · exact ⟨0, by omega, by omega⟩
    · by_cases z : v = 0
      · exact ⟨0, by omega, by omega⟩
      · exact ⟨p, q2, by omega⟩
/-- divideBy -/
theorem x3 {O E0 : Nat → Nat → Prop} {c c0 : Nat → Nat} {m m0 t l : Nat} (hM : wm_ M) (hc : cm_ D 24 M) (hn : M.2.1 ≤ 3600) (hl : l < M.1) (hE : qv1_ fun p q => E0 p q ∧ O (M.2.2.2.1 p l) (M.2.2.2.1 q l)) (h1 : cnu_ (M.2.1) E0 c m) (h2 : cnu_ (M.2.1) O c0 m0) (hm : m ≤ 60) (hm0 : m0 ≤ 60) (w1 : nwr_ D 42 (M.2.1) c) (w2 : nwr_ D 43 (M.2.1) c0) (hs : skr_ D t) (ht : t + 1 < 2 ^ 31) : ∃ D' c' m' s, k3_0 w (d + 1) 24 (nI l) D = some (none, D') ∧ s ≤ M.2.1 ∧ cnu_ s (fun p q => E0 p q ∧ O (M.2.2.2.1 p l) (M.2.2.2.1 q l)) c' m' ∧ m' ≤ 61 ∧ (m' ≤ 60 → s = M.2.1) ∧ D'.1 41 5 = nI m' ∧ nwr_ D' 42 s c' ∧ skr_ D' (t + 1) ∧ (∀ j, j ≠ 4 → j ≠ 5 → D'.1 41 j = D.1 41 j) ∧ sx_ (fun b => b = 41 ∨ b = 42 ∨ b = 44 ∨ b = 45) D D' := by
  have hk := hM.1
  have cod : ∀ p q, p < M.2.1 → q < M.2.1 → (c p * 64 + c0 (M.2.2.2.1 p l) = c q * 64 + c0 (M.2.2.2.1 q l) ↔ E0 p q ∧ O (M.2.2.2.1 p l) (M.2.2.2.1 q l)) := by
    intro p q hp hq
    have hp' := hM.2.2.2 p l hp hl
    have hq' := hM.2.2.2 q l hq hl
    have b1 := h2.2.2.1 _ hp'
    have b2 := h2.2.2.1 _ hq'
    rw [← h1.1 p q hp hq, ← h2.1 _ _ hp' hq']
    omega
  have key : ∀ u s f (E : dy_), s + u = M.2.1 → (∃ c', cnu_ s (fun p q => E0 p q ∧ O (M.2.2.2.1 p l) (M.2.2.2.1 q l)) c' f ∧ nwr_ E 42 s c' ∧ ∀ x, x < 3840 → (∃ p, p < s ∧ c p * 64 + c0 (M.2.2.2.1 p l) = x ∧ E.1 44 x = nI (t + 1) ∧ E.1 45 x = nI (c' p)) ∨ ((∀ p, p < s → c p * 64 + c0 (M.2.2.2.1 p l) ≠ x) ∧ ∃ y, y ≤ t ∧ E.1 44 x = nI y)) → f ≤ 61 → (∀ p, s ≤ p → p < M.2.1 → E.1 42 p = nI (c p)) → E.1 41 4 = nI (t + 1) → (∀ j, j ≠ 4 → j ≠ 5 → E.1 41 j = D.1 41 j) → sx_ (fun b => b = 41 ∨ b = 42 ∨ b = 44 ∨ b = 45) D E → ∃ D' c' m' s, k3_15 w (d + 1) 24 (nI l) (nI f) (nI (M.2.1 - u)) E = some (none, D') ∧ s ≤ M.2.1 ∧ cnu_ s (fun p q => E0 p q ∧ O (M.2.2.2.1 p l) (M.2.2.2.1 q l)) c' m' ∧ m' ≤ 61 ∧ (m' ≤ 60 → s = M.2.1) ∧ D'.1 41 5 = nI m' ∧ nwr_ D' 42 s c' ∧ skr_ D' (t + 1) ∧ (∀ j, j ≠ 4 → j ≠ 5 → D'.1 41 j = D.1 41 j) ∧ sx_ (fun b => b = 41 ∨ b = 42 ∨ b = 44 ∨ b = 45) D D' := by
    intro u
    induction u with
    | zero =>
      rintro s f E hu ⟨c', t1, t2, t3⟩ hf t4 t5 t6 t7
      refine ⟨dI_ E 41 5 (nI f), c', f, s, ?_, by omega, t1, hf, fun _ => by omega, by simp (disch := omega) only [nI_add, pk_mul, nI_clamp, nI_leI, nI_ltI, nI_eq, inb_, iz1_, iz2_, iz3_, iz4_, iz5_, reduceIte, if_pos, if_neg, op_os, op_vIs, op_vLs, op_vRs, op_vNs, dI_at, dL_at, dI_2, dL_1, Nat.reduceEqDiff, Nat.reduceAdd, Nat.reduceMul, false_and, and_false, true_and, and_true, ne_eq, not_true_eq_false, not_false_eq_true, b2_z, b2_o, b2_n, b2_01, nar_b, nar_0, nar_1, Bool.false_eq_true, Bool.true_eq_false], fun p hp => by simp (disch := omega) only [nI_add, pk_mul, nI_clamp, nI_leI, nI_ltI, nI_eq, inb_, iz1_, iz2_, iz3_, iz4_, iz5_, reduceIte, if_pos, if_neg, op_os, op_vIs, op_vLs, op_vRs, op_vNs, dI_at, dL_at, dI_2, dL_1, Nat.reduceEqDiff, Nat.reduceAdd, Nat.reduceMul, false_and, and_false, true_and, and_true, ne_eq, not_true_eq_false, not_false_eq_true, b2_z, b2_o, b2_n, b2_01, nar_b, nar_0, nar_1, Bool.false_eq_true, Bool.true_eq_false]; exact t2 p hp, ⟨by simp (disch := omega) only [nI_add, pk_mul, nI_clamp, nI_leI, nI_ltI, nI_eq, inb_, iz1_, iz2_, iz3_, iz4_, iz5_, reduceIte, if_pos, if_neg, op_os, op_vIs, op_vLs, op_vRs, op_vNs, dI_at, dL_at, dI_2, dL_1, Nat.reduceEqDiff, Nat.reduceAdd, Nat.reduceMul, false_and, and_false, true_and, and_true, ne_eq, not_true_eq_false, not_false_eq_true, b2_z, b2_o, b2_n, b2_01, nar_b, nar_0, nar_1, Bool.false_eq_true, Bool.true_eq_false]; exact t5, fun x hx => ?_⟩, fun j j1 j2 => by simp (disch := omega) only [nI_add, pk_mul, nI_clamp, nI_leI, nI_ltI, nI_eq, inb_, iz1_, iz2_, iz3_, iz4_, iz5_, reduceIte, if_pos, if_neg, op_os, op_vIs, op_vLs, op_vRs, op_vNs, dI_at, dL_at, dI_2, dL_1, Nat.reduceEqDiff, Nat.reduceAdd, Nat.reduceMul, false_and, and_false, true_and, and_true, ne_eq, not_true_eq_false, not_false_eq_true, b2_z, b2_o, b2_n, b2_01, nar_b, nar_0, nar_1, Bool.false_eq_true, Bool.true_eq_false]; exact t6 j j1 j2, sx_1 t7 (Or.inl rfl)⟩
      · rw [e3_15 ml_24]
        simp (disch := omega) only [nI_add, pk_mul, nI_clamp, nI_leI, nI_ltI, nI_eq, inb_, iz1_, iz2_, iz3_, iz4_, iz5_, reduceIte, if_pos, if_neg, op_os, op_vIs, op_vLs, op_vRs, op_vNs, dI_at, dL_at, dI_2, dL_1, Nat.reduceEqDiff, Nat.reduceAdd, Nat.reduceMul, false_and, and_false, true_and, and_true, ne_eq, not_true_eq_false, not_false_eq_true, b2_z, b2_o, b2_n, b2_01, nar_b, nar_0, nar_1, Bool.false_eq_true, Bool.true_eq_false, (cm_sx hc t7 (by omega) (by omega) (by omega)).2.1, Nat.sub_zero, Nat.le_refl]
      · simp (disch := omega) only [nI_add, pk_mul, nI_clamp, nI_leI, nI_ltI, nI_eq, inb_, iz1_, iz2_, iz3_, iz4_, iz5_, reduceIte, if_pos, if_neg, op_os, op_vIs, op_vLs, op_vRs, op_vNs, dI_at, dL_at, dI_2, dL_1, Nat.reduceEqDiff, Nat.reduceAdd, Nat.reduceMul, false_and, and_false, true_and, and_true, ne_eq, not_true_eq_false, not_false_eq_true, b2_z, b2_o, b2_n, b2_01, nar_b, nar_0, nar_1, Bool.false_eq_true, Bool.true_eq_false]
        rcases t3 x hx with ⟨p, _, _, q, _⟩ | ⟨_, y, q1, q2⟩
        · exact ⟨t + 1, Nat.le_refl _, q⟩
        · exact ⟨y, by omega, q2⟩
    | succ u ih =>
      rintro s f E hu ⟨c', t1, t2, t3⟩ hf t4 t5 t6 t7
      have hs : s < M.2.1 := by omega
      have hc' := cm_sx hc t7 (by omega) (by omega) (by omega)
      rw [show M.2.1 - (u + 1) = s by omega]
      by_cases z : f ≤ 60
      · have hp' := hM.2.2.2 s l hs hl
        have b1 := h1.2.2.1 s hs
        have b2 := h2.2.2.1 _ hp'
        have g1 : s * M.1 + l < 4 * 3600 := by
          have := mul_in hs hl
          have := Nat.mul_le_mul hn hk.2
          omega
        have g2 : E.1 43 (M.2.2.2.1 s l) = nI (c0 (M.2.2.2.1 s l)) := by
          rw [(t7 43 (by omega)).1]
          exact w2 _ hp'
        have nxt : ∀ v p, p < s → (if p = s then v else c' p) = c' p := fun v p hp => if_neg (by omega)
        rw [e3_15 ml_24]
        rcases t3 (c s * 64 + c0 (M.2.2.2.1 s l)) (by omega) with ⟨p, q1, q2, q3, q4⟩ | ⟨q1, y, q2, q3⟩
        · have st : ∃ D', k3_98 w (d + 1) 24 (nI l) (nI f) (nI s) (nI (c s * 64 + c0 (M.2.2.2.1 s l))) E = k3_15 w (d + 1) 24 (nI l) (nI f) (nI (M.2.1 - u)) D' ∧ D' = dI_ E 42 s (nI (c' p)) := by
            refine ⟨_, ?_, rfl⟩
            rw [e3_98 ml_24, show M.2.1 - u = s + 1 by omega]
            have := t1.2.2.1 p q1
            simp (disch := omega) only [nI_add, pk_mul, nI_clamp, nI_leI, nI_ltI, nI_eq, inb_, iz1_, iz2_, iz3_, iz4_, iz5_, reduceIte, if_pos, if_neg, op_os, op_vIs, op_vLs, op_vRs, op_vNs, dI_at, dL_at, dI_2, dL_1, Nat.reduceEqDiff, Nat.reduceAdd, Nat.reduceMul, false_and, and_false, true_and, and_true, ne_eq, not_true_eq_false, not_false_eq_true, b2_z, b2_o, b2_n, b2_01, nar_b, nar_0, nar_1, Bool.false_eq_true, Bool.true_eq_false, q4]
          obtain ⟨F, st1, st2⟩ := st
          simp (disch := omega) only [nI_add, pk_mul, nI_clamp, nI_leI, nI_ltI, nI_eq, inb_, iz1_, iz2_, iz3_, iz4_, iz5_, reduceIte, if_pos, if_neg, op_os, op_vIs, op_vLs, op_vRs, op_vNs, dI_at, dL_at, dI_2, dL_1, Nat.reduceEqDiff, Nat.reduceAdd, Nat.reduceMul, false_and, and_false, true_and, and_true, ne_eq, not_true_eq_false, not_false_eq_true, b2_z, b2_o, b2_n, b2_01, nar_b, nar_0, nar_1, Bool.false_eq_true, Bool.true_eq_false, hc'.2.1, hc'.1, hc'.2.2.2.1 s l hs hl, cap_24, t4 s (Nat.le_refl s) hs, g2, cd1, q3, t5]
          rw [st1]
          refine ih (s + 1) f F (by omega) ⟨fun p' => if p' = s then c' p else c' p', cn_o hE t1 (nxt _) q1 ((cod p s (by omega) hs).mp q2) (if_pos rfl), fun p' hp' => ?_, fun x hx => ?_⟩ hf (fun p' h1 h2 => ?_) ?_ (fun j j1 j2 => ?_) ?_
          · rw [st2]
            simp (disch := omega) only [nI_add, pk_mul, nI_clamp, nI_leI, nI_ltI, nI_eq, inb_, iz1_, iz2_, iz3_, iz4_, iz5_, reduceIte, op_os, op_vIs, op_vLs, op_vRs, op_vNs, dI_at, dL_at, dI_2, dL_1, Nat.reduceEqDiff, Nat.reduceAdd, Nat.reduceMul, false_and, and_false, true_and, and_true, ne_eq, not_true_eq_false, not_false_eq_true, b2_z, b2_o, b2_n, b2_01, nar_b, nar_0, nar_1, Bool.false_eq_true, Bool.true_eq_false]
            by_cases y : p' = s
            · rw [if_pos y, if_pos y]
            · rw [if_neg y, if_neg y]
              exact t2 p' (by omega)
          · rw [st2]
            simp (disch := omega) only [nI_add, pk_mul, nI_clamp, nI_leI, nI_ltI, nI_eq, inb_, iz1_, iz2_, iz3_, iz4_, iz5_, reduceIte, if_pos, if_neg, op_os, op_vIs, op_vLs, op_vRs, op_vNs, dI_at, dL_at, dI_2, dL_1, Nat.reduceEqDiff, Nat.reduceAdd, Nat.reduceMul, false_and, and_false, true_and, and_true, ne_eq, not_true_eq_false, not_false_eq_true, b2_z, b2_o, b2_n, b2_01, nar_b, nar_0, nar_1, Bool.false_eq_true, Bool.true_eq_false]
            rcases t3 x hx with ⟨p2, a1, a2, a3, a4⟩ | ⟨a1, a2⟩
            · exact Or.inl ⟨p2, by omega, a2, a3, by rw [if_neg (by omega)]; exact a4⟩
            · refine Or.inr ⟨fun p2 h2 => ?_, a2⟩
              by_cases y : p2 = s
              · rw [y, ← q2]; exact a1 p q1
              · exact a1 p2 (by omega)
          · rw [st2]
            simp (disch := omega) only [nI_add, pk_mul, nI_clamp, nI_leI, nI_ltI, nI_eq, inb_, iz1_, iz2_, iz3_, iz4_, iz5_, reduceIte, if_pos, if_neg, op_os, op_vIs, op_vLs, op_vRs, op_vNs, dI_at, dL_at, dI_2, dL_1, Nat.reduceEqDiff, Nat.reduceAdd, Nat.reduceMul, false_and, and_false, true_and, and_true, ne_eq, not_true_eq_false, not_false_eq_true, b2_z, b2_o, b2_n, b2_01, nar_b, nar_0, nar_1, Bool.false_eq_true, Bool.true_eq_false]
            exact t4 p' (by omega) h2
          · rw [st2]; simp (disch := omega) only [nI_add, pk_mul, nI_clamp, nI_leI, nI_ltI, nI_eq, inb_, iz1_, iz2_, iz3_, iz4_, iz5_, reduceIte, if_pos, if_neg, op_os, op_vIs, op_vLs, op_vRs, op_vNs, dI_at, dL_at, dI_2, dL_1, Nat.reduceEqDiff, Nat.reduceAdd, Nat.reduceMul, false_and, and_false, true_and, and_true, ne_eq, not_true_eq_false, not_false_eq_true, b2_z, b2_o, b2_n, b2_01, nar_b, nar_0, nar_1, Bool.false_eq_true, Bool.true_eq_false]; exact t5
          · rw [st2]; simp (disch := omega) only [nI_add, pk_mul, nI_clamp, nI_leI, nI_ltI, nI_eq, inb_, iz1_, iz2_, iz3_, iz4_, iz5_, reduceIte, if_pos, if_neg, op_os, op_vIs, op_vLs, op_vRs, op_vNs, dI_at, dL_at, dI_2, dL_1, Nat.reduceEqDiff, Nat.reduceAdd, Nat.reduceMul, false_and, and_false, true_and, and_true, ne_eq, not_true_eq_false, not_false_eq_true, b2_z, b2_o, b2_n, b2_01, nar_b, nar_0, nar_1, Bool.false_eq_true, Bool.true_eq_false]; exact t6 j j1 j2
          · rw [st2]; exact sx_1 t7 (by omega)
        · have st : ∃ D', k3_98 w (d + 1) 24 (nI l) (nI (f + 1)) (nI s) (nI (c s * 64 + c0 (M.2.2.2.1 s l))) (dI_ (dI_ E 44 (c s * 64 + c0 (M.2.2.2.1 s l)) (nI (t + 1))) 45 (c s * 64 + c0 (M.2.2.2.1 s l)) (nI f)) = k3_15 w (d + 1) 24 (nI l) (nI (f + 1)) (nI (M.2.1 - u)) D' ∧ D' = dI_ (dI_ (dI_ E 44 (c s * 64 + c0 (M.2.2.2.1 s l)) (nI (t + 1))) 45 (c s * 64 + c0 (M.2.2.2.1 s l)) (nI f)) 42 s (nI f) := by
            refine ⟨_, ?_, rfl⟩
            rw [e3_98 ml_24, show M.2.1 - u = s + 1 by omega]
            simp (disch := omega) only [nI_add, pk_mul, nI_clamp, nI_leI, nI_ltI, nI_eq, inb_, iz1_, iz2_, iz3_, iz4_, iz5_, reduceIte, if_pos, if_neg, op_os, op_vIs, op_vLs, op_vRs, op_vNs, dI_at, dL_at, dI_2, dL_1, Nat.reduceEqDiff, Nat.reduceAdd, Nat.reduceMul, false_and, and_false, true_and, and_true, ne_eq, not_true_eq_false, not_false_eq_true, b2_z, b2_o, b2_n, b2_01, nar_b, nar_0, nar_1, Bool.false_eq_true, Bool.true_eq_false]
          obtain ⟨F, st1, st2⟩ := st
          simp (disch := omega) only [nI_add, pk_mul, nI_clamp, nI_leI, nI_ltI, nI_eq, inb_, iz1_, iz2_, iz3_, iz4_, iz5_, reduceIte, if_pos, if_neg, op_os, op_vIs, op_vLs, op_vRs, op_vNs, dI_at, dL_at, dI_2, dL_1, Nat.reduceEqDiff, Nat.reduceAdd, Nat.reduceMul, false_and, and_false, true_and, and_true, ne_eq, not_true_eq_false, not_false_eq_true, b2_z, b2_o, b2_n, b2_01, nar_b, nar_0, nar_1, Bool.false_eq_true, Bool.true_eq_false, hc'.2.1, hc'.1, hc'.2.2.2.1 s l hs hl, cap_24, t4 s (Nat.le_refl s) hs, g2, cd1, q3, t5]
          rw [st1]
          refine ih (s + 1) (f + 1) F (by omega) ⟨fun p' => if p' = s then f else c' p', cn_n hE t1 (nxt _) (fun q hq z => q1 q hq ((cod q s (by omega) hs).mpr z)) (if_pos rfl), fun p' hp' => ?_, fun x hx => ?_⟩ (by omega) (fun p' h1 h2 => ?_) ?_ (fun j j1 j2 => ?_) ?_
          · rw [st2]
            simp (disch := omega) only [nI_add, pk_mul, nI_clamp, nI_leI, nI_ltI, nI_eq, inb_, iz1_, iz2_, iz3_, iz4_, iz5_, reduceIte, op_os, op_vIs, op_vLs, op_vRs, op_vNs, dI_at, dL_at, dI_2, dL_1, Nat.reduceEqDiff, Nat.reduceAdd, Nat.reduceMul, false_and, and_false, true_and, and_true, ne_eq, not_true_eq_false, not_false_eq_true, b2_z, b2_o, b2_n, b2_01, nar_b, nar_0, nar_1, Bool.false_eq_true, Bool.true_eq_false]
            by_cases y : p' = s
            · rw [if_pos y, if_pos y]
            · rw [if_neg y, if_neg y]
              exact t2 p' (by omega)
          · rw [st2]
            simp (disch := omega) only [nI_add, pk_mul, nI_clamp, nI_leI, nI_ltI, nI_eq, inb_, iz1_, iz2_, iz3_, iz4_, iz5_, reduceIte, op_os, op_vIs, op_vLs, op_vRs, op_vNs, dI_at, dL_at, dI_2, dL_1, Nat.reduceEqDiff, Nat.reduceAdd, Nat.reduceMul, false_and, and_false, true_and, and_true, ne_eq, not_true_eq_false, not_false_eq_true, b2_z, b2_o, b2_n, b2_01, nar_b, nar_0, nar_1, Bool.false_eq_true, Bool.true_eq_false]
            by_cases yx : x = c s * 64 + c0 (M.2.2.2.1 s l)
            · refine Or.inl ⟨s, by omega, yx.symm, ?_, ?_⟩
              · rw [if_pos yx]
              · rw [if_pos yx, if_pos rfl]
            · rw [if_neg yx, if_neg yx]
              rcases t3 x hx with ⟨p2, a1, a2, a3, a4⟩ | ⟨a1, a2⟩
              · exact Or.inl ⟨p2, by omega, a2, a3, by rw [if_neg (by omega)]; exact a4⟩
              · refine Or.inr ⟨fun p2 h2 => ?_, a2⟩
                by_cases y : p2 = s
                · rw [y]; exact fun z => yx z.symm
                · exact a1 p2 (by omega)
          · rw [st2]
            simp (disch := omega) only [nI_add, pk_mul, nI_clamp, nI_leI, nI_ltI, nI_eq, inb_, iz1_, iz2_, iz3_, iz4_, iz5_, reduceIte, if_pos, if_neg, op_os, op_vIs, op_vLs, op_vRs, op_vNs, dI_at, dL_at, dI_2, dL_1, Nat.reduceEqDiff, Nat.reduceAdd, Nat.reduceMul, false_and, and_false, true_and, and_true, ne_eq, not_true_eq_false, not_false_eq_true, b2_z, b2_o, b2_n, b2_01, nar_b, nar_0, nar_1, Bool.false_eq_true, Bool.true_eq_false]
            exact t4 p' (by omega) h2
          · rw [st2]; simp (disch := omega) only [nI_add, pk_mul, nI_clamp, nI_leI, nI_ltI, nI_eq, inb_, iz1_, iz2_, iz3_, iz4_, iz5_, reduceIte, if_pos, if_neg, op_os, op_vIs, op_vLs, op_vRs, op_vNs, dI_at, dL_at, dI_2, dL_1, Nat.reduceEqDiff, Nat.reduceAdd, Nat.reduceMul, false_and, and_false, true_and, and_true, ne_eq, not_true_eq_false, not_false_eq_true, b2_z, b2_o, b2_n, b2_01, nar_b, nar_0, nar_1, Bool.false_eq_true, Bool.true_eq_false]; exact t5
          · rw [st2]; simp (disch := omega) only [nI_add, pk_mul, nI_clamp, nI_leI, nI_ltI, nI_eq, inb_, iz1_, iz2_, iz3_, iz4_, iz5_, reduceIte, if_pos, if_neg, op_os, op_vIs, op_vLs, op_vRs, op_vNs, dI_at, dL_at, dI_2, dL_1, Nat.reduceEqDiff, Nat.reduceAdd, Nat.reduceMul, false_and, and_false, true_and, and_true, ne_eq, not_true_eq_false, not_false_eq_true, b2_z, b2_o, b2_n, b2_01, nar_b, nar_0, nar_1, Bool.false_eq_true, Bool.true_eq_false]; exact t6 j j1 j2
          · rw [st2]; exact sx_1 (sx_1 (sx_1 t7 (by omega)) (by omega)) (by omega)
      · refine ⟨dI_ E 41 5 (nI f), c', f, s, ?_, by omega, t1, hf, fun q => absurd q z, by simp (disch := omega) only [nI_add, pk_mul, nI_clamp, nI_leI, nI_ltI, nI_eq, inb_, iz1_, iz2_, iz3_, iz4_, iz5_, reduceIte, if_pos, if_neg, op_os, op_vIs, op_vLs, op_vRs, op_vNs, dI_at, dL_at, dI_2, dL_1, Nat.reduceEqDiff, Nat.reduceAdd, Nat.reduceMul, false_and, and_false, true_and, and_true, ne_eq, not_true_eq_false, not_false_eq_true, b2_z, b2_o, b2_n, b2_01, nar_b, nar_0, nar_1, Bool.false_eq_true, Bool.true_eq_false], fun p hp => by simp (disch := omega) only [nI_add, pk_mul, nI_clamp, nI_leI, nI_ltI, nI_eq, inb_, iz1_, iz2_, iz3_, iz4_, iz5_, reduceIte, if_pos, if_neg, op_os, op_vIs, op_vLs, op_vRs, op_vNs, dI_at, dL_at, dI_2, dL_1, Nat.reduceEqDiff, Nat.reduceAdd, Nat.reduceMul, false_and, and_false, true_and, and_true, ne_eq, not_true_eq_false, not_false_eq_true, b2_z, b2_o, b2_n, b2_01, nar_b, nar_0, nar_1, Bool.false_eq_true, Bool.true_eq_false]; exact t2 p hp, ⟨by simp (disch := omega) only [nI_add, pk_mul, nI_clamp, nI_leI, nI_ltI, nI_eq, inb_, iz1_, iz2_, iz3_, iz4_, iz5_, reduceIte, if_pos, if_neg, op_os, op_vIs, op_vLs, op_vRs, op_vNs, dI_at, dL_at, dI_2, dL_1, Nat.reduceEqDiff, Nat.reduceAdd, Nat.reduceMul, false_and, and_false, true_and, and_true, ne_eq, not_true_eq_false, not_false_eq_true, b2_z, b2_o, b2_n, b2_01, nar_b, nar_0, nar_1, Bool.false_eq_true, Bool.true_eq_false]; exact t5, fun x hx => ?_⟩, fun j j1 j2 => by simp (disch := omega) only [nI_add, pk_mul, nI_clamp, nI_leI, nI_ltI, nI_eq, inb_, iz1_, iz2_, iz3_, iz4_, iz5_, reduceIte, if_pos, if_neg, op_os, op_vIs, op_vLs, op_vRs, op_vNs, dI_at, dL_at, dI_2, dL_1, Nat.reduceEqDiff, Nat.reduceAdd, Nat.reduceMul, false_and, and_false, true_and, and_true, ne_eq, not_true_eq_false, not_false_eq_true, b2_z, b2_o, b2_n, b2_01, nar_b, nar_0, nar_1, Bool.false_eq_true, Bool.true_eq_false]; exact t6 j j1 j2, sx_1 t7 (Or.inl rfl)⟩
        · rw [e3_15 ml_24]
          simp (disch := omega) only [nI_add, pk_mul, nI_clamp, nI_leI, nI_ltI, nI_eq, inb_, iz1_, iz2_, iz3_, iz4_, iz5_, reduceIte, if_pos, if_neg, op_os, op_vIs, op_vLs, op_vRs, op_vNs, dI_at, dL_at, dI_2, dL_1, Nat.reduceEqDiff, Nat.reduceAdd, Nat.reduceMul, false_and, and_false, true_and, and_true, ne_eq, not_true_eq_false, not_false_eq_true, b2_z, b2_o, b2_n, b2_01, nar_b, nar_0, nar_1, Bool.false_eq_true, Bool.true_eq_false, hc'.2.1]
        · simp (disch := omega) only [nI_add, pk_mul, nI_clamp, nI_leI, nI_ltI, nI_eq, inb_, iz1_, iz2_, iz3_, iz4_, iz5_, reduceIte, if_pos, if_neg, op_os, op_vIs, op_vLs, op_vRs, op_vNs, dI_at, dL_at, dI_2, dL_1, Nat.reduceEqDiff, Nat.reduceAdd, Nat.reduceMul, false_and, and_false, true_and, and_true, ne_eq, not_true_eq_false, not_false_eq_true, b2_z, b2_o, b2_n, b2_01, nar_b, nar_0, nar_1, Bool.false_eq_true, Bool.true_eq_false]
          rcases t3 x hx with ⟨p, _, _, q, _⟩ | ⟨_, y, q1, q2⟩
          · exact ⟨t + 1, Nat.le_refl _, q⟩
          · exact ⟨y, by omega, q2⟩
  rw [e3_0 ml_24, hs.1]
  have := key (M.2.1) 0 0 (dI_ D 41 4 (nI (t + 1))) (by omega) ⟨fun _ => 0, cn_0 _ _, fun p hp => absurd hp (by omega), fun x hx => Or.inr ⟨fun p hp => absurd hp (by omega), by
    obtain ⟨y, y1, y2⟩ := hs.2 x hx
    exact ⟨y, y1, by simp (disch := omega) only [nI_add, pk_mul, nI_clamp, nI_leI, nI_ltI, nI_eq, inb_, iz1_, iz2_, iz3_, iz4_, iz5_, reduceIte, if_pos, if_neg, op_os, op_vIs, op_vLs, op_vRs, op_vNs, dI_at, dL_at, dI_2, dL_1, Nat.reduceEqDiff, Nat.reduceAdd, Nat.reduceMul, false_and, and_false, true_and, and_true, ne_eq, not_true_eq_false, not_false_eq_true, b2_z, b2_o, b2_n, b2_01, nar_b, nar_0, nar_1, Bool.false_eq_true, Bool.true_eq_false]; exact y2⟩⟩⟩ (by omega) (fun p _ hp => by simp (disch := omega) only [nI_add, pk_mul, nI_clamp, nI_leI, nI_ltI, nI_eq, inb_, iz1_, iz2_, iz3_, iz4_, iz5_, reduceIte, if_pos, if_neg, op_os, op_vIs, op_vLs, op_vRs, op_vNs, dI_at, dL_at, dI_2, dL_1, Nat.reduceEqDiff, Nat.reduceAdd, Nat.reduceMul, false_and, and_false, true_and, and_true, ne_eq, not_true_eq_false, not_false_eq_true, b2_z, b2_o, b2_n, b2_01, nar_b, nar_0, nar_1, Bool.false_eq_true, Bool.true_eq_false]; exact w1 p hp) (by simp (disch := omega) only [nI_add, pk_mul, nI_clamp, nI_leI, nI_ltI, nI_eq, inb_, iz1_, iz2_, iz3_, iz4_, iz5_, reduceIte, if_pos, if_neg, op_os, op_vIs, op_vLs, op_vRs, op_vNs, dI_at, dL_at, dI_2, dL_1, Nat.reduceEqDiff, Nat.reduceAdd, Nat.reduceMul, false_and, and_false, true_and, and_true, ne_eq, not_true_eq_false, not_false_eq_true, b2_z, b2_o, b2_n, b2_01, nar_b, nar_0, nar_1, Bool.false_eq_true, Bool.true_eq_false]) (fun j j1 j2 => by simp (disch := omega) only [nI_add, pk_mul, nI_clamp, nI_leI, nI_ltI, nI_eq, inb_, iz1_, iz2_, iz3_, iz4_, iz5_, reduceIte, if_pos, if_neg, op_os, op_vIs, op_vLs, op_vRs, op_vNs, dI_at, dL_at, dI_2, dL_1, Nat.reduceEqDiff, Nat.reduceAdd, Nat.reduceMul, false_and, and_false, true_and, and_true, ne_eq, not_true_eq_false, not_false_eq_true, b2_z, b2_o, b2_n, b2_01, nar_b, nar_0, nar_1, Bool.false_eq_true, Bool.true_eq_false]) (sx_I (Or.inl rfl))
  rw [Nat.sub_self] at this
  simp (disch := omega) only [nI_add, pk_mul, nI_clamp, nI_leI, nI_ltI, nI_eq, inb_, iz1_, iz2_, iz3_, iz4_, iz5_, reduceIte, if_pos, if_neg, op_os, op_vIs, op_vLs, op_vRs, op_vNs, dI_at, dL_at, dI_2, dL_1, Nat.reduceEqDiff, Nat.reduceAdd, Nat.reduceMul, false_and, and_false, true_and, and_true, ne_eq, not_true_eq_false, not_false_eq_true, b2_z, b2_o, b2_n, b2_01, nar_b, nar_0, nar_1, Bool.false_eq_true, Bool.true_eq_false]
  exact this
/-- put -/
theorem x4 {a : Nat} (ha : a ∈ ml_) (ha24 : a ≠ 24) (hM : wm_ M) (hc : cm_ D 24 M) (hn : M.2.1 ≤ 3600) (hm : nn_ M ≤ 60) (hcap : nn_ M ≤ cap_ a) (w1 : nwr_ D 42 (M.2.1) (nfs_ M)) (h5 : D.1 41 5 = nI (nn_ M)) : ∃ D', k4_0 w (d + 2) 24 a D = some (none, D') ∧ cm_ D' a (qm_ M) ∧ sx_ (fun b => a ≤ b ∧ b ≤ a + 2) D D' := by
  have hk := hM.1
  have pa := ml_p ha ha24
  have ca := mcap ha
  have g4 : ∀ e l, e < nn_ M → l < M.1 → e * M.1 + l < 4 * cap_ a := fun e l he hl => by
    have := mul_in he hl
    have := Nat.mul_le_mul hcap hk.2
    omega
  rw [e4_0 ml_24 ha]
  simp (disch := omega) only [nI_add, pk_mul, nI_clamp, nI_leI, nI_ltI, nI_eq, inb_, iz1_, iz2_, iz3_, iz4_, iz5_, reduceIte, if_pos, if_neg, op_os, op_vIs, op_vLs, op_vRs, op_vNs, dI_at, dL_at, dI_2, dL_1, Nat.reduceEqDiff, Nat.reduceAdd, Nat.reduceMul, false_and, and_false, true_and, and_true, ne_eq, not_true_eq_false, not_false_eq_true, b2_z, b2_o, b2_n, b2_01, nar_b, nar_0, nar_1, Bool.false_eq_true, Bool.true_eq_false, hc.1, h5]
  generalize hE : dI_ (dI_ (dI_ D a 2 (nI (M.1))) a 3 (nI (nn_ M))) a 4 (nI 0) = E
  have s0 : sx_ (fun b => a ≤ b ∧ b ≤ a + 2) D E := by
    rw [← hE]
    exact sx_1 (sx_1 (sx_1 (sx_r _ _) (by omega)) (by omega)) (by omega)
  have f0 : E.1 a 2 = nI (M.1) ∧ E.1 a 3 = nI (nn_ M) ∧ E.1 a 4 = nI 0 := by
    rw [← hE]
    exact ⟨by simp (disch := omega) only [nI_add, pk_mul, nI_clamp, nI_leI, nI_ltI, nI_eq, inb_, iz1_, iz2_, iz3_, iz4_, iz5_, reduceIte, if_pos, if_neg, op_os, op_vIs, op_vLs, op_vRs, op_vNs, dI_at, dL_at, dI_2, dL_1, Nat.reduceEqDiff, Nat.reduceAdd, Nat.reduceMul, false_and, and_false, true_and, and_true, ne_eq, not_true_eq_false, not_false_eq_true, b2_z, b2_o, b2_n, b2_01, nar_b, nar_0, nar_1, Bool.false_eq_true, Bool.true_eq_false], by simp (disch := omega) only [nI_add, pk_mul, nI_clamp, nI_leI, nI_ltI, nI_eq, inb_, iz1_, iz2_, iz3_, iz4_, iz5_, reduceIte, if_pos, if_neg, op_os, op_vIs, op_vLs, op_vRs, op_vNs, dI_at, dL_at, dI_2, dL_1, Nat.reduceEqDiff, Nat.reduceAdd, Nat.reduceMul, false_and, and_false, true_and, and_true, ne_eq, not_true_eq_false, not_false_eq_true, b2_z, b2_o, b2_n, b2_01, nar_b, nar_0, nar_1, Bool.false_eq_true, Bool.true_eq_false], by simp (disch := omega) only [nI_add, pk_mul, nI_clamp, nI_leI, nI_ltI, nI_eq, inb_, iz1_, iz2_, iz3_, iz4_, iz5_, reduceIte, if_pos, if_neg, op_os, op_vIs, op_vLs, op_vRs, op_vNs, dI_at, dL_at, dI_2, dL_1, Nat.reduceEqDiff, Nat.reduceAdd, Nat.reduceMul, false_and, and_false, true_and, and_true, ne_eq, not_true_eq_false, not_false_eq_true, b2_z, b2_o, b2_n, b2_01, nar_b, nar_0, nar_1, Bool.false_eq_true, Bool.true_eq_false]⟩
  have key : ∀ u s e (F : dy_), s + u = M.2.1 → e ≤ nn_ M → (∀ x, x < nn_ M → (x < e ↔ rp_ M x < s)) → (F.1 a 2 = nI (M.1) ∧ F.1 a 3 = nI (nn_ M) ∧ F.1 a 4 = nI 0) → (∀ x l, x < e → l < M.1 → F.1 (a + 1) (x * M.1 + l) = nI ((qm_ M).2.2.2.1 x l)) → (∀ x, x < e → F.1 (a + 2) x = b2_ ((qm_ M).2.2.2.2 x)) → sx_ (fun b => a ≤ b ∧ b ≤ a + 2) D F → ∃ D', k4_26 w (d + 2) 24 a (nI e) (nI s) F = some (none, D') ∧ cm_ D' a (qm_ M) ∧ sx_ (fun b => a ≤ b ∧ b ≤ a + 2) D D' := by
    intro u
    induction u with
    | zero =>
      intro s e F hu he t1 t2 t3 t4 t5
      have hc' := cm_sx hc t5 (by omega) (by omega) (by omega)
      have : e = nn_ M := by
        rcases Nat.lt_or_ge e (nn_ M) with z | z
        · have := (t1 e z).mpr (by have := (rp_1 z).1; omega)
          omega
        · omega
      subst this
      refine ⟨F, ?_, ⟨t2.1, t2.2.1, t2.2.2, fun x l hx hl => t3 x l hx hl, t4⟩, t5⟩
      rw [e4_26 ml_24 ha, show s = M.2.1 by omega]
      simp (disch := omega) only [nI_add, pk_mul, nI_clamp, nI_leI, nI_ltI, nI_eq, inb_, iz1_, iz2_, iz3_, iz4_, iz5_, reduceIte, if_pos, if_neg, op_os, op_vIs, op_vLs, op_vRs, op_vNs, dI_at, dL_at, dI_2, dL_1, Nat.reduceEqDiff, Nat.reduceAdd, Nat.reduceMul, false_and, and_false, true_and, and_true, ne_eq, not_true_eq_false, not_false_eq_true, b2_z, b2_o, b2_n, b2_01, nar_b, nar_0, nar_1, Bool.false_eq_true, Bool.true_eq_false, hc'.2.1, Nat.le_refl]
    | succ u ih =>
      intro s e F hu he t1 t2 t3 t4 t5
      have hc' := cm_sx hc t5 (by omega) (by omega) (by omega)
      have hs : s < M.2.1 := by omega
      have h42 : F.1 42 s = nI (nfs_ M s) := by
        rw [(t5 42 (by omega)).1]
        exact w1 s hs
      have h41 : F.1 41 5 = nI (nn_ M) := by
        rw [(t5 41 (by omega)).1]
        exact h5
      have hlt := (nf_1 M).2.2.1 s hs
      rw [e4_26 ml_24 ha]
      by_cases z : nn_ M ≤ e
      · obtain rfl : e = nn_ M := by omega
        refine ⟨F, ?_, ⟨t2.1, t2.2.1, t2.2.2, fun x l hx hl => t3 x l hx hl, t4⟩, t5⟩
        simp (disch := omega) only [nI_add, pk_mul, nI_clamp, nI_leI, nI_ltI, nI_eq, inb_, iz1_, iz2_, iz3_, iz4_, iz5_, reduceIte, if_pos, if_neg, op_os, op_vIs, op_vLs, op_vRs, op_vNs, dI_at, dL_at, dI_2, dL_1, Nat.reduceEqDiff, Nat.reduceAdd, Nat.reduceMul, false_and, and_false, true_and, and_true, ne_eq, not_true_eq_false, not_false_eq_true, b2_z, b2_o, b2_n, b2_01, nar_b, nar_0, nar_1, Bool.false_eq_true, Bool.true_eq_false, hc'.2.1, h41, Nat.le_refl]
      · have hen : e < nn_ M := by omega
        have r1 := rp_1 hen
        have r2 : ¬ rp_ M e < s := fun y => by
          have := (t1 e hen).mpr y
          omega
        by_cases y : nfs_ M s = e
        · have r3 : rp_ M e = s := by
            have := rp_le (M := M) hs
            rw [y] at this
            omega
          obtain ⟨F', g1, g2, g3, g5, g6⟩ := lp_ (fun l (F' : dy_) => k4_70 w (d + 2) 24 a (nI e) (nI s) (nI l) F') (fun l F' => (F'.1 a 2 = nI (M.1) ∧ F'.1 a 3 = nI (nn_ M) ∧ F'.1 a 4 = nI 0) ∧ (∀ x l', (x < e ∨ x = e ∧ l' < l) → l' < M.1 → F'.1 (a + 1) (x * M.1 + l') = nI ((qm_ M).2.2.2.1 x l')) ∧ (∀ x, x < e + 1 → F'.1 (a + 2) x = b2_ ((qm_ M).2.2.2.2 x)) ∧ sx_ (fun b => a ≤ b ∧ b ≤ a + 2) D F') (M.1) (s := dI_ F (a + 2) e (b2_ ((qm_ M).2.2.2.2 e))) (by
            rintro l F' hl ⟨u2, u3, u4, u5⟩
            have hc2 := cm_sx hc u5 (by omega) (by omega) (by omega)
            have hx := hM.2.2.2 s l hs hl
            have h42' : F'.1 42 (M.2.2.2.1 s l) = nI (nfs_ M (M.2.2.2.1 s l)) := by
              rw [(u5 42 (by omega)).1]
              exact w1 _ hx
            refine ⟨dI_ F' (a + 1) (e * M.1 + l) (nI ((qm_ M).2.2.2.1 e l)), ?_, ⟨by simp (disch := omega) only [nI_add, pk_mul, nI_clamp, nI_leI, nI_ltI, nI_eq, inb_, iz1_, iz2_, iz3_, iz4_, iz5_, reduceIte, if_pos, if_neg, op_os, op_vIs, op_vLs, op_vRs, op_vNs, dI_at, dL_at, dI_2, dL_1, Nat.reduceEqDiff, Nat.reduceAdd, Nat.reduceMul, false_and, and_false, true_and, and_true, ne_eq, not_true_eq_false, not_false_eq_true, b2_z, b2_o, b2_n, b2_01, nar_b, nar_0, nar_1, Bool.false_eq_true, Bool.true_eq_false]; exact u2.1, by simp (disch := omega) only [nI_add, pk_mul, nI_clamp, nI_leI, nI_ltI, nI_eq, inb_, iz1_, iz2_, iz3_, iz4_, iz5_, reduceIte, if_pos, if_neg, op_os, op_vIs, op_vLs, op_vRs, op_vNs, dI_at, dL_at, dI_2, dL_1, Nat.reduceEqDiff, Nat.reduceAdd, Nat.reduceMul, false_and, and_false, true_and, and_true, ne_eq, not_true_eq_false, not_false_eq_true, b2_z, b2_o, b2_n, b2_01, nar_b, nar_0, nar_1, Bool.false_eq_true, Bool.true_eq_false]; exact u2.2.1, by simp (disch := omega) only [nI_add, pk_mul, nI_clamp, nI_leI, nI_ltI, nI_eq, inb_, iz1_, iz2_, iz3_, iz4_, iz5_, reduceIte, if_pos, if_neg, op_os, op_vIs, op_vLs, op_vRs, op_vNs, dI_at, dL_at, dI_2, dL_1, Nat.reduceEqDiff, Nat.reduceAdd, Nat.reduceMul, false_and, and_false, true_and, and_true, ne_eq, not_true_eq_false, not_false_eq_true, b2_z, b2_o, b2_n, b2_01, nar_b, nar_0, nar_1, Bool.false_eq_true, Bool.true_eq_false]; exact u2.2.2⟩, fun x l' hx' hl' => ?_, fun x hx' => by simp (disch := omega) only [nI_add, pk_mul, nI_clamp, nI_leI, nI_ltI, nI_eq, inb_, iz1_, iz2_, iz3_, iz4_, iz5_, reduceIte, if_pos, if_neg, op_os, op_vIs, op_vLs, op_vRs, op_vNs, dI_at, dL_at, dI_2, dL_1, Nat.reduceEqDiff, Nat.reduceAdd, Nat.reduceMul, false_and, and_false, true_and, and_true, ne_eq, not_true_eq_false, not_false_eq_true, b2_z, b2_o, b2_n, b2_01, nar_b, nar_0, nar_1, Bool.false_eq_true, Bool.true_eq_false]; exact u4 x hx', sx_1 u5 (by omega)⟩
            · show k4_70 w (d + 2) 24 a (nI e) (nI s) (nI l) F' = _
              rw [e4_70 ml_24 ha]
              simp (disch := omega) only [nI_add, pk_mul, nI_clamp, nI_leI, nI_ltI, nI_eq, inb_, iz1_, iz2_, iz3_, iz4_, iz5_, reduceIte, if_pos, if_neg, op_os, op_vIs, op_vLs, op_vRs, op_vNs, dI_at, dL_at, dI_2, dL_1, Nat.reduceEqDiff, Nat.reduceAdd, Nat.reduceMul, false_and, and_false, true_and, and_true, ne_eq, not_true_eq_false, not_false_eq_true, b2_z, b2_o, b2_n, b2_01, nar_b, nar_0, nar_1, Bool.false_eq_true, Bool.true_eq_false, hc2.1, cx9 ml_24 hc2 (show M.2.1 ≤ cap_ 24 by rw [cap_24]; exact hn) hk.2 hs hl, h42']
              rw [show k10_0 w (d + 1) a (nI e) (nI l) (nI (nfs_ M (M.2.2.2.1 s l))) F' = _ from m_lead ha (k := M.1) u2.1 (g4 e l hen hl)]
              simp (disch := omega) only [nI_add, pk_mul, nI_clamp, nI_leI, nI_ltI, nI_eq, inb_, iz1_, iz2_, iz3_, iz4_, iz5_, reduceIte, if_pos, if_neg, op_os, op_vIs, op_vLs, op_vRs, op_vNs, dI_at, dL_at, dI_2, dL_1, Nat.reduceEqDiff, Nat.reduceAdd, Nat.reduceMul, false_and, and_false, true_and, and_true, ne_eq, not_true_eq_false, not_false_eq_true, b2_z, b2_o, b2_n, b2_01, nar_b, nar_0, nar_1, Bool.false_eq_true, Bool.true_eq_false]
              rw [show (qm_ M).2.2.2.1 e l = nfs_ M (M.2.2.2.1 (rp_ M e) l) from rfl, r3]
            · simp (disch := omega) only [nI_add, pk_mul, nI_clamp, nI_leI, nI_ltI, nI_eq, inb_, iz1_, iz2_, iz3_, iz4_, iz5_, reduceIte, op_os, op_vIs, op_vLs, op_vRs, op_vNs, dI_at, dL_at, dI_2, dL_1, Nat.reduceEqDiff, Nat.reduceAdd, Nat.reduceMul, false_and, and_false, true_and, and_true, ne_eq, not_true_eq_false, not_false_eq_true, b2_z, b2_o, b2_n, b2_01, nar_b, nar_0, nar_1, Bool.false_eq_true, Bool.true_eq_false, pl_inj hl hl']
              by_cases q : x = e ∧ l' = l
              · rw [if_pos q, q.1, q.2]
              · rw [if_neg q]
                exact u3 x l' (by omega) hl') ⟨⟨by simp (disch := omega) only [nI_add, pk_mul, nI_clamp, nI_leI, nI_ltI, nI_eq, inb_, iz1_, iz2_, iz3_, iz4_, iz5_, reduceIte, if_pos, if_neg, op_os, op_vIs, op_vLs, op_vRs, op_vNs, dI_at, dL_at, dI_2, dL_1, Nat.reduceEqDiff, Nat.reduceAdd, Nat.reduceMul, false_and, and_false, true_and, and_true, ne_eq, not_true_eq_false, not_false_eq_true, b2_z, b2_o, b2_n, b2_01, nar_b, nar_0, nar_1, Bool.false_eq_true, Bool.true_eq_false]; exact t2.1, by simp (disch := omega) only [nI_add, pk_mul, nI_clamp, nI_leI, nI_ltI, nI_eq, inb_, iz1_, iz2_, iz3_, iz4_, iz5_, reduceIte, if_pos, if_neg, op_os, op_vIs, op_vLs, op_vRs, op_vNs, dI_at, dL_at, dI_2, dL_1, Nat.reduceEqDiff, Nat.reduceAdd, Nat.reduceMul, false_and, and_false, true_and, and_true, ne_eq, not_true_eq_false, not_false_eq_true, b2_z, b2_o, b2_n, b2_01, nar_b, nar_0, nar_1, Bool.false_eq_true, Bool.true_eq_false]; exact t2.2.1, by simp (disch := omega) only [nI_add, pk_mul, nI_clamp, nI_leI, nI_ltI, nI_eq, inb_, iz1_, iz2_, iz3_, iz4_, iz5_, reduceIte, if_pos, if_neg, op_os, op_vIs, op_vLs, op_vRs, op_vNs, dI_at, dL_at, dI_2, dL_1, Nat.reduceEqDiff, Nat.reduceAdd, Nat.reduceMul, false_and, and_false, true_and, and_true, ne_eq, not_true_eq_false, not_false_eq_true, b2_z, b2_o, b2_n, b2_01, nar_b, nar_0, nar_1, Bool.false_eq_true, Bool.true_eq_false]; exact t2.2.2⟩, fun x l' hx' hl' => by simp (disch := omega) only [nI_add, pk_mul, nI_clamp, nI_leI, nI_ltI, nI_eq, inb_, iz1_, iz2_, iz3_, iz4_, iz5_, reduceIte, if_pos, if_neg, op_os, op_vIs, op_vLs, op_vRs, op_vNs, dI_at, dL_at, dI_2, dL_1, Nat.reduceEqDiff, Nat.reduceAdd, Nat.reduceMul, false_and, and_false, true_and, and_true, ne_eq, not_true_eq_false, not_false_eq_true, b2_z, b2_o, b2_n, b2_01, nar_b, nar_0, nar_1, Bool.false_eq_true, Bool.true_eq_false]; exact t3 x l' (by omega) hl', fun x hx' => by
              simp (disch := omega) only [nI_add, pk_mul, nI_clamp, nI_leI, nI_ltI, nI_eq, inb_, iz1_, iz2_, iz3_, iz4_, iz5_, reduceIte, op_os, op_vIs, op_vLs, op_vRs, op_vNs, dI_at, dL_at, dI_2, dL_1, Nat.reduceEqDiff, Nat.reduceAdd, Nat.reduceMul, false_and, and_false, true_and, and_true, ne_eq, not_true_eq_false, not_false_eq_true, b2_z, b2_o, b2_n, b2_01, nar_b, nar_0, nar_1, Bool.false_eq_true, Bool.true_eq_false]
              by_cases q : x = e
              · rw [if_pos q, q]
              · rw [if_neg q]
                exact t4 x (by omega), sx_1 t5 (by omega)⟩
          obtain ⟨D', i1, i2, i3⟩ := ih (s + 1) (e + 1) F' (by omega) (by omega) (fun x hx => by
            constructor
            · intro q
              rcases Nat.lt_or_ge x e with v | v
              · have := (t1 x hx).mp v
                omega
              · rw [show x = e by omega, r3]
                omega
            · intro q
              rcases Nat.lt_or_ge x (e + 1) with v | v
              · exact v
              · have := rp_mono (show e < x by omega) hx
                omega) g2 (fun x l hx hl => g3 x l (by omega) hl) g5 g6
          refine ⟨D', ?_, i2, i3⟩
          simp (disch := omega) only [nI_add, pk_mul, nI_clamp, nI_leI, nI_ltI, nI_eq, inb_, iz1_, iz2_, iz3_, iz4_, iz5_, reduceIte, if_pos, if_neg, op_os, op_vIs, op_vLs, op_vRs, op_vNs, dI_at, dL_at, dI_2, dL_1, Nat.reduceEqDiff, Nat.reduceAdd, Nat.reduceMul, false_and, and_false, true_and, and_true, ne_eq, not_true_eq_false, not_false_eq_true, b2_z, b2_o, b2_n, b2_01, nar_b, nar_0, nar_1, Bool.false_eq_true, Bool.true_eq_false, hc'.2.1, h41, h42, y, cap_24, hc'.2.2.2.2 s hs]
          rw [show b2_ (M.2.2.2.2 s) = b2_ ((qm_ M).2.2.2.2 e) by rw [show (qm_ M).2.2.2.2 e = M.2.2.2.2 (rp_ M e) from rfl, r3]]
          refine Eq.trans (show _ = k4_70 w (d + 2) 24 a (nI e) (nI s) (nI (M.1)) F' from g1) ?_
          rw [e4_70 ml_24 ha]
          simp (disch := omega) only [nI_add, pk_mul, nI_clamp, nI_leI, nI_ltI, nI_eq, inb_, iz1_, iz2_, iz3_, iz4_, iz5_, reduceIte, if_pos, if_neg, op_os, op_vIs, op_vLs, op_vRs, op_vNs, dI_at, dL_at, dI_2, dL_1, Nat.reduceEqDiff, Nat.reduceAdd, Nat.reduceMul, false_and, and_false, true_and, and_true, ne_eq, not_true_eq_false, not_false_eq_true, b2_z, b2_o, b2_n, b2_01, nar_b, nar_0, nar_1, Bool.false_eq_true, Bool.true_eq_false, (cm_sx hc g6 (show ¬ (a ≤ 24 ∧ 24 ≤ a + 2) by omega) (by omega) (by omega)).1, Nat.le_refl, e4_108 ml_24 ha]
          exact i1
        · obtain ⟨D', i1, i2, i3⟩ := ih (s + 1) e F (by omega) he (fun x hx => by
            rw [t1 x hx]
            constructor
            · intro q
              omega
            · intro q
              rcases Nat.lt_or_ge (rp_ M x) s with v | v
              · exact v
              · have hx2 : rp_ M x = s := by omega
                have hx3 := (rp_1 hx).2.1
                rw [hx2] at hx3
                have : e < x := by
                  rcases Nat.lt_trichotomy x e with b | b | b
                  · have := (t1 x hx).mp b
                    omega
                  · omega
                  · exact b
                have := rp_mono this hx
                omega) t2 t3 t4 t5
          refine ⟨D', ?_, i2, i3⟩
          simp (disch := omega) only [nI_add, pk_mul, nI_clamp, nI_leI, nI_ltI, nI_eq, inb_, iz1_, iz2_, iz3_, iz4_, iz5_, reduceIte, if_pos, if_neg, op_os, op_vIs, op_vLs, op_vRs, op_vNs, dI_at, dL_at, dI_2, dL_1, Nat.reduceEqDiff, Nat.reduceAdd, Nat.reduceMul, false_and, and_false, true_and, and_true, ne_eq, not_true_eq_false, not_false_eq_true, b2_z, b2_o, b2_n, b2_01, nar_b, nar_0, nar_1, Bool.false_eq_true, Bool.true_eq_false, hc'.2.1, h41, h42, e4_108 ml_24 ha]
          exact i1
  exact key (M.2.1) 0 0 E (by omega) (Nat.zero_le _) (fun x hx => by omega) f0 (fun x l hx => absurd hx (by omega)) (fun x hx => absurd hx (by omega)) s0
/-- the letters of one round -/
theorem x1l {a r m : Nat} {c0 : Nat → Nat} {i3 : Int32} (ha : a ∈ ml_) (hM : wm_ M) (hn : M.2.1 ≤ 3600) (h2 : cnu_ (M.2.1) (mrr_ M r) c0 m) (hm : m ≤ 60) : ∀ u l (E : dy_) c f t, l + u = M.1 → cm_ E 24 M → cnu_ (M.2.1) (el_ M r l) c f → f ≤ 60 → E.1 41 5 = nI f → nwr_ E 42 (M.2.1) c → nwr_ E 43 (M.2.1) c0 → skr_ E t → t + u < 2 ^ 31 → ∃ D' f' t', k1_63 w (d + 2) 24 a i3 (nI l) E = k1_94 w (d + 2) 24 a i3 D' ∧ D'.1 41 5 = nI f' ∧ f' ≤ 61 ∧ skr_ D' t' ∧ t' ≤ t + u ∧ D'.1 41 6 = E.1 41 6 ∧ (f' ≤ 60 → ∃ c', cnu_ (M.2.1) (mrr_ M (r + 1)) c' f' ∧ nwr_ D' 42 (M.2.1) c') ∧ (60 < f' → 60 < nn_ M) ∧ sx_ (fun b => b = 41 ∨ b = 42 ∨ b = 44 ∨ b = 45) E D' := by
  intro u
  induction u with
  | zero =>
    intro l E c f t hu hc h1 hf h5 w1 w2 hs ht
    obtain rfl : l = M.1 := by omega
    have hk := hM.1
    refine ⟨E, f, t, ?_, h5, by omega, hs, by omega, rfl, fun _ => ⟨c, h1, w1⟩, fun z => absurd hf (by omega), sx_r _ _⟩
    rw [e1_63 ml_24 ha]
    simp (disch := omega) only [nI_add, pk_mul, nI_clamp, nI_leI, nI_ltI, nI_eq, inb_, iz1_, iz2_, iz3_, iz4_, iz5_, reduceIte, if_pos, if_neg, op_os, op_vIs, op_vLs, op_vRs, op_vNs, dI_at, dL_at, dI_2, dL_1, Nat.reduceEqDiff, Nat.reduceAdd, Nat.reduceMul, false_and, and_false, true_and, and_true, ne_eq, not_true_eq_false, not_false_eq_true, b2_z, b2_o, b2_n, b2_01, nar_b, nar_0, nar_1, Bool.false_eq_true, Bool.true_eq_false, hc.1, Nat.le_refl]
  | succ u ih =>
    intro l E c f t hu hc h1 hf h5 w1 w2 hs ht
    have hk := hM.1
    have hl : l < M.1 := by omega
    have hE : qv1_ fun p q => el_ M r l p q ∧ mrr_ M r (M.2.2.2.1 p l) (M.2.2.2.1 q l) := by
      obtain ⟨b1, b2, b3⟩ := el_qv M r (l + 1)
      exact ⟨fun p => (el_s M r l p p).mp (b1 p), fun p q z => (el_s M r l q p).mp (b2 _ _ ((el_s M r l p q).mpr z)), fun p q s z y => (el_s M r l p s).mp (b3 _ _ _ ((el_s M r l p q).mpr z) ((el_s M r l q s).mpr y))⟩
    obtain ⟨D1, c', f', s, e1, e2, e3, e4, e5, e6, e7, e8, e9, e10⟩ := x3 (w := w) (d := d) hM hc hn hl hE h1 h2 hf hm w1 w2 hs (by omega)
    have hc1 := cm_sx hc e10 (by omega) (by omega) (by omega)
    have e3' := cn_c (E' := el_ M r (l + 1)) e3 (fun p q _ _ => (el_s M r l p q).symm) (fun _ _ => rfl)
    by_cases z : f' ≤ 60
    · obtain rfl := e5 z
      obtain ⟨D', f2, t', i1, i2, i3', i4, i5, i6, i7, i8, i9⟩ := ih (l + 1) D1 c' f' (t + 1) (by omega) hc1 e3' z e6 e7 (fun p hp => by rw [(e10 43 (by omega)).1]; exact w2 p hp) e8 (by omega)
      refine ⟨D', f2, t', ?_, i2, i3', i4, by omega, by rw [i6, e9 6 (by omega) (by omega)], i7, i8, sx_t e10 i9⟩
      rw [e1_63 ml_24 ha]
      simp (disch := omega) only [nI_add, pk_mul, nI_clamp, nI_leI, nI_ltI, nI_eq, inb_, iz1_, iz2_, iz3_, iz4_, iz5_, reduceIte, if_pos, if_neg, op_os, op_vIs, op_vLs, op_vRs, op_vNs, dI_at, dL_at, dI_2, dL_1, Nat.reduceEqDiff, Nat.reduceAdd, Nat.reduceMul, false_and, and_false, true_and, and_true, ne_eq, not_true_eq_false, not_false_eq_true, b2_z, b2_o, b2_n, b2_01, nar_b, nar_0, nar_1, Bool.false_eq_true, Bool.true_eq_false, hc.1, h5, e1]
      exact i1
    · have big : 60 < nn_ M := by
        have := cn_le e2 e3' (nf_1 M) fun p q _ _ h => el_mi (by omega) h
        omega
      refine ⟨D1, f', t + 1, ?_, e6, e4, e8, by omega, e9 6 (by omega) (by omega), fun y => absurd y z, fun _ => big, e10⟩
      rw [e1_63 ml_24 ha]
      simp (disch := omega) only [nI_add, pk_mul, nI_clamp, nI_leI, nI_ltI, nI_eq, inb_, iz1_, iz2_, iz3_, iz4_, iz5_, reduceIte, op_os, op_vIs, op_vLs, op_vRs, op_vNs, dI_at, dL_at, dI_2, dL_1, Nat.reduceEqDiff, Nat.reduceAdd, Nat.reduceMul, false_and, and_false, true_and, and_true, ne_eq, not_true_eq_false, not_false_eq_true, b2_z, b2_o, b2_n, b2_01, nar_b, nar_0, nar_1, Bool.false_eq_true, Bool.true_eq_false, hc.1, h5, e1, Bool.false_eq_true]
      rw [if_neg (by omega), if_neg (by omega), e1_63 ml_24 ha]
      simp (disch := omega) only [nI_add, pk_mul, nI_clamp, nI_leI, nI_ltI, nI_eq, inb_, iz1_, iz2_, iz3_, iz4_, iz5_, reduceIte, op_os, op_vIs, op_vLs, op_vRs, op_vNs, dI_at, dL_at, dI_2, dL_1, Nat.reduceEqDiff, Nat.reduceAdd, Nat.reduceMul, false_and, and_false, true_and, and_true, ne_eq, not_true_eq_false, not_false_eq_true, b2_z, b2_o, b2_n, b2_01, nar_b, nar_0, nar_1, Bool.false_eq_true, Bool.true_eq_false, hc1.1, e6]
      by_cases y : M.1 ≤ l + 1
      · rw [if_pos y]
      · rw [if_neg y, if_pos (by omega)]
/-- while each round divides, there are more classes than rounds -/
theorem ct_more (hM : wm_ M) (r : Nat) (h : ∀ s, s < r → mct_ M s < mct_ M (s + 1)) : r < mct_ M r := by
  induction r with
  | zero => exact Nat.lt_of_le_of_lt (Nat.zero_le _) ((nc_1 (mo_qv M 0) (M.2.1)).2.2.1 0 hM.2.1)
  | succ r ih =>
    have h1 := ih fun s hs => h s (by omega)
    have h2 := h r (by omega)
    omega
/-- reduce, from a round on -/
theorem x1r {a : Nat} (ha : a ∈ ml_) (ha24 : a ≠ 24) (hM : wm_ M) (hn : M.2.1 ≤ 3600) (hcap : 60 ≤ cap_ a) : ∀ u r m v (E : dy_) c t, 61 ≤ m + u → v < m → cm_ E 24 M → cnu_ (M.2.1) (mrr_ M r) c m → (∀ s, s < r → mct_ M s < mct_ M (s + 1)) → m ≤ 60 → E.1 41 5 = nI m → E.1 41 6 = nI r → nwr_ E 42 (M.2.1) c → skr_ E t → t + 4 * u < 2 ^ 31 → ∃ D' t', t' ≤ t + 4 * u ∧ skr_ D' t' ∧ sx_ (fun b => (41 ≤ b ∧ b ≤ 45) ∨ (a ≤ b ∧ b ≤ a + 2)) E D' ∧ (nn_ M ≤ 60 → k1_12 w (d + 3) 24 a (nI v) E = some (some (.int (nI (nn_ M))), D') ∧ cm_ D' a (qm_ M) ∧ D'.1 41 6 = nI (rd_ct M)) ∧ (60 < nn_ M → k1_12 w (d + 3) 24 a (nI v) E = some (some (.int (-104)), D') ∧ sx_ (fun b => 41 ≤ b ∧ b ≤ 45) E D') := by
  have pa := ml_p ha ha24
  intro u
  induction u with
  | zero =>
    intro r m v E c t hu hv hc h1 hr hm
    omega
  | succ u ih =>
    intro r m v E c t hu hv hc h1 hr hm h5 h6 w1 hs ht
    have hk := hM.1
    have hmc : m = mct_ M r := (cn_u h1 (nc_1 (mo_qv M r) _)).2
    have hrm : r < m := by
      rw [hmc]
      exact ct_more hM r hr
    generalize hE1 : dC_ E 42 0 43 0 (M.2.1) = E1
    have s1 : sx_ (fun b => b = 43) E E1 := by
      rw [← hE1]
      exact fun b hb => ⟨dC_ne hb, rfl⟩
    have w2 : nwr_ E1 43 (M.2.1) c := by
      intro p hp
      rw [← hE1, dC_in hp]
      exact w1 p hp
    have w1' : nwr_ E1 42 (M.2.1) c := fun p hp => by
      rw [(s1 42 (by omega)).1]
      exact w1 p hp
    have hc1 := cm_sx hc s1 (by omega) (by omega) (by omega)
    have hs1 : skr_ E1 t := by
      unfold skr_
      rw [(s1 41 (by omega)).1, (s1 44 (by omega)).1]
      exact hs
    obtain ⟨D1, f', t1, a1, a2, a3, a4, a5, a6, a7, a8, a9⟩ := x1l (w := w) (d := d + 1) (a := a) (i3 := nI m) ha hM hn h1 hm (M.1) 0 E1 c m t (by omega) hc1 (cn_c h1 (fun p q _ _ => ⟨fun h => ⟨h, fun j hj => absurd hj (by omega)⟩, fun h => h.1⟩) (fun _ _ => rfl)) hm (by rw [(s1 41 (by omega)).1]; exact h5) w1' w2 hs1 (by omega)
    have st : k1_12 w (d + 3) 24 a (nI v) E = k1_94 w (d + 3) 24 a (nI m) D1 := by
      rw [e1_12 ml_24 ha]
      simp (disch := omega) only [nI_add, pk_mul, nI_clamp, nI_leI, nI_ltI, nI_eq, inb_, iz1_, iz2_, iz3_, iz4_, iz5_, reduceIte, if_pos, if_neg, op_os, op_vIs, op_vLs, op_vRs, op_vNs, dI_at, dL_at, dI_2, dL_1, Nat.reduceEqDiff, Nat.reduceAdd, Nat.reduceMul, false_and, and_false, true_and, and_true, ne_eq, not_true_eq_false, not_false_eq_true, b2_z, b2_o, b2_n, b2_01, nar_b, nar_0, nar_1, Bool.false_eq_true, Bool.true_eq_false, hc.2.1, np0, mkca0, Nat.zero_add, h5, h6]
      rw [hE1]
      exact a1
    have h6' : D1.1 41 6 = nI r := by
      rw [a6, (s1 41 (by omega)).1]
      exact h6
    generalize hD2 : dI_ D1 41 6 (nI (r + 1)) = D2
    have s2 : sx_ (fun b => 41 ≤ b ∧ b ≤ 45) E D2 := by
      rw [← hD2]
      exact sx_1 (sx_t (sx_w s1 (fun b hb => by omega)) (sx_w a9 (fun b hb => by omega))) (by omega)
    have hc2 := cm_sx hc s2 (by omega) (by omega) (by omega)
    have k5 : D2.1 41 5 = nI f' := by rw [← hD2]; simp (disch := omega) only [nI_add, pk_mul, nI_clamp, nI_leI, nI_ltI, nI_eq, inb_, iz1_, iz2_, iz3_, iz4_, iz5_, reduceIte, if_pos, if_neg, op_os, op_vIs, op_vLs, op_vRs, op_vNs, dI_at, dL_at, dI_2, dL_1, Nat.reduceEqDiff, Nat.reduceAdd, Nat.reduceMul, false_and, and_false, true_and, and_true, ne_eq, not_true_eq_false, not_false_eq_true, b2_z, b2_o, b2_n, b2_01, nar_b, nar_0, nar_1, Bool.false_eq_true, Bool.true_eq_false]; exact a2
    have k6 : D2.1 41 6 = nI (r + 1) := by rw [← hD2]; simp (disch := omega) only [nI_add, pk_mul, nI_clamp, nI_leI, nI_ltI, nI_eq, inb_, iz1_, iz2_, iz3_, iz4_, iz5_, reduceIte, if_pos, if_neg, op_os, op_vIs, op_vLs, op_vRs, op_vNs, dI_at, dL_at, dI_2, dL_1, Nat.reduceEqDiff, Nat.reduceAdd, Nat.reduceMul, false_and, and_false, true_and, and_true, ne_eq, not_true_eq_false, not_false_eq_true, b2_z, b2_o, b2_n, b2_01, nar_b, nar_0, nar_1, Bool.false_eq_true, Bool.true_eq_false]
    have ks : skr_ D2 t1 := by
      rw [← hD2]
      exact ⟨by simp (disch := omega) only [nI_add, pk_mul, nI_clamp, nI_leI, nI_ltI, nI_eq, inb_, iz1_, iz2_, iz3_, iz4_, iz5_, reduceIte, if_pos, if_neg, op_os, op_vIs, op_vLs, op_vRs, op_vNs, dI_at, dL_at, dI_2, dL_1, Nat.reduceEqDiff, Nat.reduceAdd, Nat.reduceMul, false_and, and_false, true_and, and_true, ne_eq, not_true_eq_false, not_false_eq_true, b2_z, b2_o, b2_n, b2_01, nar_b, nar_0, nar_1, Bool.false_eq_true, Bool.true_eq_false]; exact a4.1, fun x hx => by simp (disch := omega) only [nI_add, pk_mul, nI_clamp, nI_leI, nI_ltI, nI_eq, inb_, iz1_, iz2_, iz3_, iz4_, iz5_, reduceIte, if_pos, if_neg, op_os, op_vIs, op_vLs, op_vRs, op_vNs, dI_at, dL_at, dI_2, dL_1, Nat.reduceEqDiff, Nat.reduceAdd, Nat.reduceMul, false_and, and_false, true_and, and_true, ne_eq, not_true_eq_false, not_false_eq_true, b2_z, b2_o, b2_n, b2_01, nar_b, nar_0, nar_1, Bool.false_eq_true, Bool.true_eq_false]; exact a4.2 x hx⟩
    by_cases z : f' ≤ 60
    · obtain ⟨c', b1, b2⟩ := a7 z
      have b2' : nwr_ D2 42 (M.2.1) c' := by
        rw [← hD2]
        intro p hp
        simp (disch := omega) only [nI_add, pk_mul, nI_clamp, nI_leI, nI_ltI, nI_eq, inb_, iz1_, iz2_, iz3_, iz4_, iz5_, reduceIte, if_pos, if_neg, op_os, op_vIs, op_vLs, op_vRs, op_vNs, dI_at, dL_at, dI_2, dL_1, Nat.reduceEqDiff, Nat.reduceAdd, Nat.reduceMul, false_and, and_false, true_and, and_true, ne_eq, not_true_eq_false, not_false_eq_true, b2_z, b2_o, b2_n, b2_01, nar_b, nar_0, nar_1, Bool.false_eq_true, Bool.true_eq_false]
        exact b2 p hp
      have hf' : f' = mct_ M (r + 1) := (cn_u b1 (nc_1 (mo_qv M (r + 1)) _)).2
      by_cases y : f' ≤ m
      · have b3 := ct_fin hM (r := r) (by omega) (Nat.le_succ r) b1
        obtain ⟨b4, b5⟩ := cn_u b3 (nf_1 M)
        subst b5
        obtain ⟨D', i1, i2, i3⟩ := x4 (w := w) (d := d) (D := D2) ha ha24 hM hc2 hn z (by omega) (fun p hp => by rw [b2' p hp, b4 p hp]) k5
        refine ⟨D', t1, by omega, ?_, fun b hb => ?_, fun _ => ⟨?_, i2, ?_⟩, fun q => absurd q (by omega)⟩
        · unfold skr_
          rw [(i3 41 (by omega)).1, (i3 44 (by omega)).1]
          exact ks
        · rw [(i3 b (by omega)).1, (i3 b (by omega)).2]
          exact s2 b (by omega)
        · rw [st, e1_94 ml_24 ha]
          simp (disch := omega) only [nI_add, pk_mul, nI_clamp, nI_leI, nI_ltI, nI_eq, inb_, iz1_, iz2_, iz3_, iz4_, iz5_, reduceIte, if_pos, if_neg, op_os, op_vIs, op_vLs, op_vRs, op_vNs, dI_at, dL_at, dI_2, dL_1, Nat.reduceEqDiff, Nat.reduceAdd, Nat.reduceMul, false_and, and_false, true_and, and_true, ne_eq, not_true_eq_false, not_false_eq_true, b2_z, b2_o, b2_n, b2_01, nar_b, nar_0, nar_1, Bool.false_eq_true, Bool.true_eq_false, h6']
          rw [hD2, e1_12 ml_24 ha, k5, if_pos (show nI (nn_ M) ≤ nI m by rw [nI_leI (by omega) (by omega)]; exact y), e1_107 ml_24 ha]
          simp (disch := omega) only [nI_add, pk_mul, nI_clamp, nI_leI, nI_ltI, nI_eq, inb_, iz1_, iz2_, iz3_, iz4_, iz5_, reduceIte, if_pos, if_neg, op_os, op_vIs, op_vLs, op_vRs, op_vNs, dI_at, dL_at, dI_2, dL_1, Nat.reduceEqDiff, Nat.reduceAdd, Nat.reduceMul, false_and, and_false, true_and, and_true, ne_eq, not_true_eq_false, not_false_eq_true, b2_z, b2_o, b2_n, b2_01, nar_b, nar_0, nar_1, Bool.false_eq_true, Bool.true_eq_false, k5, i1, (i3 41 (by omega)).1]
        · rw [(i3 41 (by omega)).1, k6, rd_eq hr (by omega)]
      · obtain ⟨D', t', j1, j2, j3, j4, j5⟩ := ih (r + 1) f' m D2 c' t1 (by omega) (by omega) hc2 b1 (fun s hs' => by
          by_cases q : s = r
          · rw [q]; omega
          · exact hr s (by omega)) z k5 k6 b2' ks (by omega)
        have st2 : k1_12 w (d + 3) 24 a (nI v) E = k1_12 w (d + 3) 24 a (nI m) D2 := by
          rw [st, e1_94 ml_24 ha]
          simp (disch := omega) only [nI_add, pk_mul, nI_clamp, nI_leI, nI_ltI, nI_eq, inb_, iz1_, iz2_, iz3_, iz4_, iz5_, reduceIte, if_pos, if_neg, op_os, op_vIs, op_vLs, op_vRs, op_vNs, dI_at, dL_at, dI_2, dL_1, Nat.reduceEqDiff, Nat.reduceAdd, Nat.reduceMul, false_and, and_false, true_and, and_true, ne_eq, not_true_eq_false, not_false_eq_true, b2_z, b2_o, b2_n, b2_01, nar_b, nar_0, nar_1, Bool.false_eq_true, Bool.true_eq_false, h6']
          rw [hD2]
        refine ⟨D', t', by omega, j2, sx_t (sx_w s2 (fun b hb => Or.inl hb)) j3, fun q => ?_, fun q => ?_⟩
        · rw [st2]
          exact j4 q
        · rw [st2]
          exact ⟨(j5 q).1, sx_t s2 (j5 q).2⟩
    · have big := a8 (by omega)
      refine ⟨D2, t1, by omega, ks, sx_w s2 (fun b hb => Or.inl hb), fun q => absurd q (by omega), fun _ => ⟨?_, s2⟩⟩
      rw [st, e1_94 ml_24 ha]
      simp (disch := omega) only [nI_add, pk_mul, nI_clamp, nI_leI, nI_ltI, nI_eq, inb_, iz1_, iz2_, iz3_, iz4_, iz5_, reduceIte, if_pos, if_neg, op_os, op_vIs, op_vLs, op_vRs, op_vNs, dI_at, dL_at, dI_2, dL_1, Nat.reduceEqDiff, Nat.reduceAdd, Nat.reduceMul, false_and, and_false, true_and, and_true, ne_eq, not_true_eq_false, not_false_eq_true, b2_z, b2_o, b2_n, b2_01, nar_b, nar_0, nar_1, Bool.false_eq_true, Bool.true_eq_false, h6']
      rw [hD2, e1_12 ml_24 ha, k5, if_neg (show ¬ nI f' ≤ nI m by rw [nI_leI (by omega) (by omega)]; omega), if_pos (show nI 60 < nI f' by rw [nI_ltI (by omega) (by omega)]; omega), e1_107 ml_24 ha]
      simp (disch := omega) only [nI_add, pk_mul, nI_clamp, nI_leI, nI_ltI, nI_eq, inb_, iz1_, iz2_, iz3_, iz4_, iz5_, reduceIte, if_pos, if_neg, op_os, op_vIs, op_vLs, op_vRs, op_vNs, dI_at, dL_at, dI_2, dL_1, Nat.reduceEqDiff, Nat.reduceAdd, Nat.reduceMul, false_and, and_false, true_and, and_true, ne_eq, not_true_eq_false, not_false_eq_true, b2_z, b2_o, b2_n, b2_01, nar_b, nar_0, nar_1, Bool.false_eq_true, Bool.true_eq_false, k5]
/-- reduce -/
theorem x1 {a B : Nat} (ha : a ∈ ml_) (ha24 : a ≠ 24) (hM : wm_ M) (hc : cm_ D 24 M) (hn : M.2.1 ≤ 3600) (hcap : 60 ≤ cap_ a) (hs : rsp_ D B) (hB : B + 1000 < 2 ^ 31) : ∃ D', rsp_ D' (B + 1000) ∧ sx_ (fun b => (41 ≤ b ∧ b ≤ 45) ∨ (a ≤ b ∧ b ≤ a + 2)) D D' ∧ (nn_ M ≤ 60 → k1_0 w (d + 4) 24 a D = some (some (.int (nI (nn_ M))), D') ∧ cm_ D' a (qm_ M) ∧ D'.1 41 6 = nI (rd_ct M)) ∧ (60 < nn_ M → k1_0 w (d + 4) 24 a D = some (some (.int (-104)), D') ∧ sx_ (fun b => 41 ≤ b ∧ b ≤ 45) D D') := by
  have pa := ml_p ha ha24
  obtain ⟨h0, t, t1, t2, t3⟩ := hs
  obtain ⟨D1, c, m, a1, a2, a3, a4, a5, a6, a7⟩ := x2 (w := w) (d := d + 1) hM hc hn
  have hm0 : 0 < m := Nat.lt_of_le_of_lt (Nat.zero_le _) (a2.2.2.1 0 hM.2.1)
  have s1 : sx_ (fun b => 41 ≤ b ∧ b ≤ 45) D (dI_ D1 41 6 (nI 0)) := sx_1 (sx_w a7 (fun b hb => by omega)) (by omega)
  obtain ⟨D', t', j1, j2, j3, j4, j5⟩ := x1r (w := w) (d := d + 1) ha ha24 hM hn hcap (61 - m) 0 m 0 (dI_ D1 41 6 (nI 0)) c t (by omega) hm0 (cm_sx hc s1 (by omega) (by omega) (by omega)) a2 (fun s hs => absurd hs (by omega)) (by omega) (by simp (disch := omega) only [nI_add, pk_mul, nI_clamp, nI_leI, nI_ltI, nI_eq, inb_, iz1_, iz2_, iz3_, iz4_, iz5_, reduceIte, if_pos, if_neg, op_os, op_vIs, op_vLs, op_vRs, op_vNs, dI_at, dL_at, dI_2, dL_1, Nat.reduceEqDiff, Nat.reduceAdd, Nat.reduceMul, false_and, and_false, true_and, and_true, ne_eq, not_true_eq_false, not_false_eq_true, b2_z, b2_o, b2_n, b2_01, nar_b, nar_0, nar_1, Bool.false_eq_true, Bool.true_eq_false]; exact a4) (by simp (disch := omega) only [nI_add, pk_mul, nI_clamp, nI_leI, nI_ltI, nI_eq, inb_, iz1_, iz2_, iz3_, iz4_, iz5_, reduceIte, if_pos, if_neg, op_os, op_vIs, op_vLs, op_vRs, op_vNs, dI_at, dL_at, dI_2, dL_1, Nat.reduceEqDiff, Nat.reduceAdd, Nat.reduceMul, false_and, and_false, true_and, and_true, ne_eq, not_true_eq_false, not_false_eq_true, b2_z, b2_o, b2_n, b2_01, nar_b, nar_0, nar_1, Bool.false_eq_true, Bool.true_eq_false]) (fun p hp => by simp (disch := omega) only [nI_add, pk_mul, nI_clamp, nI_leI, nI_ltI, nI_eq, inb_, iz1_, iz2_, iz3_, iz4_, iz5_, reduceIte, if_pos, if_neg, op_os, op_vIs, op_vLs, op_vRs, op_vNs, dI_at, dL_at, dI_2, dL_1, Nat.reduceEqDiff, Nat.reduceAdd, Nat.reduceMul, false_and, and_false, true_and, and_true, ne_eq, not_true_eq_false, not_false_eq_true, b2_z, b2_o, b2_n, b2_01, nar_b, nar_0, nar_1, Bool.false_eq_true, Bool.true_eq_false]; exact a5 p hp) ⟨by simp (disch := omega) only [nI_add, pk_mul, nI_clamp, nI_leI, nI_ltI, nI_eq, inb_, iz1_, iz2_, iz3_, iz4_, iz5_, reduceIte, if_pos, if_neg, op_os, op_vIs, op_vLs, op_vRs, op_vNs, dI_at, dL_at, dI_2, dL_1, Nat.reduceEqDiff, Nat.reduceAdd, Nat.reduceMul, false_and, and_false, true_and, and_true, ne_eq, not_true_eq_false, not_false_eq_true, b2_z, b2_o, b2_n, b2_01, nar_b, nar_0, nar_1, Bool.false_eq_true, Bool.true_eq_false]; rw [a6 4 (by omega)]; exact t2, fun x hx => by
    simp (disch := omega) only [nI_add, pk_mul, nI_clamp, nI_leI, nI_ltI, nI_eq, inb_, iz1_, iz2_, iz3_, iz4_, iz5_, reduceIte, if_pos, if_neg, op_os, op_vIs, op_vLs, op_vRs, op_vNs, dI_at, dL_at, dI_2, dL_1, Nat.reduceEqDiff, Nat.reduceAdd, Nat.reduceMul, false_and, and_false, true_and, and_true, ne_eq, not_true_eq_false, not_false_eq_true, b2_z, b2_o, b2_n, b2_01, nar_b, nar_0, nar_1, Bool.false_eq_true, Bool.true_eq_false]
    rw [(a7 44 (by omega)).1]
    exact t3 x hx⟩ (by omega)
  have st : k1_0 w (d + 4) 24 a D = k1_12 w (d + 4) 24 a (nI 0) (dI_ D1 41 6 (nI 0)) := by
    rw [e1_0 ml_24 ha]
    simp (disch := omega) only [nI_add, pk_mul, nI_clamp, nI_leI, nI_ltI, nI_eq, inb_, iz1_, iz2_, iz3_, iz4_, iz5_, reduceIte, if_pos, if_neg, op_os, op_vIs, op_vLs, op_vRs, op_vNs, dI_at, dL_at, dI_2, dL_1, Nat.reduceEqDiff, Nat.reduceAdd, Nat.reduceMul, false_and, and_false, true_and, and_true, ne_eq, not_true_eq_false, not_false_eq_true, b2_z, b2_o, b2_n, b2_01, nar_b, nar_0, nar_1, Bool.false_eq_true, Bool.true_eq_false, a1]
  have s2 := sx_t (sx_w s1 (fun b hb => Or.inl hb)) j3
  refine ⟨D', ⟨?_, t', by omega, j2⟩, s2, fun q => ?_, fun q => ?_⟩
  · rw [(s2 24 (by omega)).1]
    exact h0
  · rw [st]
    exact j4 q
  · rw [st]
    exact ⟨(j5 q).1, sx_t s1 (j5 q).2⟩
end REDUCE
