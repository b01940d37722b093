/-! bySplitters: one division -/
theorem cq_0 {f : Nat → Bool} {n : Nat} : cq_ f n = 0 ↔ ∀ x, x < n → f x = false := by
  induction n with
  | zero => exact ⟨fun _ x hx => absurd hx (by omega), fun _ => rfl⟩
  | succ n ih =>
    rw [cq_s]
    cases h : f n with
    | true =>
      rw [if_pos rfl]
      exact ⟨fun z => absurd z (by omega), fun z => by rw [z n (by omega)] at h; cases h⟩
    | false =>
      rw [if_neg (by decide), ih]
      refine ⟨fun z x hx => ?_, fun z x hx => z x (by omega)⟩
      by_cases y : x = n
      · rw [y]; exact h
      · exact z x (by omega)
theorem cq_mono {f h : Nat → Bool} {n : Nat} (g : ∀ x, x < n → f x = true → h x = true) : cq_ f n ≤ cq_ h n := by
  induction n with
  | zero => exact Nat.le_refl _
  | succ n ih =>
    have := ih fun x hx => g x (by omega)
    rw [cq_s, cq_s]
    cases hf : f n with
    | true =>
      rw [g n (by omega) hf, if_pos rfl, if_pos rfl]
      omega
    | false =>
      rw [if_neg (by decide)]
      cases h n
      · rw [if_neg (by decide)]; exact this
      · rw [if_pos rfl]; omega
theorem cq_all {f h : Nat → Bool} {n : Nat} (g : ∀ x, x < n → f x = true → h x = true) (e : cq_ h n ≤ cq_ f n) : ∀ x, x < n → h x = true → f x = true := by
  induction n with
  | zero => exact fun x hx => absurd hx (by omega)
  | succ n ih =>
    have g' : ∀ x, x < n → f x = true → h x = true := fun x hx => g x (by omega)
    have hm := cq_mono g'
    rw [cq_s, cq_s] at e
    intro x hx hh
    cases hf : f n with
    | true =>
      rw [hf, g n (by omega) hf, if_pos rfl, if_pos rfl] at e
      by_cases y : x = n
      · rw [y]; exact hf
      · exact ih g' (by omega) x (by omega) hh
    | false =>
      rw [hf, if_neg (by decide : ¬ false = true)] at e
      cases hn : h n with
      | true =>
        rw [hn, if_pos rfl] at e
        omega
      | false =>
        rw [hn, if_neg (by decide)] at e
        by_cases y : x = n
        · rw [y, hn] at hh
          cases hh
        · exact ih g' (by omega) x (by omega) hh
theorem cq_add (h g : Nat → Bool) (n : Nat) : cq_ (fun x => h x && g x) n + cq_ (fun x => h x && !g x) n = cq_ h n := by
  induction n with
  | zero => rfl
  | succ n ih =>
    rw [cq_s, cq_s, cq_s]
    cases h n <;> cases g n <;> simp only [Bool.false_and, Bool.true_and, Bool.not_true, Bool.not_false, Bool.false_eq_true, if_false, if_true] <;> omega
/-- what the division of blocks goes by -/
def hs_ (M : ma_) (D : dy_) (P : Nat → Nat) (bl t n : Nat) (rb rl : Nat → Nat) : Prop := bg_ D M ∧ nwr_ D 362 (M.2.1) P ∧ (D.1 351 22 = nI bl ∧ D.1 351 24 = nI n ∧ D.1 351 25 = nI t) ∧ (∀ i, i < n → D.1 370 i = nI (rb i) ∧ D.1 371 i = nI (rl i) ∧ rb i < bl ∧ rl i < M.1) ∧ (∀ v, v < bl → D.1 369 v = nI (cq_ (fun p => decide (P p = v)) (M.2.1))) ∧ (∀ p, p < M.2.1 → P p < bl) ∧ (∀ v, v < bl → ∃ p, p < M.2.1 ∧ P p = v) ∧ n = M.1 * (bl - 1) ∧ 1 ≤ bl
def fsp_ (b : Nat) : Prop := b = 362 ∨ (369 ≤ b ∧ b ≤ 372)
def fsq_ (j : Nat) : Prop := j = 22 ∨ j = 24 ∨ j = 25
theorem surj_le {P : Nat → Nat} {N bl : Nat} (h : ∀ v, v < bl → ∃ p, p < N ∧ P p = v) : bl ≤ N := by
  have := nodup_enc (enc := lrp_ N P) (n := N) (List.range bl) List.nodup_range (by
    intro a b ha hb e
    obtain ⟨p, p1, p2⟩ := h a (List.mem_range.mp ha)
    obtain ⟨q, q1, q2⟩ := h b (List.mem_range.mp hb)
    have h1 := (re_1 p1 p2).2.1
    have h2 := (re_1 q1 q2).2.1
    rw [e] at h1
    omega) (by
    intro a ha
    obtain ⟨p, p1, p2⟩ := h a (List.mem_range.mp ha)
    have := (re_1 p1 p2).1
    omega)
  rwa [List.length_range] at this
theorem dm1 (j : Nat) : nI j + (-1) = nI j - nI 1 := by
  rw [Int32.sub_eq_add_neg]
  rfl
section SPLIT
variable {w : (Nat → Int32) × Nat} {d : Nat} {D : dy_} {M : ma_}
theorem x131 {b l n : Nat} (h : D.1 351 24 = nI n) (hn : n < 2000) : k131_0 w (d + 1) (nI b) (nI l) D = some (none, dI_ (dI_ (dI_ D 370 n (nI b)) 371 n (nI l)) 351 24 (nI (n + 1))) := by
  rw [e131_0]
  simp (disch := omega) only [nI_add, pk_mul, nI_clamp, nI_leI, nI_ltI, nI_eq, inb_, iz1_, iz2_, iz3_, iz4_, iz5_, reduceIte, if_pos, if_neg, op_os, op_vIs, op_vLs, op_vRs, op_vNs, dI_at, dL_at, dI_2, dL_1, Nat.reduceEqDiff, Nat.reduceAdd, Nat.reduceMul, false_and, and_false, true_and, and_true, ne_eq, not_true_eq_false, not_false_eq_true, b2_z, b2_o, b2_n, b2_01, nar_b, nar_0, nar_1, Bool.false_eq_true, Bool.true_eq_false, h]
theorem x132 {b l n t : Nat} {rb rl : Nat → Nat} (h1 : D.1 351 24 = nI n) (h2 : D.1 351 25 = nI t) (hr : ∀ i, i < n → D.1 370 i = nI (rb i) ∧ D.1 371 i = nI (rl i) ∧ rb i < 60 ∧ rl i < 4) (hn : n ≤ 2000) (ht : t ≤ n) (hb : b < 60) (hl : l < 4) : ∃ r : Bool, k132_0 w (d + 1) (nI b) (nI l) D = some (some (.int (b2_ r)), D) ∧ (r = true ↔ ∃ i, t ≤ i ∧ i < n ∧ rb i = b ∧ rl i = l) := by
  have key : ∀ u i (r : Bool), i + u = n → t ≤ i → (r = true ↔ ∃ j, t ≤ j ∧ j < i ∧ rb j = b ∧ rl j = l) → ∃ r' : Bool, k132_8 w (d + 1) (nI b) (nI l) (b2_ r) (nI i) D = some (some (.int (b2_ r')), D) ∧ (r' = true ↔ ∃ i, t ≤ i ∧ i < n ∧ rb i = b ∧ rl i = l) := by
    intro u
    induction u with
    | zero =>
      intro i r hi _ hr'
      obtain rfl : i = n := by omega
      refine ⟨r, ?_, hr'⟩
      rw [e132_8]
      simp (disch := omega) only [nI_add, pk_mul, nI_clamp, nI_leI, nI_ltI, nI_eq, inb_, iz1_, iz2_, iz3_, iz4_, iz5_, reduceIte, if_pos, if_neg, op_os, op_vIs, op_vLs, op_vRs, op_vNs, dI_at, dL_at, dI_2, dL_1, Nat.reduceEqDiff, Nat.reduceAdd, Nat.reduceMul, false_and, and_false, true_and, and_true, ne_eq, not_true_eq_false, not_false_eq_true, b2_z, b2_o, b2_n, b2_01, nar_b, nar_0, nar_1, Bool.false_eq_true, Bool.true_eq_false, h1, Nat.le_refl]
    | succ u ih =>
      intro i r hi hti hr'
      obtain ⟨q1, q2, q3, q4⟩ := hr i (by omega)
      have nxt : ∀ r' : Bool, (r' = true ↔ r = true ∨ (rb i = b ∧ rl i = l)) → (r' = true ↔ ∃ j, t ≤ j ∧ j < i + 1 ∧ rb j = b ∧ rl j = l) := by
        intro r' e
        rw [e, hr']
        constructor
        · rintro (⟨j, a1, a2, a3⟩ | a)
          · exact ⟨j, a1, by omega, a3⟩
          · exact ⟨i, hti, by omega, a⟩
        · rintro ⟨j, a1, a2, a3⟩
          by_cases y : j = i
          · exact Or.inr (by rw [← y]; exact a3)
          · exact Or.inl ⟨j, a1, by omega, a3⟩
      rw [e132_8]
      cases r with
      | true =>
        simp (disch := omega) only [nI_add, pk_mul, nI_clamp, nI_leI, nI_ltI, nI_eq, inb_, iz1_, iz2_, iz3_, iz4_, iz5_, reduceIte, if_pos, if_neg, op_os, op_vIs, op_vLs, op_vRs, op_vNs, dI_at, dL_at, dI_2, dL_1, Nat.reduceEqDiff, Nat.reduceAdd, Nat.reduceMul, false_and, and_false, true_and, and_true, ne_eq, not_true_eq_false, not_false_eq_true, b2_z, b2_o, b2_n, b2_01, nar_b, nar_0, nar_1, Bool.false_eq_true, Bool.true_eq_false, h1, e132_43, e132_48]
        exact ih (i + 1) true (by omega) (by omega) (nxt true ⟨fun _ => Or.inl rfl, fun _ => rfl⟩)
      | false =>
        by_cases z1 : rb i = b
        · by_cases z2 : rl i = l
          · simp (disch := omega) only [nI_add, pk_mul, nI_clamp, nI_leI, nI_ltI, nI_eq, inb_, iz1_, iz2_, iz3_, iz4_, iz5_, reduceIte, if_pos, if_neg, op_os, op_vIs, op_vLs, op_vRs, op_vNs, dI_at, dL_at, dI_2, dL_1, Nat.reduceEqDiff, Nat.reduceAdd, Nat.reduceMul, false_and, and_false, true_and, and_true, ne_eq, not_true_eq_false, not_false_eq_true, b2_z, b2_o, b2_n, b2_01, nar_b, nar_0, nar_1, Bool.false_eq_true, Bool.true_eq_false, h1, q1, q2, z1, z2, e132_43, e132_48]
            exact ih (i + 1) true (by omega) (by omega) (nxt true ⟨fun _ => Or.inr ⟨z1, z2⟩, fun _ => rfl⟩)
          · simp (disch := omega) only [nI_add, pk_mul, nI_clamp, nI_leI, nI_ltI, nI_eq, inb_, iz1_, iz2_, iz3_, iz4_, iz5_, reduceIte, if_pos, if_neg, op_os, op_vIs, op_vLs, op_vRs, op_vNs, dI_at, dL_at, dI_2, dL_1, Nat.reduceEqDiff, Nat.reduceAdd, Nat.reduceMul, false_and, and_false, true_and, and_true, ne_eq, not_true_eq_false, not_false_eq_true, b2_z, b2_o, b2_n, b2_01, nar_b, nar_0, nar_1, Bool.false_eq_true, Bool.true_eq_false, h1, q1, q2, z1, e132_47, e132_48]
            exact ih (i + 1) false (by omega) (by omega) (nxt false ⟨fun z => (by cases z), fun z => by
              rcases z with z | z
              · cases z
              · exact absurd z.2 z2⟩)
        · simp (disch := omega) only [nI_add, pk_mul, nI_clamp, nI_leI, nI_ltI, nI_eq, inb_, iz1_, iz2_, iz3_, iz4_, iz5_, reduceIte, if_pos, if_neg, op_os, op_vIs, op_vLs, op_vRs, op_vNs, dI_at, dL_at, dI_2, dL_1, Nat.reduceEqDiff, Nat.reduceAdd, Nat.reduceMul, false_and, and_false, true_and, and_true, ne_eq, not_true_eq_false, not_false_eq_true, b2_z, b2_o, b2_n, b2_01, nar_b, nar_0, nar_1, Bool.false_eq_true, Bool.true_eq_false, h1, q1, q2, e132_47, e132_48]
          exact ih (i + 1) false (by omega) (by omega) (nxt false ⟨fun z => (by cases z), fun z => by
            rcases z with z | z
            · cases z
            · exact absurd z.1 z1⟩)
  rw [e132_0, h2]
  exact key (n - t) t false (by omega) (Nat.le_refl _) ⟨fun z => (by cases z), fun ⟨j, a1, a2, _⟩ => absurd a2 (by omega)⟩
/-- divide -/
theorem x134 {P rb rl : Nat → Nat} {bl t n b : Nat} {g : Nat → Bool} (hM : wm_ M) (hN : M.2.1 ≤ 60) (h : hs_ M D P bl t n rb rl) (ht : t ≤ n) (hg : ∀ p, p < M.2.1 → D.1 372 p = b2_ (g p)) (hb : b < bl) : ∃ D' P' bl' n' rb' rl', k134_0 w (d + 2) (nI b) D = some (none, D') ∧ hs_ M D' P' bl' t n' rb' rl' ∧ (∀ p, p < M.2.1 → D'.1 372 p = b2_ (g p)) ∧ fx_ fsp_ fsq_ D D' ∧ ((P' = P ∧ bl' = bl ∧ n' = n ∧ rb' = rb ∧ rl' = rl ∧ ∀ p q, p < M.2.1 → q < M.2.1 → P p = b → P q = b → g p = g q) ∨ (bl' = bl + 1 ∧ n' = n + M.1 ∧ (∃ x, x < M.2.1 ∧ P x = b ∧ ∀ p, p < M.2.1 → P' p = if P p = b ∧ g p ≠ g x then bl else P p) ∧ (∀ i, i < n → rb' i = rb i ∧ rl' i = rl i) ∧ ∀ l, l < M.1 → rl' (n + l) = l ∧ ((∃ i, t ≤ i ∧ i < n ∧ rb i = b ∧ rl i = l) → rb' (n + l) = bl) ∧ (rb' (n + l) = b ∨ rb' (n + l) = bl))) := by
  have hk := hM.1
  obtain ⟨h1, h2, h3, h4, h5, h6, h7, h8, h9⟩ := h
  have hblN := surj_le h7
  have hn236 : n + M.1 ≤ 2000 := by
    have : M.1 * (bl - 1) ≤ 4 * 59 := Nat.mul_le_mul hk.2 (by omega)
    omega
  generalize hf : (fun p => decide (P p = b) && g p) = f
  have hfp : ∀ p, f p = (decide (P p = b) && g p) := fun p => by rw [← hf]
  -- the count
  have cnt : ∀ j, j ≤ M.2.1 → ∃ (lst : Int32) (c : Nat), k134_0 w (d + 2) (nI b) D = k134_12 w (d + 2) (nI b) lst (nI c) (nI j - nI 1) D ∧ c + cq_ f j = cq_ f (M.2.1) ∧ ((lst = -1 ∧ ∀ x, j ≤ x → x < M.2.1 → P x ≠ b) ∨ ∃ x, j ≤ x ∧ x < M.2.1 ∧ P x = b ∧ lst = nI x) := by
    have down : ∀ u j, j + u = M.2.1 → ∃ (lst : Int32) (c : Nat), k134_0 w (d + 2) (nI b) D = k134_12 w (d + 2) (nI b) lst (nI c) (nI j - nI 1) D ∧ c + cq_ f j = cq_ f (M.2.1) ∧ ((lst = -1 ∧ ∀ x, j ≤ x → x < M.2.1 → P x ≠ b) ∨ ∃ x, j ≤ x ∧ x < M.2.1 ∧ P x = b ∧ lst = nI x) := by
      intro u
      induction u with
      | zero =>
        intro j hj
        obtain rfl : j = M.2.1 := by omega
        refine ⟨-1, 0, ?_, by omega, Or.inl ⟨rfl, fun x hx hx' => absurd hx' (by omega)⟩⟩
        rw [e134_0, h1.2.1]
      | succ u ih =>
        intro j hj
        obtain ⟨lst, c, a1, a2, a3⟩ := ih (j + 1) (by omega)
        have hPj := h6 j (by omega)
        have hcl : c ≤ M.2.1 := by
          have := cq_le f (M.2.1)
          omega
        rw [cq_s, hfp] at a2
        rw [a1, e134_12, pk_sub (by omega), Nat.add_sub_cancel]
        by_cases z : P j = b
        · cases hgj : g j with
          | true =>
            refine ⟨nI j, c + 1, ?_, ?_, Or.inr ⟨j, Nat.le_refl j, by omega, z, rfl⟩⟩
            · simp (disch := omega) only [nI_add, pk_mul, nI_clamp, nI_leI, nI_ltI, nI_eq, inb_, iz1_, iz2_, iz3_, iz4_, iz5_, reduceIte, if_pos, if_neg, op_os, op_vIs, op_vLs, op_vRs, op_vNs, dI_at, dL_at, dI_2, dL_1, Nat.reduceEqDiff, Nat.reduceAdd, Nat.reduceMul, false_and, and_false, true_and, and_true, ne_eq, not_true_eq_false, not_false_eq_true, b2_z, b2_o, b2_n, b2_01, nar_b, nar_0, nar_1, Bool.false_eq_true, Bool.true_eq_false, h2 j (show j < M.2.1 by omega), z, e134_34, hg j (show j < M.2.1 by omega), hgj, e134_63, dm1]
            · rw [hgj, decide_eq_true z, Bool.and_true, if_pos rfl] at a2
              omega
          | false =>
            refine ⟨nI j, c, ?_, ?_, Or.inr ⟨j, Nat.le_refl j, by omega, z, rfl⟩⟩
            · simp (disch := omega) only [nI_add, pk_mul, nI_clamp, nI_leI, nI_ltI, nI_eq, inb_, iz1_, iz2_, iz3_, iz4_, iz5_, reduceIte, if_pos, if_neg, op_os, op_vIs, op_vLs, op_vRs, op_vNs, dI_at, dL_at, dI_2, dL_1, Nat.reduceEqDiff, Nat.reduceAdd, Nat.reduceMul, false_and, and_false, true_and, and_true, ne_eq, not_true_eq_false, not_false_eq_true, b2_z, b2_o, b2_n, b2_01, nar_b, nar_0, nar_1, Bool.false_eq_true, Bool.true_eq_false, h2 j (show j < M.2.1 by omega), z, e134_34, hg j (show j < M.2.1 by omega), hgj, e134_62, e134_63, dm1]
            · rw [hgj, Bool.and_false, if_neg (by decide)] at a2
              omega
        · refine ⟨lst, c, ?_, ?_, ?_⟩
          · simp (disch := omega) only [nI_add, pk_mul, nI_clamp, nI_leI, nI_ltI, nI_eq, inb_, iz1_, iz2_, iz3_, iz4_, iz5_, reduceIte, if_pos, if_neg, op_os, op_vIs, op_vLs, op_vRs, op_vNs, dI_at, dL_at, dI_2, dL_1, Nat.reduceEqDiff, Nat.reduceAdd, Nat.reduceMul, false_and, and_false, true_and, and_true, ne_eq, not_true_eq_false, not_false_eq_true, b2_z, b2_o, b2_n, b2_01, nar_b, nar_0, nar_1, Bool.false_eq_true, Bool.true_eq_false, h2 j (show j < M.2.1 by omega), e134_34, e134_62, e134_63, dm1]
          · rw [decide_eq_false z, Bool.false_and, if_neg (by decide)] at a2
            omega
          · rcases a3 with ⟨q1, q2⟩ | ⟨x, q1, q2⟩
            · refine Or.inl ⟨q1, fun x hx hx' => ?_⟩
              by_cases y : x = j
              · rw [y]; exact z
              · exact q2 x (by omega) hx'
            · exact Or.inr ⟨x, by omega, q2⟩
    exact fun j hj => down (M.2.1 - j) j (by omega)
  obtain ⟨lst, c, a1, a2, a3⟩ := cnt 0 (Nat.zero_le _)
  have a2' : c = cq_ f (M.2.1) := by
    have : cq_ f 0 = 0 := rfl
    omega
  have hcl : c ≤ M.2.1 := by
    have := cq_le f (M.2.1)
    omega
  have hszl := cq_le (fun p => decide (P p = b)) (M.2.1)
  have hsame : hs_ M D P bl t n rb rl := ⟨h1, h2, h3, h4, h5, h6, h7, h8, h9⟩
  have hneg : nI 0 - nI 1 < nI 0 := by decide
  by_cases z0 : c = 0
  · refine ⟨D, P, bl, n, rb, rl, ?_, hsame, hg, fx_r _ _ D, Or.inl ⟨rfl, rfl, rfl, rfl, rfl, fun p q hp hq e1 e2 => ?_⟩⟩
    · rw [a1, e134_12, if_pos hneg, if_pos (by rw [z0])]
    · have hz := cq_0.mp (a2'.symm.trans z0)
      have b1 := hz p hp
      have b2 := hz q hq
      rw [hfp, decide_eq_true e1, Bool.true_and] at b1
      rw [hfp, decide_eq_true e2, Bool.true_and] at b2
      rw [b1, b2]
  · by_cases z1 : c = cq_ (fun p => decide (P p = b)) (M.2.1)
    · refine ⟨D, P, bl, n, rb, rl, ?_, hsame, hg, fx_r _ _ D, Or.inl ⟨rfl, rfl, rfl, rfl, rfl, fun p q hp hq e1 e2 => ?_⟩⟩
      · rw [a1, e134_12, if_pos hneg]
        simp (disch := omega) only [nI_add, pk_mul, nI_clamp, nI_leI, nI_ltI, nI_eq, inb_, iz1_, iz2_, iz3_, iz4_, iz5_, reduceIte, if_pos, if_neg, op_os, op_vIs, op_vLs, op_vRs, op_vNs, dI_at, dL_at, dI_2, dL_1, Nat.reduceEqDiff, Nat.reduceAdd, Nat.reduceMul, false_and, and_false, true_and, and_true, ne_eq, not_true_eq_false, not_false_eq_true, b2_z, b2_o, b2_n, b2_01, nar_b, nar_0, nar_1, Bool.false_eq_true, Bool.true_eq_false, h5 b hb, z1]
      · have hz := cq_all (f := f) (h := fun p => decide (P p = b)) (n := M.2.1) (fun x _ hx => by
          rw [hfp] at hx
          exact (Bool.and_eq_true_iff.mp hx).1) (by omega)
        have b1 := hz p hp (decide_eq_true e1)
        have b2 := hz q hq (decide_eq_true e2)
        rw [hfp] at b1 b2
        rw [(Bool.and_eq_true_iff.mp b1).2, (Bool.and_eq_true_iff.mp b2).2]
    · -- it is divided
      have hx : ∃ x, x < M.2.1 ∧ P x = b ∧ lst = nI x := by
        rcases a3 with ⟨_, q⟩ | ⟨x, _, q⟩
        · refine absurd (cq_0.mpr fun x hx => ?_) (show ¬ cq_ f (M.2.1) = 0 by omega)
          rw [hfp, decide_eq_false (q x (Nat.zero_le _) hx), Bool.false_and]
        · exact ⟨x, q⟩
      obtain ⟨x, x1, x2, rfl⟩ := hx
      have hmix : ∃ p, p < M.2.1 ∧ P p = b ∧ g p ≠ g x := by
        refine Classical.byContradiction fun z => ?_
        have hall : ∀ p, p < M.2.1 → P p = b → g p = g x := fun p hp e => Classical.byContradiction fun y => z ⟨p, hp, e, y⟩
        cases hgx : g x with
        | true =>
          refine z1 ?_
          rw [a2']
          refine cq_e fun p hp => ?_
          rw [hfp]
          by_cases y : P p = b
          · rw [hall p hp y, hgx, Bool.and_true]
          · rw [decide_eq_false y, Bool.false_and]
        | false =>
          refine z0 ?_
          rw [a2']
          refine cq_0.mpr fun p hp => ?_
          rw [hfp]
          by_cases y : P p = b
          · rw [hall p hp y, hgx, Bool.and_false]
          · rw [decide_eq_false y, Bool.false_and]
      have hbl60 : bl < 60 := by
        obtain ⟨p, p1, p2, p3⟩ := hmix
        have hs' : bl + 1 ≤ M.2.1 := surj_le (P := fun q => if q = p then bl else P q) fun v hv => by
          by_cases y : v = bl
          · exact ⟨p, p1, by rw [if_pos rfl, y]⟩
          · by_cases y2 : v = b
            · refine ⟨x, x1, ?_⟩
              rw [if_neg (fun e => p3 (by rw [e])), x2, y2]
            · obtain ⟨q, q1, q2⟩ := h7 v (by omega)
              refine ⟨q, q1, ?_⟩
              rw [if_neg (fun e => y2 (by rw [← q2, e, p2])), q2]
        omega
      generalize hmv : (fun p => decide (P p = b) && (g p != g x)) = mv
      have hmp : ∀ p, mv p = (decide (P p = b) && (g p != g x)) := fun p => by rw [← hmv]
      have hmt : ∀ p, (mv p = true ↔ P p = b ∧ g p ≠ g x) := fun p => by
        rw [hmp, Bool.and_eq_true_iff, decide_eq_true_iff, bne_iff_ne]
      have hmb : ∀ j, j ≤ M.2.1 → cq_ mv j ≤ cq_ (fun p => decide (P p = b)) (M.2.1) := fun j hj => by
        have e1 : cq_ mv j ≤ cq_ mv (M.2.1) := by
          have : ∀ u, cq_ mv j ≤ cq_ mv (j + u) := by
            intro u
            induction u with
            | zero => exact Nat.le_refl _
            | succ u ih =>
              rw [← Nat.add_assoc, cq_s]
              cases mv (j + u)
              · rw [if_neg (by decide)]; exact ih
              · rw [if_pos rfl]; omega
          have := this (M.2.1 - j)
          rwa [show j + (M.2.1 - j) = M.2.1 by omega] at this
        have e2 := cq_mono (f := mv) (h := fun p => decide (P p = b)) (n := M.2.1) (fun p _ hp => decide_eq_true ((hmt p).mp hp).1)
        omega
      generalize hE0 : dI_ (dI_ D 351 22 (nI (bl + 1))) 369 bl (nI 0) = E0
      have fr0 : fx_ fsp_ fsq_ D E0 := by
        rw [← hE0]
        exact fx_1 (fx_1 (fx_r _ _ D) (Or.inl ⟨rfl, by unfold fsq_; omega⟩)) (Or.inr ⟨by omega, by unfold fsp_; omega⟩)
      have fr372 : ∀ F, fx_ (fun b => b = 362 ∨ b = 369 ∨ b = 370 ∨ b = 371) fsq_ D F → ∀ p, p < M.2.1 → F.1 372 p = b2_ (g p) := fun F hF p hp => by
        rw [hF.1 372 (by omega) (by omega)]
        exact hg p hp
      have fr0' : fx_ (fun b => b = 362 ∨ b = 369 ∨ b = 370 ∨ b = 371) (fun j => j = 22) D E0 := by
        rw [← hE0]
        exact fx_1 (fx_1 (fx_r _ _ D) (Or.inl ⟨rfl, rfl⟩)) (by omega)
      have hbF : ∀ F, fx_ (fun b => b = 362 ∨ b = 369 ∨ b = 370 ∨ b = 371) fsq_ D F → bg_ F M := fun F hF => bg_fx h1 hF (by unfold fsq_; omega) (by unfold fsq_; omega) (by omega) (by omega)
      -- the states
      obtain ⟨E1, b1, b2, b3, b4, b5, b6, b7⟩ := lp_ (fun p (F : dy_) => k134_112 w (d + 2) (nI b) (nI x) (nI bl) (nI p) F) (fun p F => (∀ q, q < M.2.1 → F.1 362 q = if q < p ∧ mv q = true then nI bl else nI (P q)) ∧ F.1 369 bl = nI (cq_ mv p) ∧ F.1 369 b = nI (cq_ (fun p => decide (P p = b)) (M.2.1) - cq_ mv p) ∧ (∀ v, v < bl → v ≠ b → F.1 369 v = D.1 369 v) ∧ F.1 351 22 = nI (bl + 1) ∧ fx_ (fun b => b = 362 ∨ b = 369) (fun j => j = 22) D F) (M.2.1) (s := E0) (by
        rintro p F hp ⟨t1, t2, t3, t4, t5, t6⟩
        have hF : fx_ (fun b => b = 362 ∨ b = 369 ∨ b = 370 ∨ b = 371) fsq_ D F := fx_w t6 (fun b hb => by omega) (fun j hj => by unfold fsq_; omega)
        have hPp := h6 p hp
        have g1 : F.1 362 p = nI (P p) := by
          rw [t1 p hp, if_neg (by omega)]
        have m1 := hmb p (by omega)
        have m2 := hmb (p + 1) (by omega)
        have hgp := fr372 F hF p hp
        have hgx := fr372 F hF x x1
        show ∃ s', k134_112 w (d + 2) (nI b) (nI x) (nI bl) (nI p) F = _ ∧ _
        rw [e134_112]
        cases hm : mv p with
        | true =>
          have hm' := (hmt p).mp hm
          have e1 : cq_ mv (p + 1) = cq_ mv p + 1 := by rw [cq_s, hm, if_pos rfl]
          refine ⟨dI_ (dI_ (dI_ F 362 p (nI bl)) 369 bl (nI (cq_ mv p + 1))) 369 b (nI (cq_ (fun p => decide (P p = b)) (M.2.1) - cq_ mv p - 1)), ?_, fun q hq => ?_, ?_, ?_, fun v hv hvb => ?_, ?_, ?_⟩
          · have hne : ¬ b2_ (g p) = b2_ (g x) := fun y => hm'.2 (by
              cases hp' : g p <;> cases hx' : g x <;> rw [hp', hx'] at y <;> first | rfl | exact absurd y (by decide))
            simp (disch := omega) only [nI_add, pk_mul, nI_clamp, nI_leI, nI_ltI, nI_eq, inb_, iz1_, iz2_, iz3_, iz4_, iz5_, reduceIte, if_pos, if_neg, op_os, op_vIs, op_vLs, op_vRs, op_vNs, dI_at, dL_at, dI_2, dL_1, Nat.reduceEqDiff, Nat.reduceAdd, Nat.reduceMul, false_and, and_false, true_and, and_true, ne_eq, not_true_eq_false, not_false_eq_true, b2_z, b2_o, b2_n, b2_01, nar_b, nar_0, nar_1, Bool.false_eq_true, Bool.true_eq_false, (hbF F hF).2.1, g1, hm'.1, hgp, hgx, t2, t3, pk_sub, e134_178]
          · simp (disch := omega) only [nI_add, pk_mul, nI_clamp, nI_leI, nI_ltI, nI_eq, inb_, iz1_, iz2_, iz3_, iz4_, iz5_, reduceIte, op_os, op_vIs, op_vLs, op_vRs, op_vNs, dI_at, dL_at, dI_2, dL_1, Nat.reduceEqDiff, Nat.reduceAdd, Nat.reduceMul, false_and, and_false, true_and, and_true, ne_eq, not_true_eq_false, not_false_eq_true, b2_z, b2_o, b2_n, b2_01, nar_b, nar_0, nar_1, Bool.false_eq_true, Bool.true_eq_false]
            by_cases y : q = p
            · rw [if_pos y, if_pos ⟨by omega, by rw [y]; exact hm⟩]
            · rw [if_neg y, t1 q hq]
              by_cases y2 : q < p ∧ mv q = true
              · rw [if_pos y2, if_pos ⟨by omega, y2.2⟩]
              · rw [if_neg y2, if_neg (fun v => y2 ⟨by omega, v.2⟩)]
          · simp (disch := omega) only [nI_add, pk_mul, nI_clamp, nI_leI, nI_ltI, nI_eq, inb_, iz1_, iz2_, iz3_, iz4_, iz5_, reduceIte, if_pos, if_neg, op_os, op_vIs, op_vLs, op_vRs, op_vNs, dI_at, dL_at, dI_2, dL_1, Nat.reduceEqDiff, Nat.reduceAdd, Nat.reduceMul, false_and, and_false, true_and, and_true, ne_eq, not_true_eq_false, not_false_eq_true, b2_z, b2_o, b2_n, b2_01, nar_b, nar_0, nar_1, Bool.false_eq_true, Bool.true_eq_false]; rw [e1]
          · simp (disch := omega) only [nI_add, pk_mul, nI_clamp, nI_leI, nI_ltI, nI_eq, inb_, iz1_, iz2_, iz3_, iz4_, iz5_, reduceIte, if_pos, if_neg, op_os, op_vIs, op_vLs, op_vRs, op_vNs, dI_at, dL_at, dI_2, dL_1, Nat.reduceEqDiff, Nat.reduceAdd, Nat.reduceMul, false_and, and_false, true_and, and_true, ne_eq, not_true_eq_false, not_false_eq_true, b2_z, b2_o, b2_n, b2_01, nar_b, nar_0, nar_1, Bool.false_eq_true, Bool.true_eq_false]; rw [e1, Nat.sub_sub]
          · simp (disch := omega) only [nI_add, pk_mul, nI_clamp, nI_leI, nI_ltI, nI_eq, inb_, iz1_, iz2_, iz3_, iz4_, iz5_, reduceIte, if_pos, if_neg, op_os, op_vIs, op_vLs, op_vRs, op_vNs, dI_at, dL_at, dI_2, dL_1, Nat.reduceEqDiff, Nat.reduceAdd, Nat.reduceMul, false_and, and_false, true_and, and_true, ne_eq, not_true_eq_false, not_false_eq_true, b2_z, b2_o, b2_n, b2_01, nar_b, nar_0, nar_1, Bool.false_eq_true, Bool.true_eq_false]; exact t4 v hv hvb
          · simp (disch := omega) only [nI_add, pk_mul, nI_clamp, nI_leI, nI_ltI, nI_eq, inb_, iz1_, iz2_, iz3_, iz4_, iz5_, reduceIte, if_pos, if_neg, op_os, op_vIs, op_vLs, op_vRs, op_vNs, dI_at, dL_at, dI_2, dL_1, Nat.reduceEqDiff, Nat.reduceAdd, Nat.reduceMul, false_and, and_false, true_and, and_true, ne_eq, not_true_eq_false, not_false_eq_true, b2_z, b2_o, b2_n, b2_01, nar_b, nar_0, nar_1, Bool.false_eq_true, Bool.true_eq_false]; exact t5
          · exact fx_1 (fx_1 (fx_1 t6 (by omega)) (by omega)) (by omega)
        | false =>
          have hm' : ¬ (P p = b ∧ g p ≠ g x) := fun y => by
            have := (hmt p).mpr y
            rw [hm] at this
            cases this
          have e1 : cq_ mv (p + 1) = cq_ mv p := by rw [cq_s, hm, if_neg (by decide)]
          refine ⟨F, ?_, fun q hq => ?_, by rw [e1]; exact t2, by rw [e1]; exact t3, t4, t5, t6⟩
          · by_cases y : P p = b
            · have hee : g p = g x := Classical.byContradiction fun v => hm' ⟨y, v⟩
              simp (disch := omega) only [nI_add, pk_mul, nI_clamp, nI_leI, nI_ltI, nI_eq, inb_, iz1_, iz2_, iz3_, iz4_, iz5_, reduceIte, if_pos, if_neg, op_os, op_vIs, op_vLs, op_vRs, op_vNs, dI_at, dL_at, dI_2, dL_1, Nat.reduceEqDiff, Nat.reduceAdd, Nat.reduceMul, false_and, and_false, true_and, and_true, ne_eq, not_true_eq_false, not_false_eq_true, b2_z, b2_o, b2_n, b2_01, nar_b, nar_0, nar_1, Bool.false_eq_true, Bool.true_eq_false, (hbF F hF).2.1, g1, y, hgp, hgx, hee, e134_178]
            · simp (disch := omega) only [nI_add, pk_mul, nI_clamp, nI_leI, nI_ltI, nI_eq, inb_, iz1_, iz2_, iz3_, iz4_, iz5_, reduceIte, if_pos, if_neg, op_os, op_vIs, op_vLs, op_vRs, op_vNs, dI_at, dL_at, dI_2, dL_1, Nat.reduceEqDiff, Nat.reduceAdd, Nat.reduceMul, false_and, and_false, true_and, and_true, ne_eq, not_true_eq_false, not_false_eq_true, b2_z, b2_o, b2_n, b2_01, nar_b, nar_0, nar_1, Bool.false_eq_true, Bool.true_eq_false, (hbF F hF).2.1, g1, e134_178]
          · rw [t1 q hq]
            by_cases y2 : q < p ∧ mv q = true
            · rw [if_pos y2, if_pos ⟨by omega, y2.2⟩]
            · rw [if_neg y2, if_neg (fun v => y2 ⟨by
                by_cases y3 : q = p
                · rw [y3, hm] at v
                  exact absurd v.2 (by decide)
                · omega, v.2⟩)]) ⟨fun q hq => by
        rw [if_neg (by omega), ← hE0]
        simp (disch := omega) only [nI_add, pk_mul, nI_clamp, nI_leI, nI_ltI, nI_eq, inb_, iz1_, iz2_, iz3_, iz4_, iz5_, reduceIte, if_pos, if_neg, op_os, op_vIs, op_vLs, op_vRs, op_vNs, dI_at, dL_at, dI_2, dL_1, Nat.reduceEqDiff, Nat.reduceAdd, Nat.reduceMul, false_and, and_false, true_and, and_true, ne_eq, not_true_eq_false, not_false_eq_true, b2_z, b2_o, b2_n, b2_01, nar_b, nar_0, nar_1, Bool.false_eq_true, Bool.true_eq_false]
        exact h2 q hq, by rw [← hE0]; simp (disch := omega) only [nI_add, pk_mul, nI_clamp, nI_leI, nI_ltI, nI_eq, inb_, iz1_, iz2_, iz3_, iz4_, iz5_, reduceIte, if_pos, if_neg, op_os, op_vIs, op_vLs, op_vRs, op_vNs, dI_at, dL_at, dI_2, dL_1, Nat.reduceEqDiff, Nat.reduceAdd, Nat.reduceMul, false_and, and_false, true_and, and_true, ne_eq, not_true_eq_false, not_false_eq_true, b2_z, b2_o, b2_n, b2_01, nar_b, nar_0, nar_1, Bool.false_eq_true, Bool.true_eq_false]; rfl, by rw [← hE0]; simp (disch := omega) only [nI_add, pk_mul, nI_clamp, nI_leI, nI_ltI, nI_eq, inb_, iz1_, iz2_, iz3_, iz4_, iz5_, reduceIte, if_pos, if_neg, op_os, op_vIs, op_vLs, op_vRs, op_vNs, dI_at, dL_at, dI_2, dL_1, Nat.reduceEqDiff, Nat.reduceAdd, Nat.reduceMul, false_and, and_false, true_and, and_true, ne_eq, not_true_eq_false, not_false_eq_true, b2_z, b2_o, b2_n, b2_01, nar_b, nar_0, nar_1, Bool.false_eq_true, Bool.true_eq_false]; rw [h5 b hb]; rfl, fun v hv hvb => by rw [← hE0]; simp (disch := omega) only [nI_add, pk_mul, nI_clamp, nI_leI, nI_ltI, nI_eq, inb_, iz1_, iz2_, iz3_, iz4_, iz5_, reduceIte, if_pos, if_neg, op_os, op_vIs, op_vLs, op_vRs, op_vNs, dI_at, dL_at, dI_2, dL_1, Nat.reduceEqDiff, Nat.reduceAdd, Nat.reduceMul, false_and, and_false, true_and, and_true, ne_eq, not_true_eq_false, not_false_eq_true, b2_z, b2_o, b2_n, b2_01, nar_b, nar_0, nar_1, Bool.false_eq_true, Bool.true_eq_false], by rw [← hE0]; simp (disch := omega) only [nI_add, pk_mul, nI_clamp, nI_leI, nI_ltI, nI_eq, inb_, iz1_, iz2_, iz3_, iz4_, iz5_, reduceIte, if_pos, if_neg, op_os, op_vIs, op_vLs, op_vRs, op_vNs, dI_at, dL_at, dI_2, dL_1, Nat.reduceEqDiff, Nat.reduceAdd, Nat.reduceMul, false_and, and_false, true_and, and_true, ne_eq, not_true_eq_false, not_false_eq_true, b2_z, b2_o, b2_n, b2_01, nar_b, nar_0, nar_1, Bool.false_eq_true, Bool.true_eq_false], by
        rw [← hE0]
        exact fx_1 (fx_1 (fx_r _ _ D) (Or.inl ⟨rfl, rfl⟩)) (by omega)⟩
      have hE1 : fx_ (fun b => b = 362 ∨ b = 369 ∨ b = 370 ∨ b = 371) fsq_ D E1 := fx_w b7 (fun b hb => by omega) (fun j hj => by unfold fsq_; omega)
      have hmvN := hmb (M.2.1) (Nat.le_refl _)
      have hmvl := cq_le mv (M.2.1)
      -- the letters
      obtain ⟨E2, c1, ⟨rb', rl', c2, c3, c4⟩, c5⟩ := lp_ (fun l (F : dy_) => k134_187 w (d + 2) (nI b) (nI bl) (nI l) F) (fun l F => (∃ rb' rl', (F.1 351 24 = nI (n + l) ∧ ∀ i, i < n + l → F.1 370 i = nI (rb' i) ∧ F.1 371 i = nI (rl' i) ∧ rb' i < bl + 1 ∧ rl' i < M.1) ∧ (∀ i, i < n → rb' i = rb i ∧ rl' i = rl i) ∧ ∀ l', l' < l → rl' (n + l') = l' ∧ ((∃ i, t ≤ i ∧ i < n ∧ rb i = b ∧ rl i = l') → rb' (n + l') = bl) ∧ (rb' (n + l') = b ∨ rb' (n + l') = bl)) ∧ fx_ (fun b => b = 370 ∨ b = 371) (fun j => j = 24) E1 F) (M.1) (s := E1) (by
        rintro l F hl ⟨⟨rb', rl', ⟨t0, t1⟩, t2, t3⟩, t4⟩
        have hF : fx_ (fun b => b = 362 ∨ b = 369 ∨ b = 370 ∨ b = 371) fsq_ D F := fx_t hE1 (fx_w t4 (fun b hb => by omega) (fun j hj => by unfold fsq_; omega))
        have g25 : F.1 351 25 = nI t := by
          rw [t4.2.1 25 (by omega), b7.2.1 25 (by omega)]
          exact h3.2.2
        have s1 : F.1 369 bl = nI (cq_ mv (M.2.1)) := by
          rw [t4.1 369 (by omega) (by omega)]
          exact b3
        have s2 : F.1 369 b = nI (cq_ (fun p => decide (P p = b)) (M.2.1) - cq_ mv (M.2.1)) := by
          rw [t4.1 369 (by omega) (by omega)]
          exact b4
        obtain ⟨r, r1, r2⟩ := x132 (w := w) (d := d) (b := b) (l := l) (n := n + l) (t := t) (rb := rb') (rl := rl') t0 g25 (fun i hi => by
          obtain ⟨q1, q2, q3, q4⟩ := t1 i hi
          exact ⟨q1, q2, by omega, by omega⟩) (by omega) (by omega) (by omega) (by omega)
        have fin : ∀ v : Nat, v < bl + 1 → (r = true → v = bl) → (v = b ∨ v = bl) → k134_187 w (d + 2) (nI b) (nI bl) (nI l) F = k134_187 w (d + 2) (nI b) (nI bl) (nI (l + 1)) (dI_ (dI_ (dI_ F 370 (n + l) (nI v)) 371 (n + l) (nI l)) 351 24 (nI (n + l + 1))) → ∃ s', k134_187 w (d + 2) (nI b) (nI bl) (nI l) F = k134_187 w (d + 2) (nI b) (nI bl) (nI (l + 1)) s' ∧ (∃ rb' rl' : Nat → Nat, (s'.1 351 24 = nI (n + (l + 1)) ∧ ∀ i, i < n + (l + 1) → s'.1 370 i = nI (rb' i) ∧ s'.1 371 i = nI (rl' i) ∧ rb' i < bl + 1 ∧ rl' i < M.1) ∧ (∀ i, i < n → rb' i = rb i ∧ rl' i = rl i) ∧ ∀ l', l' < l + 1 → rl' (n + l') = l' ∧ ((∃ i, t ≤ i ∧ i < n ∧ rb i = b ∧ rl i = l') → rb' (n + l') = bl) ∧ (rb' (n + l') = b ∨ rb' (n + l') = bl)) ∧ fx_ (fun b => b = 370 ∨ b = 371) (fun j => j = 24) E1 s' := by
          intro v hv hr hvb st
          refine ⟨_, st, ⟨fun i => if i = n + l then v else rb' i, fun i => if i = n + l then l else rl' i, ⟨by simp (disch := omega) only [nI_add, pk_mul, nI_clamp, nI_leI, nI_ltI, nI_eq, inb_, iz1_, iz2_, iz3_, iz4_, iz5_, reduceIte, if_pos, if_neg, op_os, op_vIs, op_vLs, op_vRs, op_vNs, dI_at, dL_at, dI_2, dL_1, Nat.reduceEqDiff, Nat.reduceAdd, Nat.reduceMul, false_and, and_false, true_and, and_true, ne_eq, not_true_eq_false, not_false_eq_true, b2_z, b2_o, b2_n, b2_01, nar_b, nar_0, nar_1, Bool.false_eq_true, Bool.true_eq_false]; rfl, fun i hi => ?_⟩, fun i hi => ?_, fun l' hl' => ?_⟩, fx_1 (fx_1 (fx_1 t4 (by omega)) (by omega)) (by omega)⟩
          · simp (disch := omega) only [nI_add, pk_mul, nI_clamp, nI_leI, nI_ltI, nI_eq, inb_, iz1_, iz2_, iz3_, iz4_, iz5_, reduceIte, op_os, op_vIs, op_vLs, op_vRs, op_vNs, dI_at, dL_at, dI_2, dL_1, Nat.reduceEqDiff, Nat.reduceAdd, Nat.reduceMul, false_and, and_false, true_and, and_true, ne_eq, not_true_eq_false, not_false_eq_true, b2_z, b2_o, b2_n, b2_01, nar_b, nar_0, nar_1, Bool.false_eq_true, Bool.true_eq_false]
            by_cases y : i = n + l
            · rw [if_pos y, if_pos y, if_pos y, if_pos y]
              exact ⟨rfl, rfl, hv, hl⟩
            · rw [if_neg y, if_neg y, if_neg y, if_neg y]
              exact t1 i (by omega)
          · dsimp only
            rw [if_neg (by omega), if_neg (by omega)]
            exact t2 i hi
          · dsimp only
            by_cases y : l' = l
            · rw [y, if_pos rfl, if_pos rfl]
              refine ⟨rfl, fun ⟨i, q1, q2, q3, q4⟩ => hr (r2.mpr ⟨i, q1, by omega, ?_, ?_⟩), hvb⟩
              · rw [(t2 i q2).1]; exact q3
              · rw [(t2 i q2).2]; exact q4
            · rw [if_neg (by omega), if_neg (by omega)]
              exact t3 l' (by omega)
        cases r with
        | true =>
          refine fin bl (by omega) (fun _ => rfl) (Or.inr rfl) ?_
          rw [e134_187]
          simp (disch := omega) only [nI_add, pk_mul, nI_clamp, nI_leI, nI_ltI, nI_eq, inb_, iz1_, iz2_, iz3_, iz4_, iz5_, reduceIte, if_pos, if_neg, op_os, op_vIs, op_vLs, op_vRs, op_vNs, dI_at, dL_at, dI_2, dL_1, Nat.reduceEqDiff, Nat.reduceAdd, Nat.reduceMul, false_and, and_false, true_and, and_true, ne_eq, not_true_eq_false, not_false_eq_true, b2_z, b2_o, b2_n, b2_01, nar_b, nar_0, nar_1, Bool.false_eq_true, Bool.true_eq_false, (hbF F hF).1, r1, x131 t0 (show n + l < 2000 by omega), e134_245]
        | false =>
          by_cases y : cq_ mv (M.2.1) ≤ cq_ (fun p => decide (P p = b)) (M.2.1) - cq_ mv (M.2.1)
          · refine fin bl (by omega) (fun z => (by cases z)) (Or.inr rfl) ?_
            rw [e134_187]
            simp (disch := omega) only [nI_add, pk_mul, nI_clamp, nI_leI, nI_ltI, nI_eq, inb_, iz1_, iz2_, iz3_, iz4_, iz5_, reduceIte, if_pos, if_neg, op_os, op_vIs, op_vLs, op_vRs, op_vNs, dI_at, dL_at, dI_2, dL_1, Nat.reduceEqDiff, Nat.reduceAdd, Nat.reduceMul, false_and, and_false, true_and, and_true, ne_eq, not_true_eq_false, not_false_eq_true, b2_z, b2_o, b2_n, b2_01, nar_b, nar_0, nar_1, Bool.false_eq_true, Bool.true_eq_false, (hbF F hF).1, r1, s1, s2, e134_240, x131 t0 (show n + l < 2000 by omega), e134_245]
          · refine fin b (by omega) (fun z => (by cases z)) (Or.inl rfl) ?_
            rw [e134_187]
            simp (disch := omega) only [nI_add, pk_mul, nI_clamp, nI_leI, nI_ltI, nI_eq, inb_, iz1_, iz2_, iz3_, iz4_, iz5_, reduceIte, if_pos, if_neg, op_os, op_vIs, op_vLs, op_vRs, op_vNs, dI_at, dL_at, dI_2, dL_1, Nat.reduceEqDiff, Nat.reduceAdd, Nat.reduceMul, false_and, and_false, true_and, and_true, ne_eq, not_true_eq_false, not_false_eq_true, b2_z, b2_o, b2_n, b2_01, nar_b, nar_0, nar_1, Bool.false_eq_true, Bool.true_eq_false, (hbF F hF).1, r1, s1, s2, e134_240, x131 t0 (show n + l < 2000 by omega), e134_245]) ⟨⟨rb, rl, ⟨by rw [b7.2.1 24 (by omega)]; exact h3.2.1, fun i hi => by
          rw [b7.1 370 (by omega) (by omega), b7.1 371 (by omega) (by omega)]
          obtain ⟨q1, q2, q3, q4⟩ := h4 i hi
          exact ⟨q1, q2, by omega, q4⟩⟩, fun _ _ => ⟨rfl, rfl⟩, fun l' hl' => absurd hl' (by omega)⟩, fx_r _ _ E1⟩
      have hE2 : fx_ (fun b => b = 362 ∨ b = 369 ∨ b = 370 ∨ b = 371) fsq_ D E2 := fx_t hE1 (fx_w c5 (fun b hb => by omega) (fun j hj => by unfold fsq_; omega))
      generalize hP' : (fun p => if P p = b ∧ g p ≠ g x then bl else P p) = P'
      have hpp : ∀ p, P' p = if P p = b ∧ g p ≠ g x then bl else P p := fun p => by rw [← hP']
      refine ⟨E2, P', bl + 1, n + M.1, rb', rl', ?_, ⟨hbF E2 hE2, fun q hq => ?_, ⟨?_, c2.1, ?_⟩, c2.2, fun v hv => ?_, fun p hp => ?_, fun v hv => ?_, ?_, by omega⟩, fr372 E2 hE2, fx_w hE2 (fun b hb => by unfold fsp_; omega) (fun j hj => hj), Or.inr ⟨rfl, rfl, ⟨x, x1, x2, fun p _ => hpp p⟩, c3, c4⟩⟩
      · rw [a1, e134_12, if_pos hneg]
        simp (disch := omega) only [nI_add, pk_mul, nI_clamp, nI_leI, nI_ltI, nI_eq, inb_, iz1_, iz2_, iz3_, iz4_, iz5_, reduceIte, if_pos, if_neg, op_os, op_vIs, op_vLs, op_vRs, op_vNs, dI_at, dL_at, dI_2, dL_1, Nat.reduceEqDiff, Nat.reduceAdd, Nat.reduceMul, false_and, and_false, true_and, and_true, ne_eq, not_true_eq_false, not_false_eq_true, b2_z, b2_o, b2_n, b2_01, nar_b, nar_0, nar_1, Bool.false_eq_true, Bool.true_eq_false, h5 b hb, h3.1]
        rw [hE0]
        refine Eq.trans (show _ = k134_112 w (d + 2) (nI b) (nI x) (nI bl) (nI (M.2.1)) E1 from b1) ?_
        rw [e134_112]
        simp (disch := omega) only [nI_add, pk_mul, nI_clamp, nI_leI, nI_ltI, nI_eq, inb_, iz1_, iz2_, iz3_, iz4_, iz5_, reduceIte, if_pos, if_neg, op_os, op_vIs, op_vLs, op_vRs, op_vNs, dI_at, dL_at, dI_2, dL_1, Nat.reduceEqDiff, Nat.reduceAdd, Nat.reduceMul, false_and, and_false, true_and, and_true, ne_eq, not_true_eq_false, not_false_eq_true, b2_z, b2_o, b2_n, b2_01, nar_b, nar_0, nar_1, Bool.false_eq_true, Bool.true_eq_false, (hbF E1 hE1).2.1, Nat.le_refl]
        refine Eq.trans (show _ = k134_187 w (d + 2) (nI b) (nI bl) (nI (M.1)) E2 from c1) ?_
        rw [e134_187]
        simp (disch := omega) only [nI_add, pk_mul, nI_clamp, nI_leI, nI_ltI, nI_eq, inb_, iz1_, iz2_, iz3_, iz4_, iz5_, reduceIte, if_pos, if_neg, op_os, op_vIs, op_vLs, op_vRs, op_vNs, dI_at, dL_at, dI_2, dL_1, Nat.reduceEqDiff, Nat.reduceAdd, Nat.reduceMul, false_and, and_false, true_and, and_true, ne_eq, not_true_eq_false, not_false_eq_true, b2_z, b2_o, b2_n, b2_01, nar_b, nar_0, nar_1, Bool.false_eq_true, Bool.true_eq_false, (hbF E2 hE2).1, Nat.le_refl]
      · rw [c5.1 362 (by omega) (by omega), b2 q hq, hpp]
        by_cases y : P q = b ∧ g q ≠ g x
        · rw [if_pos y, if_pos ⟨hq, (hmt q).mpr y⟩]
        · rw [if_neg y, if_neg (fun v => y ((hmt q).mp v.2))]
      · rw [c5.2.1 22 (by omega)]
        exact b6
      · rw [c5.2.1 25 (by omega), b7.2.1 25 (by omega)]
        exact h3.2.2
      · rw [c5.1 369 (by omega) (by omega)]
        by_cases y : v = bl
        · rw [y, b3]
          refine congrArg nI (cq_e fun p hp => ?_)
          have := h6 p hp
          rw [hpp]
          by_cases y2 : P p = b ∧ g p ≠ g x
          · rw [if_pos y2, (hmt p).mpr y2, decide_eq_true rfl]
          · rw [if_neg y2, decide_eq_false (by omega)]
            exact bf_ fun z => y2 ((hmt p).mp z)
        · by_cases y3 : v = b
          · rw [y3, b4]
            refine congrArg nI ?_
            have e1 := cq_add (fun p => decide (P p = b)) (fun p => g p != g x) (M.2.1)
            have e2 : cq_ (fun p => decide (P p = b) && (g p != g x)) (M.2.1) = cq_ mv (M.2.1) := by rw [← hmv]
            have e3 : cq_ (fun p => decide (P p = b) && !(g p != g x)) (M.2.1) = cq_ (fun p => decide (P' p = b)) (M.2.1) := by
              refine cq_e fun p hp => ?_
              have := h6 p hp
              rw [hpp]
              by_cases y2 : P p = b ∧ g p ≠ g x
              · rw [if_pos y2, decide_eq_false (show ¬ bl = b by omega), bne_iff_ne.mpr y2.2]
                simp
              · rw [if_neg y2]
                by_cases y4 : P p = b
                · have hee : g p = g x := Classical.byContradiction fun v => y2 ⟨y4, v⟩
                  rw [hee, decide_eq_true y4]
                  simp
                · rw [decide_eq_false y4, Bool.false_and]
            omega
          · rw [b5 v (by omega) y3, h5 v (by omega)]
            refine congrArg nI (cq_e fun p hp => ?_)
            rw [hpp]
            by_cases y2 : P p = b ∧ g p ≠ g x
            · rw [if_pos y2, decide_eq_false (by omega), decide_eq_false (by omega)]
            · rw [if_neg y2]
      · have := h6 p hp
        rw [hpp]
        by_cases y2 : P p = b ∧ g p ≠ g x
        · rw [if_pos y2]; omega
        · rw [if_neg y2]; omega
      · by_cases y : v = bl
        · obtain ⟨p, p1, p2, p3⟩ := hmix
          exact ⟨p, p1, by rw [hpp, if_pos ⟨p2, p3⟩, y]⟩
        · by_cases y3 : v = b
          · exact ⟨x, x1, by rw [hpp, if_neg (fun z => z.2 rfl), x2, y3]⟩
          · obtain ⟨q, q1, q2⟩ := h7 v (by omega)
            exact ⟨q, q1, by rw [hpp, if_neg (by omega), q2]⟩
      · have : M.1 * bl = M.1 * (bl - 1) + M.1 := by
          rw [← Nat.mul_succ]
          exact congrArg _ (by omega)
        rw [Nat.add_sub_cancel]
        omega
end SPLIT
