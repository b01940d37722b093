/-! bySplitters -/
/-- what waits still tells apart all that must be -/
def hop_ (M : ma_) (P : Nat → Nat) (t n : Nat) (rb rl : Nat → Nat) : Prop := (∀ p q, p < M.2.1 → q < M.2.1 → mnd_ M p q → P p = P q) ∧ (∀ p q, p < M.2.1 → q < M.2.1 → P p = P q → M.2.2.2.2 p = M.2.2.2.2 q) ∧ ∀ p q l, p < M.2.1 → q < M.2.1 → l < M.1 → P p = P q → P (M.2.2.2.1 p l) ≠ P (M.2.2.2.1 q l) → ∃ i, t ≤ i ∧ i < n ∧ rl i = l ∧ (rb i = P (M.2.2.2.1 p l) ∨ rb i = P (M.2.2.2.1 q l))
theorem hop_end {M : ma_} (hM : wm_ M) {P : Nat → Nat} {n bl : Nat} {rb rl : Nat → Nat} (h : hop_ M P n n rb rl) (h1 : ∀ p, p < M.2.1 → P p < bl) (h2 : ∀ v, v < bl → ∃ p, p < M.2.1 ∧ P p = v) : bl = nn_ M := by
  have st : ∀ r p q, p < M.2.1 → q < M.2.1 → P p = P q → mrr_ M r p q := by
    intro r
    induction r with
    | zero => exact fun p q hp hq e => h.2.1 p q hp hq e
    | succ r ih =>
      intro p q hp hq e
      refine ⟨ih p q hp hq e, fun l hl => ih _ _ (hM.2.2.2 p l hp hl) (hM.2.2.2 q l hq hl) ?_⟩
      refine Classical.byContradiction fun z => ?_
      obtain ⟨i, i1, i2, _⟩ := h.2.2 p q l hp hq hl e z
      omega
  have pat : ∀ p q, p < M.2.1 → q < M.2.1 → (P p = P q ↔ nfs_ M p = nfs_ M q) := fun p q hp hq => by
    rw [(nf_1 M).1 p q hp hq]
    exact ⟨fun e r => st r p q hp hq e, h.1 p q hp hq⟩
  have le1 : bl ≤ nn_ M := by
    have := nodup_enc (enc := fun v => nfs_ M (lrp_ (M.2.1) P v)) (n := nn_ M) (List.range bl) List.nodup_range (by
      intro a b ha hb e
      obtain ⟨p, p1, p2⟩ := h2 a (List.mem_range.mp ha)
      obtain ⟨q, q1, q2⟩ := h2 b (List.mem_range.mp hb)
      have g1 := re_1 p1 p2
      have g2 := re_1 q1 q2
      have := (pat _ _ (by omega) (by omega)).mpr e
      rw [g1.2.1, g2.2.1] at this
      exact this) (by
      intro a ha
      obtain ⟨p, p1, p2⟩ := h2 a (List.mem_range.mp ha)
      have g1 := re_1 p1 p2
      exact (nf_1 M).2.2.1 _ (by omega))
    rwa [List.length_range] at this
  have le2 : nn_ M ≤ bl := by
    have := nodup_enc (enc := fun v => P (rp_ M v)) (n := bl) (List.range (nn_ M)) List.nodup_range (by
      intro a b ha hb e
      have g1 := rp_1 (List.mem_range.mp ha)
      have g2 := rp_1 (List.mem_range.mp hb)
      have := (pat _ _ g1.1 g2.1).mp e
      rw [g1.2.1, g2.2.1] at this
      exact this) (by
      intro a ha
      exact h1 _ (rp_1 (List.mem_range.mp ha)).1)
    rwa [List.length_range] at this
  omega
/-- inside one taking -/
def hin_ (M : ma_) (g : Nat → Bool) (P : Nat → Nat) (bl t n : Nat) (rb rl : Nat → Nat) (b : Nat) (P' : Nat → Nat) (n' : Nat) (rb' rl' : Nat → Nat) : Prop := n ≤ n' ∧ (∀ i, i < n → rb' i = rb i ∧ rl' i = rl i) ∧ (∀ x, x < M.2.1 → P' x = P x ∨ (bl ≤ P' x ∧ P x < b)) ∧ (∀ p q, p < M.2.1 → q < M.2.1 → P' p = P' q → P p = P q) ∧ (∀ p q, p < M.2.1 → q < M.2.1 → P p < b → P' p = P' q → g p = g q) ∧ (∀ p q, p < M.2.1 → q < M.2.1 → P p = P q → P' p ≠ P' q → g p ≠ g q) ∧ (∀ x l, x < M.2.1 → l < M.1 → (∃ i, t ≤ i ∧ i < n ∧ rb i = P x ∧ rl i = l) → ∃ i, t ≤ i ∧ i < n' ∧ rb' i = P' x ∧ rl' i = l) ∧ ∀ x y l, x < M.2.1 → y < M.2.1 → l < M.1 → P x = P y → P' x ≠ P' y → ∃ i, t ≤ i ∧ i < n' ∧ rl' i = l ∧ (rb' i = P' x ∨ rb' i = P' y)
theorem hin_0 (M : ma_) (g : Nat → Bool) (P : Nat → Nat) (bl t n : Nat) (rb rl : Nat → Nat) : hin_ M g P bl t n rb rl 0 P n rb rl := ⟨Nat.le_refl _, fun _ _ => ⟨rfl, rfl⟩, fun _ _ => Or.inl rfl, fun _ _ _ _ h => h, fun _ _ _ _ h => absurd h (by omega), fun _ _ _ _ h h' => absurd h h', fun x l _ _ h => h, fun x y l _ _ _ h h' => absurd h h'⟩
/-- nothing was divided -/
theorem hin_u {M : ma_} {g : Nat → Bool} {P : Nat → Nat} {bl t n : Nat} {rb rl : Nat → Nat} {b : Nat} {P' : Nat → Nat} {n' : Nat} {rb' rl' : Nat → Nat} (hb : b < bl) (h : hin_ M g P bl t n rb rl b P' n' rb' rl') (hu : ∀ p q, p < M.2.1 → q < M.2.1 → P' p = b → P' q = b → g p = g q) : hin_ M g P bl t n rb rl (b + 1) P' n' rb' rl' := by
  obtain ⟨h0, h1, h2, h3, h4, h5, h6, h7⟩ := h
  refine ⟨h0, h1, fun x hx => ?_, h3, fun p q hp hq hpb e => ?_, h5, h6, h7⟩
  · rcases h2 x hx with z | z
    · exact Or.inl z
    · exact Or.inr ⟨z.1, by omega⟩
  · by_cases z : P p < b
    · exact h4 p q hp hq z e
    · have e1 : P p = b := by omega
      have e2 := h3 p q hp hq e
      refine hu p q hp hq ?_ ?_
      · rcases h2 p hp with y | y
        · omega
        · omega
      · rcases h2 q hq with y | y
        · omega
        · omega
/-- block b was divided -/
theorem hin_d {M : ma_} {g : Nat → Bool} {P : Nat → Nat} {bl t n : Nat} {rb rl : Nat → Nat} {b bl' : Nat} {P' P'' : Nat → Nat} {n' n'' : Nat} {rb' rl' rb'' rl'' : Nat → Nat} {x : Nat} (hb : b < bl) (hbl : bl ≤ bl') (ht : t ≤ n) (h : hin_ M g P bl t n rb rl b P' n' rb' rl') (hP : ∀ p, p < M.2.1 → P' p < bl') (hn : n'' = n' + M.1) (hd : ∀ p, p < M.2.1 → P'' p = if P' p = b ∧ g p ≠ g x then bl' else P' p) (hr : ∀ i, i < n' → rb'' i = rb' i ∧ rl'' i = rl' i) (hl : ∀ l, l < M.1 → rl'' (n' + l) = l ∧ ((∃ i, t ≤ i ∧ i < n' ∧ rb' i = b ∧ rl' i = l) → rb'' (n' + l) = bl') ∧ (rb'' (n' + l) = b ∨ rb'' (n' + l) = bl')) : hin_ M g P bl t n rb rl (b + 1) P'' n'' rb'' rl'' := by
  obtain ⟨h0, h1, h2, h3, h4, h5, h6, h7⟩ := h
  have bo : ∀ p, p < M.2.1 → (P' p = b ↔ P p = b) := fun p hp => by
    rcases h2 p hp with z | z
    · rw [z]
    · omega
  have bool3 : ∀ a c e : Bool, a ≠ e → c ≠ e → a = c := by decide
  refine ⟨by omega, fun i hi => ?_, fun y hy => ?_, fun p q hp hq e => ?_, fun p q hp hq hpb e => ?_, fun p q hp hq e e' => ?_, fun y l hy hl' hw => ?_, fun y z l hy hz hl' e e' => ?_⟩
  · rw [(hr i (by omega)).1, (hr i (by omega)).2]
    exact h1 i hi
  · rw [hd y hy]
    by_cases c : P' y = b ∧ g y ≠ g x
    · rw [if_pos c]
      exact Or.inr ⟨hbl, by have := (bo y hy).mp c.1; omega⟩
    · rw [if_neg c]
      rcases h2 y hy with z | z
      · exact Or.inl z
      · exact Or.inr ⟨z.1, by omega⟩
  · have k1 := hP p hp
    have k2 := hP q hq
    rw [hd p hp, hd q hq] at e
    by_cases c : P' p = b ∧ g p ≠ g x
    · by_cases c' : P' q = b ∧ g q ≠ g x
      · exact h3 p q hp hq (by rw [c.1, c'.1])
      · rw [if_pos c, if_neg c'] at e
        omega
    · by_cases c' : P' q = b ∧ g q ≠ g x
      · rw [if_neg c, if_pos c'] at e
        omega
      · rw [if_neg c, if_neg c'] at e
        exact h3 p q hp hq e
  · have k1 := hP p hp
    have k2 := hP q hq
    rw [hd p hp, hd q hq] at e
    by_cases c : P' p = b ∧ g p ≠ g x
    · by_cases c' : P' q = b ∧ g q ≠ g x
      · exact bool3 _ _ _ c.2 c'.2
      · rw [if_pos c, if_neg c'] at e
        omega
    · by_cases c' : P' q = b ∧ g q ≠ g x
      · rw [if_neg c, if_pos c'] at e
        omega
      · rw [if_neg c, if_neg c'] at e
        by_cases z : P p < b
        · exact h4 p q hp hq z e
        · have e1 : P' p = b := (bo p hp).mpr (by omega)
          have g1 : g p = g x := Classical.byContradiction fun y => c ⟨e1, y⟩
          have g2 : g q = g x := Classical.byContradiction fun y => c' ⟨by rw [← e]; exact e1, y⟩
          rw [g1, g2]
  · by_cases z : P' p = P' q
    · rw [hd p hp, hd q hq] at e'
      by_cases c : P' p = b ∧ g p ≠ g x
      · by_cases c' : P' q = b ∧ g q ≠ g x
        · rw [if_pos c, if_pos c'] at e'
          exact absurd rfl e'
        · have g2 : g q = g x := Classical.byContradiction fun y => c' ⟨by rw [← z]; exact c.1, y⟩
          rw [g2]
          exact c.2
      · by_cases c' : P' q = b ∧ g q ≠ g x
        · have g2 : g p = g x := Classical.byContradiction fun y => c ⟨by rw [z]; exact c'.1, y⟩
          rw [g2]
          exact fun y => c'.2 y.symm
        · rw [if_neg c, if_neg c'] at e'
          exact absurd z e'
    · exact h5 p q hp hq e z
  · obtain ⟨i, i1, i2, i3, i4⟩ := h6 y l hy hl' hw
    rw [hd y hy]
    by_cases c : P' y = b ∧ g y ≠ g x
    · rw [if_pos c]
      obtain ⟨l1, l2, l3⟩ := hl l hl'
      exact ⟨n' + l, by omega, by omega, l2 ⟨i, i1, i2, by rw [i3]; exact c.1, i4⟩, l1⟩
    · rw [if_neg c]
      exact ⟨i, i1, by omega, by rw [(hr i i2).1]; exact i3, by rw [(hr i i2).2]; exact i4⟩
  · by_cases c0 : P' y = P' z
    · rw [hd y hy, hd z hz] at e'
      rw [hd y hy, hd z hz]
      obtain ⟨l1, l2, l3⟩ := hl l hl'
      by_cases c : P' y = b ∧ g y ≠ g x
      · by_cases c' : P' z = b ∧ g z ≠ g x
        · rw [if_pos c, if_pos c'] at e'
          exact absurd rfl e'
        · rw [if_pos c, if_neg c']
          refine ⟨n' + l, by omega, by omega, l1, ?_⟩
          rw [← c0, c.1]
          exact l3.symm
      · by_cases c' : P' z = b ∧ g z ≠ g x
        · rw [if_neg c, if_pos c']
          refine ⟨n' + l, by omega, by omega, l1, ?_⟩
          rw [c0, c'.1]
          exact l3
        · rw [if_neg c, if_neg c'] at e'
          exact absurd c0 e'
    · obtain ⟨i, i1, i2, i3, i4⟩ := h7 y z l hy hz hl' e c0
      have u1 : ¬ (P' y = b ∧ g y ≠ g x) := fun c => by
        have a1 := (bo y hy).mp c.1
        have a2 := (bo z hz).mpr (by omega)
        omega
      have u2 : ¬ (P' z = b ∧ g z ≠ g x) := fun c => by
        have a1 := (bo z hz).mp c.1
        have a2 := (bo y hy).mpr (by omega)
        omega
      rw [hd y hy, hd z hz, if_neg u1, if_neg u2]
      exact ⟨i, i1, by omega, by rw [(hr i i2).2]; exact i3, by rw [(hr i i2).1]; exact i4⟩
/-- after the taking -/
theorem hop_s {M : ma_} (hM : wm_ M) {P P' : Nat → Nat} {bl t n n' : Nat} {rb rl rb' rl' : Nat → Nat} {g : Nat → Bool} (h : hop_ M P t n rb rl) (hP : ∀ p, p < M.2.1 → P p < bl) (hlt : rl t < M.1) (hg : ∀ p, p < M.2.1 → g p = decide (P (M.2.2.2.1 p (rl t)) = rb t)) (k : hin_ M g P bl (t + 1) n rb rl bl P' n' rb' rl') : hop_ M P' (t + 1) n' rb' rl' := by
  obtain ⟨k0, k1, k2, k3, k4, k5, k6, k7⟩ := k
  refine ⟨fun p q hp hq e => ?_, fun p q hp hq e => h.2.1 p q hp hq (k3 p q hp hq e), fun p q l hp hq hl e e' => ?_⟩
  · refine Classical.byContradiction fun z => ?_
    have e1 := h.1 p q hp hq e
    refine k5 p q hp hq e1 z ?_
    rw [hg p hp, hg q hq, h.1 _ _ (hM.2.2.2 p _ hp hlt) (hM.2.2.2 q _ hq hlt) (mi_nx e hlt)]
  · have hp' := hM.2.2.2 p l hp hl
    have hq' := hM.2.2.2 q l hq hl
    have e1 := k3 p q hp hq e
    by_cases z : P (M.2.2.2.1 p l) = P (M.2.2.2.1 q l)
    · exact k7 _ _ l hp' hq' hl z e'
    · obtain ⟨i, i1, i2, i3, i4⟩ := h.2.2 p q l hp hq hl e1 z
      by_cases y : i = t
      · have hgg := k4 p q hp hq (hP p hp) e
        rw [hg p hp, hg q hq, ← y, i3] at hgg
        exfalso
        rcases i4 with i4 | i4
        · rw [decide_eq_true i4.symm] at hgg
          have := of_decide_eq_true hgg.symm
          exact z (by rw [this, i4])
        · rw [decide_eq_true (show P (M.2.2.2.1 q l) = rb i from i4.symm)] at hgg
          have := of_decide_eq_true hgg
          exact z (by rw [this, i4])
      · rcases i4 with i4 | i4
        · obtain ⟨j, j1, j2, j3, j4⟩ := k6 _ l hp' hl ⟨i, by omega, i2, i4, i3⟩
          exact ⟨j, j1, j2, j4, Or.inl j3⟩
        · obtain ⟨j, j1, j2, j3, j4⟩ := k6 _ l hq' hl ⟨i, by omega, i2, i4, i3⟩
          exact ⟨j, j1, j2, j4, Or.inr j3⟩
section SPL
variable {w : (Nat → Int32) × Nat} {d : Nat} {D : dy_} {M : ma_}
/-- the loop of takings -/
theorem x133w (hM : wm_ M) (hN : M.2.1 ≤ 60) : ∀ u t bl n (E : dy_) P rb rl, 237 ≤ t + u → hs_ M E P bl t n rb rl → t ≤ n → hop_ M P t n rb rl → ∃ D', k133_157 w (d + 3) E = some (some (.int (nI (M.1 * (nn_ M - 1)))), D') ∧ fx_ fsp_ fsq_ E D' := by
  intro u
  induction u with
  | zero =>
    intro t bl n E P rb rl hu h ht
    have := surj_le h.2.2.2.2.2.2.1
    have h8 := h.2.2.2.2.2.2.2.1
    have hk := hM.1
    have : M.1 * (bl - 1) ≤ 4 * 59 := Nat.mul_le_mul hk.2 (by omega)
    omega
  | succ u ih =>
    intro t bl n E P rb rl hu h ht hh
    have hk := hM.1
    have hsur := surj_le h.2.2.2.2.2.2.1
    have hn236 : n ≤ 236 := by
      have h8 := h.2.2.2.2.2.2.2.1
      have : M.1 * (bl - 1) ≤ 4 * 59 := Nat.mul_le_mul hk.2 (by omega)
      omega
    rw [e133_157]
    by_cases z : n ≤ t
    · obtain rfl : t = n := by omega
      have e := hop_end hM hh h.2.2.2.2.2.1 h.2.2.2.2.2.2.1
      have e8 := h.2.2.2.2.2.2.2.1
      refine ⟨E, ?_, fx_r _ _ E⟩
      simp (disch := omega) only [nI_add, pk_mul, nI_clamp, nI_leI, nI_ltI, nI_eq, inb_, iz1_, iz2_, iz3_, iz4_, iz5_, reduceIte, if_pos, if_neg, op_os, op_vIs, op_vLs, op_vRs, op_vNs, dI_at, dL_at, dI_2, dL_1, Nat.reduceEqDiff, Nat.reduceAdd, Nat.reduceMul, false_and, and_false, true_and, and_true, ne_eq, not_true_eq_false, not_false_eq_true, b2_z, b2_o, b2_n, b2_01, nar_b, nar_0, nar_1, Bool.false_eq_true, Bool.true_eq_false, h.2.2.1.2.1, h.2.2.1.2.2, Nat.le_refl]
      rw [← e, ← e8]
    · obtain ⟨q1, q2, q3, q4⟩ := h.2.2.2.1 t (by omega)
      generalize hE0 : dI_ E 351 25 (nI (t + 1)) = E0
      have f0 : fx_ fsp_ fsq_ E E0 := by
        rw [← hE0]
        exact fx_1 (fx_r _ _ E) (Or.inl ⟨rfl, by unfold fsq_; omega⟩)
      let g : Nat → Bool := fun p => decide (P (M.2.2.2.1 p (rl t)) = rb t)
      have hbE0 : bg_ E0 M := bg_fx h.1 f0 (by unfold fsq_; omega) (by unfold fsq_; omega) (by unfold fsp_; omega) (by unfold fsp_; omega)
      have hwE0 : nwr_ E0 362 (M.2.1) P := fun p hp => by
        rw [← hE0]
        simp (disch := omega) only [nI_add, pk_mul, nI_clamp, nI_leI, nI_ltI, nI_eq, inb_, iz1_, iz2_, iz3_, iz4_, iz5_, reduceIte, if_pos, if_neg, op_os, op_vIs, op_vLs, op_vRs, op_vNs, dI_at, dL_at, dI_2, dL_1, Nat.reduceEqDiff, Nat.reduceAdd, Nat.reduceMul, false_and, and_false, true_and, and_true, ne_eq, not_true_eq_false, not_false_eq_true, b2_z, b2_o, b2_n, b2_01, nar_b, nar_0, nar_1, Bool.false_eq_true, Bool.true_eq_false]
        exact h.2.1 p hp
      obtain ⟨E1, a1, a2, a3⟩ := lp_ (fun p (F : dy_) => k133_200 w (d + 3) (nI (rb t)) (nI (rl t)) (nI p) F) (fun p F => (∀ q, q < p → F.1 372 q = b2_ (g q)) ∧ fx_ (fun b => b = 372) (fun _ => False) E0 F) (M.2.1) (s := E0) (by
        rintro p F hp ⟨t1, t2⟩
        have hbF := bg_fx hbE0 t2 id id (by omega) (by omega)
        have hx := hM.2.2.2 p _ hp q4
        have hPx := h.2.2.2.2.2.1 _ hx
        have hwF : F.1 362 (M.2.2.2.1 p (rl t)) = nI (P (M.2.2.2.1 p (rl t))) := by
          rw [t2.1 362 (by omega) (by omega)]
          exact hwE0 _ hx
        refine ⟨dI_ F 372 p (b2_ (g p)), ?_, fun q hq => ?_, fx_1 t2 (by omega)⟩
        · show k133_200 w (d + 3) (nI (rb t)) (nI (rl t)) (nI p) F = _
          have hgp : g p = decide (P (M.2.2.2.1 p (rl t)) = rb t) := rfl
          rw [e133_200]
          by_cases y : P (M.2.2.2.1 p (rl t)) = rb t
          · rw [hgp, decide_eq_true y]
            simp (disch := omega) only [nI_add, pk_mul, nI_clamp, nI_leI, nI_ltI, nI_eq, inb_, iz1_, iz2_, iz3_, iz4_, iz5_, reduceIte, if_pos, if_neg, op_os, op_vIs, op_vLs, op_vRs, op_vNs, dI_at, dL_at, dI_2, dL_1, Nat.reduceEqDiff, Nat.reduceAdd, Nat.reduceMul, false_and, and_false, true_and, and_true, ne_eq, not_true_eq_false, not_false_eq_true, b2_z, b2_o, b2_n, b2_01, nar_b, nar_0, nar_1, Bool.false_eq_true, Bool.true_eq_false, hbF.2.1, hbF.2.2.1 p _ hp q4, hwF, y, e133_237, sf_372]
          · rw [hgp, decide_eq_false y]
            simp (disch := omega) only [nI_add, pk_mul, nI_clamp, nI_leI, nI_ltI, nI_eq, inb_, iz1_, iz2_, iz3_, iz4_, iz5_, reduceIte, if_pos, if_neg, op_os, op_vIs, op_vLs, op_vRs, op_vNs, dI_at, dL_at, dI_2, dL_1, Nat.reduceEqDiff, Nat.reduceAdd, Nat.reduceMul, false_and, and_false, true_and, and_true, ne_eq, not_true_eq_false, not_false_eq_true, b2_z, b2_o, b2_n, b2_01, nar_b, nar_0, nar_1, Bool.false_eq_true, Bool.true_eq_false, hbF.2.1, hbF.2.2.1 p _ hp q4, hwF, e133_237, sf_372]
        · simp (disch := omega) only [nI_add, pk_mul, nI_clamp, nI_leI, nI_ltI, nI_eq, inb_, iz1_, iz2_, iz3_, iz4_, iz5_, reduceIte, op_os, op_vIs, op_vLs, op_vRs, op_vNs, dI_at, dL_at, dI_2, dL_1, Nat.reduceEqDiff, Nat.reduceAdd, Nat.reduceMul, false_and, and_false, true_and, and_true, ne_eq, not_true_eq_false, not_false_eq_true, b2_z, b2_o, b2_n, b2_01, nar_b, nar_0, nar_1, Bool.false_eq_true, Bool.true_eq_false]
          by_cases y : q = p
          · rw [if_pos y, y]
          · rw [if_neg y]
            exact t1 q (by omega)) ⟨fun q hq => absurd hq (by omega), fx_r _ _ E0⟩
      have hs1 : hs_ M E1 P bl (t + 1) n rb rl := by
        obtain ⟨g1, g2, g3, g4, g5, g6, g7, g8, g9⟩ := h
        refine ⟨bg_fx hbE0 a3 id id (by omega) (by omega), fun p hp => ?_, ⟨?_, ?_, ?_⟩, fun i hi => ?_, fun v hv => ?_, g6, g7, g8, g9⟩
        · rw [a3.1 362 (by omega) (by omega)]; exact hwE0 p hp
        · rw [a3.2.1 22 id, ← hE0]; simp (disch := omega) only [nI_add, pk_mul, nI_clamp, nI_leI, nI_ltI, nI_eq, inb_, iz1_, iz2_, iz3_, iz4_, iz5_, reduceIte, if_pos, if_neg, op_os, op_vIs, op_vLs, op_vRs, op_vNs, dI_at, dL_at, dI_2, dL_1, Nat.reduceEqDiff, Nat.reduceAdd, Nat.reduceMul, false_and, and_false, true_and, and_true, ne_eq, not_true_eq_false, not_false_eq_true, b2_z, b2_o, b2_n, b2_01, nar_b, nar_0, nar_1, Bool.false_eq_true, Bool.true_eq_false]; exact g3.1
        · rw [a3.2.1 24 id, ← hE0]; simp (disch := omega) only [nI_add, pk_mul, nI_clamp, nI_leI, nI_ltI, nI_eq, inb_, iz1_, iz2_, iz3_, iz4_, iz5_, reduceIte, if_pos, if_neg, op_os, op_vIs, op_vLs, op_vRs, op_vNs, dI_at, dL_at, dI_2, dL_1, Nat.reduceEqDiff, Nat.reduceAdd, Nat.reduceMul, false_and, and_false, true_and, and_true, ne_eq, not_true_eq_false, not_false_eq_true, b2_z, b2_o, b2_n, b2_01, nar_b, nar_0, nar_1, Bool.false_eq_true, Bool.true_eq_false]; exact g3.2.1
        · rw [a3.2.1 25 id, ← hE0]; simp (disch := omega) only [nI_add, pk_mul, nI_clamp, nI_leI, nI_ltI, nI_eq, inb_, iz1_, iz2_, iz3_, iz4_, iz5_, reduceIte, if_pos, if_neg, op_os, op_vIs, op_vLs, op_vRs, op_vNs, dI_at, dL_at, dI_2, dL_1, Nat.reduceEqDiff, Nat.reduceAdd, Nat.reduceMul, false_and, and_false, true_and, and_true, ne_eq, not_true_eq_false, not_false_eq_true, b2_z, b2_o, b2_n, b2_01, nar_b, nar_0, nar_1, Bool.false_eq_true, Bool.true_eq_false]
        · rw [a3.1 370 (by omega) (by omega), a3.1 371 (by omega) (by omega), ← hE0]
          simp (disch := omega) only [nI_add, pk_mul, nI_clamp, nI_leI, nI_ltI, nI_eq, inb_, iz1_, iz2_, iz3_, iz4_, iz5_, reduceIte, if_pos, if_neg, op_os, op_vIs, op_vLs, op_vRs, op_vNs, dI_at, dL_at, dI_2, dL_1, Nat.reduceEqDiff, Nat.reduceAdd, Nat.reduceMul, false_and, and_false, true_and, and_true, ne_eq, not_true_eq_false, not_false_eq_true, b2_z, b2_o, b2_n, b2_01, nar_b, nar_0, nar_1, Bool.false_eq_true, Bool.true_eq_false]
          exact g4 i hi
        · rw [a3.1 369 (by omega) (by omega), ← hE0]
          simp (disch := omega) only [nI_add, pk_mul, nI_clamp, nI_leI, nI_ltI, nI_eq, inb_, iz1_, iz2_, iz3_, iz4_, iz5_, reduceIte, if_pos, if_neg, op_os, op_vIs, op_vLs, op_vRs, op_vNs, dI_at, dL_at, dI_2, dL_1, Nat.reduceEqDiff, Nat.reduceAdd, Nat.reduceMul, false_and, and_false, true_and, and_true, ne_eq, not_true_eq_false, not_false_eq_true, b2_z, b2_o, b2_n, b2_01, nar_b, nar_0, nar_1, Bool.false_eq_true, Bool.true_eq_false]
          exact g5 v hv
      obtain ⟨E2, b1, ⟨P', bl', n', rb', rl', b2, b3, b4, b5⟩, b6⟩ := lp_ (fun b (F : dy_) => k133_252 w (d + 3) (nI bl) (nI b) F) (fun b F => (∃ P' bl' n' rb' rl', hs_ M F P' bl' (t + 1) n' rb' rl' ∧ (∀ p, p < M.2.1 → F.1 372 p = b2_ (g p)) ∧ bl ≤ bl' ∧ hin_ M g P bl (t + 1) n rb rl b P' n' rb' rl') ∧ fx_ fsp_ fsq_ E F) bl (s := E1) (by
        rintro b F hb ⟨⟨P', bl', n', rb', rl', t1, t2, t3, t4⟩, t5⟩
        have hnn := t4.1
        obtain ⟨F', P'', bl'', n'', rb'', rl'', c1, c2, c3, c4, c5⟩ := x134 (w := w) (d := d) (b := b) hM hN t1 (by omega) t2 (by omega)
        have st : k133_252 w (d + 3) (nI bl) (nI b) F = k133_252 w (d + 3) (nI bl) (nI (b + 1)) F' := by
          rw [e133_252]
          simp (disch := omega) only [nI_add, pk_mul, nI_clamp, nI_leI, nI_ltI, nI_eq, inb_, iz1_, iz2_, iz3_, iz4_, iz5_, reduceIte, if_pos, if_neg, op_os, op_vIs, op_vLs, op_vRs, op_vNs, dI_at, dL_at, dI_2, dL_1, Nat.reduceEqDiff, Nat.reduceAdd, Nat.reduceMul, false_and, and_false, true_and, and_true, ne_eq, not_true_eq_false, not_false_eq_true, b2_z, b2_o, b2_n, b2_01, nar_b, nar_0, nar_1, Bool.false_eq_true, Bool.true_eq_false, c1]
        rcases c5 with ⟨r1, r2, r3, r4, r5, r6⟩ | ⟨r1, r2, ⟨x, r3, r4, r5⟩, r6, r7⟩
        · subst r1 r2 r3 r4 r5
          exact ⟨F', st, ⟨_, _, _, _, _, c2, c3, t3, hin_u hb t4 r6⟩, fx_t t5 c4⟩
        · refine ⟨F', st, ⟨P'', bl'', n'', rb'', rl'', c2, c3, by omega, hin_d hb t3 (by omega) t4 t1.2.2.2.2.2.1 r2 r5 r6 r7⟩, fx_t t5 c4⟩) ⟨⟨P, bl, n, rb, rl, hs1, a2, Nat.le_refl _, hin_0 M g P bl (t + 1) n rb rl⟩, fx_t f0 (fx_w a3 (fun b hb => by unfold fsp_; omega) (fun j hj => hj.elim))⟩
      have hh' := hop_s hM hh h.2.2.2.2.2.1 q4 (fun p hp => rfl) b5
      have hnn := b5.1
      obtain ⟨D', i1, i2⟩ := ih (t + 1) bl' n' E2 P' rb' rl' (by omega) b2 (by omega) hh'
      refine ⟨D', ?_, fx_t b6 i2⟩
      simp (disch := omega) only [nI_add, pk_mul, nI_clamp, nI_leI, nI_ltI, nI_eq, inb_, iz1_, iz2_, iz3_, iz4_, iz5_, reduceIte, if_pos, if_neg, op_os, op_vIs, op_vLs, op_vRs, op_vNs, dI_at, dL_at, dI_2, dL_1, Nat.reduceEqDiff, Nat.reduceAdd, Nat.reduceMul, false_and, and_false, true_and, and_true, ne_eq, not_true_eq_false, not_false_eq_true, b2_z, b2_o, b2_n, b2_01, nar_b, nar_0, nar_1, Bool.false_eq_true, Bool.true_eq_false, h.2.2.1.2.1, h.2.2.1.2.2, q1, q2]
      rw [hE0]
      refine Eq.trans (show _ = k133_200 w (d + 3) (nI (rb t)) (nI (rl t)) (nI (M.2.1)) E1 from a1) ?_
      rw [e133_200]
      simp (disch := omega) only [nI_add, pk_mul, nI_clamp, nI_leI, nI_ltI, nI_eq, inb_, iz1_, iz2_, iz3_, iz4_, iz5_, reduceIte, if_pos, if_neg, op_os, op_vIs, op_vLs, op_vRs, op_vNs, dI_at, dL_at, dI_2, dL_1, Nat.reduceEqDiff, Nat.reduceAdd, Nat.reduceMul, false_and, and_false, true_and, and_true, ne_eq, not_true_eq_false, not_false_eq_true, b2_z, b2_o, b2_n, b2_01, nar_b, nar_0, nar_1, Bool.false_eq_true, Bool.true_eq_false, hs1.1.2.1, hs1.2.2.1.1, Nat.le_refl]
      refine Eq.trans (show _ = k133_252 w (d + 3) (nI bl) (nI bl) E2 from b1) ?_
      rw [e133_252]
      simp (disch := omega) only [nI_add, pk_mul, nI_clamp, nI_leI, nI_ltI, nI_eq, inb_, iz1_, iz2_, iz3_, iz4_, iz5_, reduceIte, if_pos, if_neg, op_os, op_vIs, op_vLs, op_vRs, op_vNs, dI_at, dL_at, dI_2, dL_1, Nat.reduceEqDiff, Nat.reduceAdd, Nat.reduceMul, false_and, and_false, true_and, and_true, ne_eq, not_true_eq_false, not_false_eq_true, b2_z, b2_o, b2_n, b2_01, nar_b, nar_0, nar_1, Bool.false_eq_true, Bool.true_eq_false, Nat.le_refl]
      exact i1
end SPL
