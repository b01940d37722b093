/-! THE SIMPLEST machines, made smallest -/
theorem lf_len {M : ma_} (hM : wm_ M) (hn : M.2.1 ≤ 60) : (kq_ (M.2.2.2.1) (M.1) (M.2.2.1) n36_).length ≤ n36_ := by
  have := nx_len hM n36_
  have := n36_e
  omega
/-- nothing is accepted -/
theorem qzo_ {N : ma_} (wN : wm_ N) (hz : ∀ i, i < N.2.1 → N.2.2.2.2 i = false) : em_ (qm_ N) (zo_ (N.1)) := by
  have all : ∀ r p q, p < N.2.1 → q < N.2.1 → mrr_ N r p q := by
    intro r
    induction r with
    | zero => exact fun p q hp hq => (hz p hp).trans (hz q hq).symm
    | succ r ih => exact fun p q hp hq => ⟨ih p q hp hq, fun l hl => ih _ _ (wN.2.2.2 p l hp hl) (wN.2.2.2 q l hq hl)⟩
  have c : cnu_ (N.2.1) (mnd_ N) (fun _ => 0) 1 := ⟨fun p q hp hq => ⟨fun _ r => all r p q hp hq, fun _ => rfl⟩, fun p hp v hv => absurd hv (Nat.not_lt_zero v), fun _ _ => Nat.zero_lt_one, fun v hv => ⟨0, wN.2.1, show 0 = v by omega⟩⟩
  have u := cn_u (nf_1 N) c
  refine ⟨rfl, u.2, rfl, fun e l he hl => ?_, fun e he => ?_⟩
  · exact u.1 _ (wN.2.2.2 _ l (rp_1 he).1 hl)
  · exact hz _ (rp_1 he).1
/-- the start alone accepts, and nothing leads to it -/
theorem qep_ {N : ma_} (wN : wm_ N) (hz : ∀ i, i < N.2.1 → N.2.2.2.2 i = decide (i = 0)) (hx : ∀ i l, i < N.2.1 → l < N.1 → N.2.2.2.1 i l ≠ 0) : em_ (qm_ N) (ep_ (N.1)) := by
  have h0 : 0 < N.2.1 := wN.2.1
  have h1 : N.2.2.2.1 0 0 < N.2.1 := wN.2.2.2 0 0 h0 wN.1.1
  have h2 := hx 0 0 h0 wN.1.1
  have all : ∀ r p q, p < N.2.1 → q < N.2.1 → p ≠ 0 → q ≠ 0 → mrr_ N r p q := by
    intro r
    induction r with
    | zero =>
      intro p q hp hq a b
      show N.2.2.2.2 p = N.2.2.2.2 q
      rw [hz p hp, hz q hq, decide_eq_false a, decide_eq_false b]
    | succ r ih => exact fun p q hp hq a b => ⟨ih p q hp hq a b, fun l hl => ih _ _ (wN.2.2.2 p l hp hl) (wN.2.2.2 q l hq hl) (hx p l hp hl) (hx q l hq hl)⟩
  have no : ∀ p q, p < N.2.1 → q < N.2.1 → p = 0 → q ≠ 0 → ¬ mnd_ N p q := by
    intro p q hp hq a b z
    have := mi_ac z
    rw [hz p hp, hz q hq, decide_eq_true a, decide_eq_false b] at this
    cases this
  have c : cnu_ (N.2.1) (mnd_ N) (fun p => if p = 0 then 0 else 1) 2 := by
    refine ⟨fun p q hp hq => ?_, fun p hp v hv => ?_, fun p hp => ?_, fun v hv => ?_⟩
    · show (if p = 0 then 0 else 1) = (if q = 0 then 0 else 1) ↔ _
      by_cases a : p = 0
      · by_cases b : q = 0
        · rw [if_pos a, if_pos b, a, b]
          exact ⟨fun _ => (mi_qv N).1 0, fun _ => rfl⟩
        · rw [if_pos a, if_neg b]
          exact ⟨fun z => absurd z (by omega), fun z => absurd z (no p q hp hq a b)⟩
      · by_cases b : q = 0
        · rw [if_neg a, if_pos b]
          exact ⟨fun z => absurd z (by omega), fun z => absurd ((mi_qv N).2.1 _ _ z) (no q p hq hp b a)⟩
        · rw [if_neg a, if_neg b]
          exact ⟨fun _ r => all r p q hp hq a b, fun _ => rfl⟩
    · have hv' : v < (if p = 0 then 0 else 1) := hv
      by_cases a : p = 0
      · rw [if_pos a] at hv'
        omega
      · rw [if_neg a] at hv'
        exact ⟨0, by omega, by show (if (0:Nat) = 0 then 0 else 1) = v; rw [if_pos rfl]; omega⟩
    · show (if p = 0 then 0 else 1) < 2
      by_cases a : p = 0
      · rw [if_pos a]
        omega
      · rw [if_neg a]
        omega
    · rcases (show v = 0 ∨ v = 1 by omega) with rfl | rfl
      · exact ⟨0, h0, if_pos rfl⟩
      · exact ⟨_, h1, if_neg h2⟩
  have u := cn_u (nf_1 N) c
  refine ⟨rfl, u.2, rfl, fun e l he hl => ?_, fun e he => ?_⟩
  · have q := rp_1 he
    have := u.1 _ (wN.2.2.2 _ l q.1 hl)
    exact this.trans (if_neg (hx _ l q.1 hl))
  · have q := rp_1 he
    show N.2.2.2.2 (rp_ N e) = decide (e = 0)
    rw [hz _ q.1]
    have h3 := u.1 _ q.1
    rw [q.2.1] at h3
    have h4 : e = if rp_ N e = 0 then 0 else 1 := h3
    by_cases a : rp_ N e = 0
    · rw [if_pos a] at h4
      rw [decide_eq_true a, decide_eq_true h4]
    · rw [if_neg a] at h4
      rw [decide_eq_false a, decide_eq_false (by omega)]
theorem m3_w {k : Nat} {f : Nat → Nat → Nat} {g : Nat → Bool} (hk : 1 ≤ k ∧ k ≤ 4) (hf : ∀ p l, f p l < 3) : wm_ ((k, 3, 0, f, g) : ma_) := ⟨hk, show 1 ≤ 3 by omega, show 0 < 3 by omega, fun p l _ _ => hf p l⟩
/-- the class's nothing -/
theorem zl1_ {k : Nat} (hk : 1 ≤ k ∧ k ≤ 4) : em_ (qm_ (lfm_ (k, 3, 0, fun _ _ => 2, fun p => decide (p = 1)))) (zo_ k) := by
  have w3 : wm_ ((k, 3, 0, fun _ _ => 2, fun p => decide (p = 1)) : ma_) := m3_w hk (fun _ _ => by omega)
  have wl := lfm_wm w3 (show 3 ≤ 60 by omega)
  refine qzo_ wl.1 fun i hi => ?_
  have := kf_dom (fun _ _ => 2) k 0 (N := n36_) (P := fun x => x ≠ 1) (by omega) (fun _ _ _ _ => by omega) hi
  exact decide_eq_false this
/-- the reference's nothing -/
theorem zl2_ {k : Nat} (hk : 1 ≤ k ∧ k ≤ 4) : em_ (qm_ (lfm_ (k, 3, 0, fun p _ => if p = 0 then 1 else 2, fun _ => false))) (zo_ k) := by
  have w3 : wm_ ((k, 3, 0, fun p _ => if p = 0 then 1 else 2, fun _ => false) : ma_) := m3_w hk (fun p _ => by
    by_cases a : p = 0
    · rw [if_pos a]
      omega
    · rw [if_neg a]
      omega)
  exact qzo_ (lfm_wm w3 (show 3 ≤ 60 by omega)).1 fun i hi => rfl
/-- the reference's word without letters -/
theorem el1_ {k : Nat} (hk : 1 ≤ k ∧ k ≤ 4) : em_ (qm_ (lfm_ (k, 3, 0, fun _ _ => 2, fun p => decide (p = 0)))) (ep_ k) := by
  have w3 : wm_ ((k, 3, 0, fun _ _ => 2, fun p => decide (p = 0)) : ma_) := m3_w hk (fun _ _ => by omega)
  have wl := lfm_wm w3 (show 3 ≤ 60 by omega)
  have hl := lf_len w3 (show 3 ≤ 60 by omega)
  have hn0 : 0 < (lfm_ (k, 3, 0, fun _ _ => 2, fun p => decide (p = 0))).2.1 := wl.1.2.1
  have f0 : kf_ (fun _ _ => 2) k 0 n36_ 0 = 0 := kf_0 _ _ _
  refine qep_ wl.1 (fun i hi => ?_) (fun i l hi hk' z => ?_)
  · show decide (kf_ (fun _ _ => 2) k 0 n36_ i = 0) = decide (i = 0)
    by_cases a : i = 0
    · rw [a, f0]
    · rw [decide_eq_false a]
      exact decide_eq_false fun z => a (kf_inj (fun _ _ => 2) k 0 hi hn0 (z.trans f0.symm))
  · have h1 := kf_kt (fun _ _ => 2) k 0 hl hi hk'
    have h2 : kt_ (fun _ _ => 2) k 0 n36_ i l = 0 := z
    rw [h2, f0] at h1
    omega
