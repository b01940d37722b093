/-! THE SIMPLEST machines, made smallest -/
theorem lf_len {M : ma_} (hM : wm_ M) (hn : M.2.1 ≤ 60) : (kq_ (M.2.2.2.1) (M.1) (M.2.2.1) n36_).length ≤ n36_ := by
  have := nx_len hM n36_
  have := n36_e
  omega
/-- nothing is accepted -/
theorem qzo_ {N : ma_} (wN : wm_ N) (hz : ∀ i, i < N.2.1 → N.2.2.2.2 i = false) : em_ (qm_ N) (zo_ (N.1)) := by
  have all : ∀ r p q, p < N.2.1 → q < N.2.1 → mrr_ N r p q := by
    intro r
    induction r with
    | zero => exact fun p q hp hq => (hz p hp).trans (hz q hq).symm
    | succ r ih => exact fun p q hp hq => ⟨ih p q hp hq, fun l hl => ih _ _ (wN.2.2.2 p l hp hl) (wN.2.2.2 q l hq hl)⟩
  have c : cnu_ (N.2.1) (mnd_ N) (fun _ => 0) 1 := ⟨fun p q hp hq => ⟨fun _ r => all r p q hp hq, fun _ => rfl⟩, fun p hp v hv => absurd hv (Nat.not_lt_zero v), fun _ _ => Nat.zero_lt_one, fun v hv => ⟨0, wN.2.1, show 0 = v by omega⟩⟩
  have u := cn_u (nf_1 N) c
  refine ⟨rfl, u.2, rfl, fun e l he hl => ?_, fun e he => ?_⟩
  · exact u.1 _ (wN.2.2.2 _ l (rp_1 he).1 hl)
  · exact hz _ (rp_1 he).1
/-- the start alone accepts, and nothing leads to it -/
theorem qep_ {N : ma_} (wN : wm_ N) (hz : ∀ i, i < N.2.1 → N.2.2.2.2 i = decide (i = 0)) (hx : ∀ i l, i < N.2.1 → l < N.1 → N.2.2.2.1 i l ≠ 0) : em_ (qm_ N) (ep_ (N.1)) := by
  have h0 : 0 < N.2.1 := wN.2.1
  have h1 : N.2.2.2.1 0 0 < N.2.1 := wN.2.2.2 0 0 h0 wN.1.1
  have h2 := hx 0 0 h0 wN.1.1
  have all : ∀ r p q, p < N.2.1 → q < N.2.1 → p ≠ 0 → q ≠ 0 → mrr_ N r p q := by
    intro r
    induction r with
    | zero =>
      intro p q hp hq a b
      show N.2.2.2.2 p = N.2.2.2.2 q
      rw [hz p hp, hz q hq, decide_eq_false a, decide_eq_false b]
    | succ r ih => exact fun p q hp hq a b => ⟨ih p q hp hq a b, fun l hl => ih _ _ (wN.2.2.2 p l hp hl) (wN.2.2.2 q l hq hl) (hx p l hp hl) (hx q l hq hl)⟩
  have no : ∀ p q, p < N.2.1 → q < N.2.1 → p = 0 → q ≠ 0 → ¬ mnd_ N p q := by
    intro p q hp hq a b z
    have := mi_ac z
    rw [hz p hp, hz q hq, decide_eq_true a, decide_eq_false b] at this
    cases this
  have c : cnu_ (N.2.1) (mnd_ N) (fun p => if p = 0 then 0 else 1) 2 := by
    refine ⟨fun p q hp hq => ?_, fun p hp v hv => ?_, fun p hp => ?_, fun v hv => ?_⟩
    · show (if p = 0 then 0 else 1) = (if q = 0 then 0 else 1) ↔ _
      by_cases a : p = 0
      · by_cases b : q = 0
        · rw [if_pos a, if_pos b, a, b]
          exact ⟨fun _ => (mi_qv N).1 0, fun _ => rfl⟩
        · rw [if_pos a, if_neg b]
          exact ⟨fun z => absurd z (by omega), fun z => absurd z (no p q hp hq a b)⟩
      · by_cases b : q = 0
        · rw [if_neg a, if_pos b]
          exact ⟨fun z => absurd z (by omega), fun z => absurd ((mi_qv N).2.1 _ _ z) (no q p hq hp b a)⟩
        · rw [if_neg a, if_neg b]
          exact ⟨fun _ r => all r p q hp hq a b, fun _ => rfl⟩
    · have hv' : v < (if p = 0 then 0 else 1) := hv
      by_cases a : p = 0
      · rw [if_pos a] at hv'
        omega
      · rw [if_neg a] at hv'
        exact ⟨0, by omega, by show (if (0:Nat) = 0 then 0 else 1) = v; rw [if_pos rfl]; omega⟩
    · show (if p = 0 then 0 else 1) < 2
      by_cases a : p = 0
      · rw [if_pos a]
        omega
      · rw [if_neg a]
        omega
    · rcases (show v = 0 ∨ v = 1 by omega) with rfl | rfl
      · exact ⟨0, h0, if_pos rfl⟩
      · exact ⟨_, h1, if_neg h2⟩
  have u := cn_u (nf_1 N) c
  refine ⟨rfl, u.2, rfl, fun e l he hl => ?_, fun e he => ?_⟩
  · have q := rp_1 he
    have := u.1 _ (wN.2.2.2 _ l q.1 hl)
    exact this.trans (if_neg (hx _ l q.1 hl))
  · have q := rp_1 he
    show N.2.2.2.2 (rp_ N e) = decide (e = 0)
    rw [hz _ q.1]
    have h3 := u.1 _ q.1
    rw [q.2.1] at h3
    have h4 : e = if rp_ N e = 0 then 0 else 1 := h3
    by_cases a : rp_ N e = 0
    · rw [if_pos a] at h4
      rw [decide_eq_true a, decide_eq_true h4]
    · rw [if_neg a] at h4
      rw [decide_eq_false a, decide_eq_false (by omega)]
theorem m3_w {k : Nat} {f : Nat → Nat → Nat} {g : Nat → Bool} (hk : 1 ≤ k ∧ k ≤ 4) (hf : ∀ p l, f p l < 3) : wm_ ((k, 3, 0, f, g) : ma_) := ⟨hk, show 1 ≤ 3 by omega, show 0 < 3 by omega, fun p l _ _ => hf p l⟩
/-- the reference's nothing -/
theorem zl2_ {k : Nat} (hk : 1 ≤ k ∧ k ≤ 4) : em_ (qm_ (lfm_ (k, 3, 0, fun p _ => if p = 0 then 1 else 2, fun _ => false))) (zo_ k) := by
  have w3 : wm_ ((k, 3, 0, fun p _ => if p = 0 then 1 else 2, fun _ => false) : ma_) := m3_w hk (fun p _ => by
    by_cases a : p = 0
    · rw [if_pos a]
      omega
    · rw [if_neg a]
      omega)
  exact qzo_ (lfm_wm w3 (show 3 ≤ 60 by omega)).1 fun i hi => rfl
/-- the reference's word without letters -/
theorem el1_ {k : Nat} (hk : 1 ≤ k ∧ k ≤ 4) : em_ (qm_ (lfm_ (k, 3, 0, fun _ _ => 2, fun p => decide (p = 0)))) (ep_ k) := by
  have w3 : wm_ ((k, 3, 0, fun _ _ => 2, fun p => decide (p = 0)) : ma_) := m3_w hk (fun _ _ => by omega)
  have wl := lfm_wm w3 (show 3 ≤ 60 by omega)
  have hl := lf_len w3 (show 3 ≤ 60 by omega)
  have hn0 : 0 < (lfm_ (k, 3, 0, fun _ _ => 2, fun p => decide (p = 0))).2.1 := wl.1.2.1
  have f0 : kf_ (fun _ _ => 2) k 0 n36_ 0 = 0 := kf_0 _ _ _
  refine qep_ wl.1 (fun i hi => ?_) (fun i l hi hk' z => ?_)
  · show decide (kf_ (fun _ _ => 2) k 0 n36_ i = 0) = decide (i = 0)
    by_cases a : i = 0
    · rw [a, f0]
    · rw [decide_eq_false a]
      exact decide_eq_false fun z => a (kf_inj (fun _ _ => 2) k 0 hi hn0 (z.trans f0.symm))
  · have h1 := kf_kt (fun _ _ => 2) k 0 hl hi hk'
    have h2 : kt_ (fun _ _ => 2) k 0 n36_ i l = 0 := z
    rw [h2, f0] at h1
    omega
/-- a letter, or any, as the class lays it: the smallest machine, in order -/
def tkn_ (c : Nat) : Nat := if c = 46 ∨ c = 97 then 1 else 2
def n3l_ (k c : Nat) : ma_ := (k, 3, 0, fun p l => if p = 0 ∧ (c = 46 ∨ c = 97 + l) then tkn_ c else 3 - tkn_ c, fun p => decide (p = tkn_ c))
theorem tkn_1 (c : Nat) : tkn_ c = 1 ∨ tkn_ c = 2 := by
  unfold tkn_
  by_cases z : c = 46 ∨ c = 97
  · exact Or.inl (if_pos z)
  · exact Or.inr (if_neg z)
def l3c_ (k c : Nat) : Bool := Nat.beq (kq_ (l3_ k c).2.2.2.1 k 0 3).length 3 && (List.range 3).all fun p => ((List.range k).all fun l => Nat.beq ((kq_ (l3_ k c).2.2.2.1 k 0 3).idxOf ((l3_ k c).2.2.2.1 (((kq_ (l3_ k c).2.2.2.1 k 0 3)[p]?).getD 0) l)) ((n3l_ k c).2.2.2.1 p l)) && ((l3_ k c).2.2.2.2 (((kq_ (l3_ k c).2.2.2.1 k 0 3)[p]?).getD 0) == (n3l_ k c).2.2.2.2 p)
theorem l3a_46 : (List.range 5).all (fun k => Nat.beq k 0 || l3c_ k 46) = true := by
  decide +kernel
theorem l3a_97 : (List.range 5).all (fun k => (List.range k).all fun l => l3c_ k (97 + l)) = true := by
  decide +kernel
theorem l3_dec {k c : Nat} (hk : 1 ≤ k ∧ k ≤ 4) (hc : c = 46 ∨ (97 ≤ c ∧ c < 97 + k)) : (kq_ (l3_ k c).2.2.2.1 k 0 3).length = 3 ∧ ∀ p, p < 3 → (∀ l, l < k → (kq_ (l3_ k c).2.2.2.1 k 0 3).idxOf ((l3_ k c).2.2.2.1 (((kq_ (l3_ k c).2.2.2.1 k 0 3)[p]?).getD 0) l) = (n3l_ k c).2.2.2.1 p l) ∧ (l3_ k c).2.2.2.2 (((kq_ (l3_ k c).2.2.2.1 k 0 3)[p]?).getD 0) = (n3l_ k c).2.2.2.2 p := by
  have h : l3c_ k c = true := by
    rcases hc with z | z
    · have h1 := List.all_eq_true.mp l3a_46 k (List.mem_range.mpr (by omega))
      rw [z]
      rcases Bool.or_eq_true_iff.mp h1 with y | y
      · exact absurd (Nat.eq_of_beq_eq_true y) (by omega)
      · exact y
    · have h1 := List.all_eq_true.mp (List.all_eq_true.mp l3a_97 k (List.mem_range.mpr (by omega))) (c - 97) (List.mem_range.mpr (by omega))
      rw [show c = 97 + (c - 97) by omega]
      exact h1
  unfold l3c_ at h
  obtain ⟨h1, h2⟩ := Bool.and_eq_true_iff.mp h
  refine ⟨Nat.eq_of_beq_eq_true h1, fun p hp => ?_⟩
  obtain ⟨h3, h4⟩ := Bool.and_eq_true_iff.mp (List.all_eq_true.mp h2 p (List.mem_range.mpr hp))
  exact ⟨fun l hl => Nat.eq_of_beq_eq_true (List.all_eq_true.mp h3 l (List.mem_range.mpr hl)), eq_of_beq h4⟩
theorem lf3_ {k c : Nat} (hk : 1 ≤ k ∧ k ≤ 4) (hc : c = 46 ∨ (97 ≤ c ∧ c < 97 + k)) : em_ (lfm_ (l3_ k c)) (n3l_ k c) := by
  obtain ⟨h1, h2⟩ := l3_dec hk hc
  have hq : kq_ (l3_ k c).2.2.2.1 k 0 n36_ = kq_ (l3_ k c).2.2.2.1 k 0 3 := kq_st _ _ _ (by have := n36_e; omega) (by omega)
  have hn : (lfm_ (l3_ k c)).2.1 = 3 := by
    show (kq_ (l3_ k c).2.2.2.1 k 0 n36_).length = 3
    rw [hq]
    exact h1
  refine ⟨rfl, hn, rfl, fun p l hp hl => ?_, fun p hp => ?_⟩
  · rw [hn] at hp
    have h3 := (h2 p hp).1 l hl
    show (kq_ (l3_ k c).2.2.2.1 k 0 n36_).idxOf ((l3_ k c).2.2.2.1 (((kq_ (l3_ k c).2.2.2.1 k 0 n36_)[p]?).getD 0) l) = _
    rw [hq]
    exact h3
  · rw [hn] at hp
    have h3 := (h2 p hp).2
    show (l3_ k c).2.2.2.2 (((kq_ (l3_ k c).2.2.2.1 k 0 n36_)[p]?).getD 0) = _
    rw [hq]
    exact h3
theorem qn3_ {k c : Nat} {L : ma_} (hk : 1 ≤ k ∧ k ≤ 4) (hc : c = 46 ∨ (97 ≤ c ∧ c < 97 + k)) (hL : em_ L (n3l_ k c)) : em_ (qm_ L) (n3l_ k c) := by
  obtain ⟨k1, n1, s1, x1, a1⟩ := hL
  have k1' : L.1 = k := k1
  have n1' : L.2.1 = 3 := n1
  have x1' : ∀ p l, p < 3 → l < k → L.2.2.2.1 p l = if p = 0 ∧ (c = 46 ∨ c = 97 + l) then tkn_ c else 3 - tkn_ c := fun p l hp hl => x1 p l (by rw [n1']; exact hp) (by rw [k1']; exact hl)
  have a1' : ∀ p, p < 3 → L.2.2.2.2 p = decide (p = tkn_ c) := fun p hp => a1 p (by rw [n1']; exact hp)
  have tk := tkn_1 c
  have one : ∀ p, p < 3 → p ≠ tkn_ c → ¬ mnd_ L (tkn_ c) p := by
    intro p hp e z
    have := mi_ac z
    rw [a1' _ (by omega), a1' p hp, decide_eq_true rfl, decide_eq_false e] at this
    cases this
  have two : ∀ p, p < 3 → p ≠ tkn_ c → p ≠ 0 → ¬ mnd_ L 0 p := by
    intro p hp e e0 z
    have key : ∀ l, l < k → (c = 46 ∨ c = 97 + l) → False := by
      intro l hl y
      have z2 := mi_nx z (l := l) (by rw [k1']; exact hl)
      rw [x1' 0 l (by omega) hl, x1' p l hp hl, if_pos ⟨rfl, y⟩, if_neg (fun q => e0 q.1)] at z2
      exact one (3 - tkn_ c) (by omega) (by omega) z2
    rcases hc with y | y
    · exact key 0 (by omega) (Or.inl y)
    · exact key (c - 97) (by omega) (Or.inr (by omega))
  have no : ∀ p q, p < 3 → q < 3 → mnd_ L p q → p = q := by
    intro p q hp hq z
    by_cases e1 : p = tkn_ c
    · refine Classical.byContradiction fun e => one q hq (fun y => e (e1.trans y.symm)) ?_
      rw [← e1]
      exact z
    · by_cases e2 : q = tkn_ c
      · refine absurd ((mi_qv L).2.1 _ _ z) ?_
        rw [e2]
        exact one p hp e1
      · by_cases e3 : p = 0
        · by_cases e4 : q = 0
          · omega
          · rw [e3] at z
            exact absurd z (two q hq e2 e4)
        · by_cases e4 : q = 0
          · rw [e4] at z
            exact absurd ((mi_qv L).2.1 _ _ z) (two p hp e1 e3)
          · omega
  have cc : cnu_ 3 (mnd_ L) (fun p => p) 3 := ⟨fun p q hp hq => ⟨fun e => by rw [show p = q from e]; exact (mi_qv L).1 q, fun z => no p q hp hq z⟩, fun p hp v hv => ⟨v, hv, rfl⟩, fun p hp => hp, fun v hv => ⟨v, hv, rfl⟩⟩
  have f := nf_1 L
  rw [n1'] at f
  obtain ⟨u1, u2⟩ := cn_u f cc
  have rpe : ∀ e, e < 3 → rp_ L e = e := by
    intro e he
    obtain ⟨q1, q2, q3⟩ := rp_1 (M := L) (e := e) (by rw [u2]; exact he)
    rw [n1'] at q1
    exact (u1 _ q1).symm.trans q2
  refine ⟨k1', u2, rfl, fun e l he hl => ?_, fun e he => ?_⟩
  · have he' : e < nn_ L := he
    have hl' : l < L.1 := hl
    rw [u2] at he'
    rw [k1'] at hl'
    show nfs_ L (L.2.2.2.1 (rp_ L e) l) = if e = 0 ∧ (c = 46 ∨ c = 97 + l) then tkn_ c else 3 - tkn_ c
    rw [rpe e he', x1' e l he' hl']
    refine u1 _ ?_
    by_cases z : e = 0 ∧ (c = 46 ∨ c = 97 + l)
    · rw [if_pos z]
      omega
    · rw [if_neg z]
      omega
  · have he' : e < nn_ L := he
    rw [u2] at he'
    show L.2.2.2.2 (rp_ L e) = decide (e = tkn_ c)
    rw [rpe e he']
    exact a1' e he'
theorem lvn_ {k c : Nat} (hk : 1 ≤ k ∧ k ≤ 4) (hc : c = 46 ∨ (97 ≤ c ∧ c < 97 + k)) : em_ (n3l_ k c) (lv_ k c) := by
  unfold lv_
  rw [if_neg (by omega)]
  exact em_s (qn3_ hk hc (lf3_ hk hc))
