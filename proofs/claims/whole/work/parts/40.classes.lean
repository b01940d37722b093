/-! canonical numbers of classes: by the least member -/
def cnu_ (n : Nat) (E : Nat → Nat → Prop) (c : Nat → Nat) (m : Nat) : Prop := (∀ p q, p < n → q < n → (c p = c q ↔ E p q)) ∧ (∀ p, p < n → ∀ v, v < c p → ∃ q, q < p ∧ c q = v) ∧ (∀ p, p < n → c p < m) ∧ ∀ v, v < m → ∃ p, p < n ∧ c p = v
def qv1_ (E : Nat → Nat → Prop) : Prop := (∀ p, E p p) ∧ (∀ p q, E p q → E q p) ∧ ∀ p q r, E p q → E q r → E p r
theorem cn_u {n : Nat} {E : Nat → Nat → Prop} {c c' : Nat → Nat} {m m' : Nat} (h : cnu_ n E c m) (h' : cnu_ n E c' m') : (∀ p, p < n → c p = c' p) ∧ m = m' := by
  have key : ∀ p, (∀ q, q < p → q < n → c q = c' q) → p < n → c p = c' p := by
    intro p ih hp
    rcases Nat.lt_trichotomy (c p) (c' p) with q | q | q
    · obtain ⟨x, hx, e⟩ := h'.2.1 p hp _ q
      rw [← ih x hx (by omega)] at e
      have := (h'.1 x p (by omega) hp).mpr ((h.1 x p (by omega) hp).mp e)
      rw [← ih x hx (by omega)] at this
      omega
    · exact q
    · obtain ⟨x, hx, e⟩ := h.2.1 p hp _ q
      rw [ih x hx (by omega)] at e
      have := (h.1 x p (by omega) hp).mpr ((h'.1 x p (by omega) hp).mp e)
      rw [ih x hx (by omega)] at this
      omega
  have all : ∀ p, p < n → c p = c' p := by
    intro p
    induction p using Nat.strongRecOn with
    | _ p ih => exact key p (fun q h1 h2 => ih q h1 h2)
  refine ⟨all, ?_⟩
  rcases Nat.lt_trichotomy m m' with q | q | q
  · obtain ⟨p, hp, e⟩ := h'.2.2.2 m q
    have := h.2.2.1 p hp
    have := all p hp
    omega
  · exact q
  · obtain ⟨p, hp, e⟩ := h.2.2.2 m' q
    have := h'.2.2.1 p hp
    have := all p hp
    omega
theorem cn_c {n : Nat} {E E' : Nat → Nat → Prop} {c c' : Nat → Nat} {m : Nat} (h : cnu_ n E c m) (he : ∀ p q, p < n → q < n → (E p q ↔ E' p q)) (hc : ∀ p, p < n → c' p = c p) : cnu_ n E' c' m := by
  refine ⟨fun p q hp hq => ?_, fun p hp v hv => ?_, fun p hp => ?_, fun v hv => ?_⟩
  · rw [hc p hp, hc q hq, h.1 p q hp hq, he p q hp hq]
  · rw [hc p hp] at hv
    obtain ⟨q, hq, e⟩ := h.2.1 p hp v hv
    exact ⟨q, hq, by rw [hc q (by omega), e]⟩
  · rw [hc p hp]; exact h.2.2.1 p hp
  · obtain ⟨p, hp, e⟩ := h.2.2.2 v hv
    exact ⟨p, hp, by rw [hc p hp, e]⟩
theorem cn_0 (E : Nat → Nat → Prop) (c : Nat → Nat) : cnu_ 0 E c 0 := ⟨fun _ _ h => absurd h (by omega), fun _ h => absurd h (by omega), fun _ h => absurd h (by omega), fun _ h => absurd h (by omega)⟩
/-- one more, which is like an earlier one -/
theorem cn_o {n : Nat} {E : Nat → Nat → Prop} {c c' : Nat → Nat} {m q : Nat} (hE : qv1_ E) (h : cnu_ n E c m) (hc : ∀ p, p < n → c' p = c p) (hq : q < n) (e : E q n) (hn : c' n = c q) : cnu_ (n + 1) E c' m := by
  have h0 := cn_c h (fun _ _ _ _ => Iff.rfl) hc
  rw [← hc q hq] at hn
  have a1 : ∀ p, p < n → (c' p = c' n ↔ E p n) := by
    intro p hp
    rw [hn, h0.1 p q hp hq]
    exact ⟨fun z => hE.2.2 _ _ _ z e, fun z => hE.2.2 _ _ _ z (hE.2.1 _ _ e)⟩
  refine ⟨fun a b ha hb => ?_, fun p hp v hv => ?_, fun p hp => ?_, fun v hv => ?_⟩
  · by_cases z1 : a = n
    · by_cases z2 : b = n
      · rw [z1, z2]; exact ⟨fun _ => hE.1 n, fun _ => rfl⟩
      · rw [z1]
        constructor
        · exact fun y => hE.2.1 _ _ ((a1 b (by omega)).mp y.symm)
        · exact fun y => ((a1 b (by omega)).mpr (hE.2.1 _ _ y)).symm
    · by_cases z2 : b = n
      · rw [z2]; exact a1 a (by omega)
      · exact h0.1 a b (by omega) (by omega)
  · by_cases z : p = n
    · rw [z, hn] at hv
      obtain ⟨x, hx, ex⟩ := h0.2.1 q hq v hv
      exact ⟨x, by omega, ex⟩
    · exact h0.2.1 p (by omega) v hv
  · by_cases z : p = n
    · rw [z, hn]; exact h0.2.2.1 q hq
    · exact h0.2.2.1 p (by omega)
  · obtain ⟨p, hp, ep⟩ := h0.2.2.2 v hv
    exact ⟨p, by omega, ep⟩
/-- one more, like none before -/
theorem cn_n {n : Nat} {E : Nat → Nat → Prop} {c c' : Nat → Nat} {m : Nat} (hE : qv1_ E) (h : cnu_ n E c m) (hc : ∀ p, p < n → c' p = c p) (e : ∀ q, q < n → ¬ E q n) (hn : c' n = m) : cnu_ (n + 1) E c' (m + 1) := by
  have h0 := cn_c h (fun _ _ _ _ => Iff.rfl) hc
  have a1 : ∀ p, p < n → c' p ≠ c' n := by
    intro p hp
    have := h0.2.2.1 p hp
    omega
  refine ⟨fun a b ha hb => ?_, fun p hp v hv => ?_, fun p hp => ?_, fun v hv => ?_⟩
  · by_cases z1 : a = n
    · by_cases z2 : b = n
      · rw [z1, z2]; exact ⟨fun _ => hE.1 n, fun _ => rfl⟩
      · rw [z1]
        exact ⟨fun y => absurd y.symm (a1 b (by omega)), fun y => absurd (hE.2.1 _ _ y) (e b (by omega))⟩
    · by_cases z2 : b = n
      · rw [z2]
        exact ⟨fun y => absurd y (a1 a (by omega)), fun y => absurd y (e a (by omega))⟩
      · exact h0.1 a b (by omega) (by omega)
  · by_cases z : p = n
    · rw [z, hn] at hv
      obtain ⟨x, hx, ex⟩ := h0.2.2.2 v hv
      exact ⟨x, by omega, ex⟩
    · exact h0.2.1 p (by omega) v hv
  · by_cases z : p = n
    · rw [z, hn]; exact Nat.lt_succ_self m
    · have := h0.2.2.1 p (by omega)
      omega
  · by_cases z : v = m
    · exact ⟨n, by omega, by rw [hn, z]⟩
    · obtain ⟨p, hp, ep⟩ := h0.2.2.2 v (by omega)
      exact ⟨p, by omega, ep⟩
theorem cn_ex {E : Nat → Nat → Prop} (hE : qv1_ E) : ∀ n, ∃ c m, cnu_ n E c m
  | 0 => ⟨fun _ => 0, 0, cn_0 E _⟩
  | n + 1 => by
    obtain ⟨c, m, h⟩ := cn_ex hE n
    by_cases z : ∃ q, q < n ∧ E q n
    · obtain ⟨q, hq, e⟩ := z
      exact ⟨fun p => if p = n then c q else c p, m, cn_o hE h (fun p hp => if_neg (by omega)) hq e (if_pos rfl)⟩
    · exact ⟨fun p => if p = n then m else c p, m + 1, cn_n hE h (fun p hp => if_neg (by omega)) (fun q hq e => z ⟨q, hq, e⟩) (if_pos rfl)⟩
/-- a finer sort has no fewer classes -/
theorem cn_le {n n' : Nat} {E E' : Nat → Nat → Prop} {c c' : Nat → Nat} {m m' : Nat} (hn : n ≤ n') (h : cnu_ n E c m) (h' : cnu_ n' E' c' m') (hr : ∀ p q, p < n → q < n → E' p q → E p q) : m ≤ m' := by
  have h2 := fun v (hv : v < m) => h.2.2.2 v hv
  let f : Nat → Nat := fun v => if hv : v < m then c' (Classical.choose (h2 v hv)) else 0
  have hf : ∀ v, v < m → ∃ p, p < n ∧ c p = v ∧ f v = c' p := by
    intro v hv
    have := Classical.choose_spec (h2 v hv)
    exact ⟨_, this.1, this.2, dif_pos hv⟩
  have := nodup_enc (enc := f) (n := m') (List.range m) List.nodup_range (by
    intro a b ha hb e
    obtain ⟨p, p1, p2, p3⟩ := hf a (List.mem_range.mp ha)
    obtain ⟨q, q1, q2, q3⟩ := hf b (List.mem_range.mp hb)
    rw [p3, q3] at e
    have := (h.1 p q p1 q1).mpr (hr p q p1 q1 ((h'.1 p q (by omega) (by omega)).mp e))
    omega) (by
    intro a ha
    obtain ⟨p, p1, p2, p3⟩ := hf a (List.mem_range.mp ha)
    rw [p3]
    exact h'.2.2.1 p (by omega))
  rwa [List.length_range] at this
theorem cn_lt {n : Nat} {E E' : Nat → Nat → Prop} {c c' : Nat → Nat} {m m' : Nat} (h : cnu_ n E c m) (h' : cnu_ n E' c' m') (hr : ∀ p q, p < n → q < n → E' p q → E p q) {p q : Nat} (hp : p < n) (hq : q < n) (h1 : E p q) (h2 : ¬ E' p q) : m < m' := by
  have h2' := fun v (hv : v < m) => h.2.2.2 v hv
  let f : Nat → Nat := fun v => if v = m then c' q else if v = c p then c' p else if hv : v < m then c' (Classical.choose (h2' v hv)) else 0
  have hf : ∀ v, v < m → ∃ x, x < n ∧ c x = v ∧ f v = c' x ∧ (v = c p → x = p) := by
    intro v hv
    by_cases z : v = c p
    · exact ⟨p, hp, z.symm, by show (if v = m then c' q else if v = c p then c' p else _) = _; rw [if_neg (by omega), if_pos z], fun _ => rfl⟩
    · have := Classical.choose_spec (h2' v hv)
      exact ⟨_, this.1, this.2, by show (if v = m then c' q else if v = c p then c' p else _) = _; rw [if_neg (by omega), if_neg z]; exact dif_pos hv, fun y => absurd y z⟩
  have hm : f m = c' q := if_pos rfl
  have hcp := h.2.2.1 p hp
  have hpq := (h.1 p q hp hq).mpr h1
  have hne : ∀ v, v < m → f v ≠ f m := by
    intro v hv e
    obtain ⟨x, x1, x2, x3, x4⟩ := hf v hv
    rw [x3, hm] at e
    have e1 := (h'.1 x q x1 hq).mp e
    have e2 := (h.1 x q x1 hq).mpr (hr x q x1 hq e1)
    have := x4 (by omega)
    subst this
    exact h2 e1
  have := nodup_enc (enc := f) (n := m') (List.range (m + 1)) List.nodup_range (by
    intro a b ha hb e
    have ha := List.mem_range.mp ha
    have hb := List.mem_range.mp hb
    by_cases za : a = m
    · by_cases zb : b = m
      · omega
      · subst za; exact absurd e.symm (hne b (by omega))
    · by_cases zb : b = m
      · subst zb; exact absurd e (hne a (by omega))
      · obtain ⟨x, p1, p2, p3, _⟩ := hf a (by omega)
        obtain ⟨y, q1, q2, q3, _⟩ := hf b (by omega)
        rw [p3, q3] at e
        have := (h.1 x y p1 q1).mpr (hr x y p1 q1 ((h'.1 x y p1 q1).mp e))
        omega) (by
    intro a ha
    have ha := List.mem_range.mp ha
    by_cases za : a = m
    · rw [za, hm]; exact h'.2.2.1 q hq
    · obtain ⟨x, p1, p2, p3, _⟩ := hf a (by omega)
      rw [p3]
      exact h'.2.2.1 x p1)
  rw [List.length_range] at this
  omega
/-- the least p below n with P, or n -/
def frs_ (P : Nat → Bool) : Nat → Nat
  | 0 => 0
  | n + 1 => if frs_ P n < n then frs_ P n else if P n then n else n + 1
theorem fr_1 {P : Nat → Bool} : ∀ {n p : Nat}, p < n → P p = true → frs_ P n ≤ p ∧ P (frs_ P n) = true ∧ ∀ q, q < frs_ P n → P q = false := by
  have h0 : ∀ n, frs_ P n ≤ n ∧ (frs_ P n < n → P (frs_ P n) = true) ∧ ∀ q, q < frs_ P n → P q = false := by
    intro n
    induction n with
    | zero => exact ⟨Nat.le_refl _, fun h => absurd h (by simp [frs_]), fun q h => absurd h (by simp [frs_])⟩
    | succ n ih =>
      unfold frs_
      by_cases z : frs_ P n < n
      · rw [if_pos z]; exact ⟨by omega, fun _ => ih.2.1 z, ih.2.2⟩
      · rw [if_neg z]
        have e : frs_ P n = n := by have := ih.1; omega
        rw [e] at ih
        by_cases y : P n = true
        · rw [if_pos y]; exact ⟨by omega, fun _ => y, ih.2.2⟩
        · rw [if_neg y]
          refine ⟨Nat.le_refl _, fun h => absurd h (by omega), fun q hq => ?_⟩
          by_cases x : q = n
          · rw [x]; exact Bool.eq_false_iff.mpr y
          · exact ih.2.2 q (by omega)
  intro n p hp h
  obtain ⟨h1, h2, h3⟩ := h0 n
  have h4 : frs_ P n ≤ p := by
    by_cases z : frs_ P n ≤ p
    · exact z
    · have := h3 p (by omega)
      rw [h] at this
      cases this
  exact ⟨h4, h2 (by omega), h3⟩
/-- the least member of class e -/
def lrp_ (n : Nat) (c : Nat → Nat) (e : Nat) : Nat := frs_ (fun p => decide (c p = e)) n
theorem re_1 {n : Nat} {c : Nat → Nat} {e p : Nat} (hp : p < n) (h : c p = e) : lrp_ n c e ≤ p ∧ c (lrp_ n c e) = e ∧ ∀ q, q < lrp_ n c e → c q ≠ e := by
  obtain ⟨h1, h2, h3⟩ := fr_1 (P := fun p => decide (c p = e)) hp (decide_eq_true h)
  exact ⟨h1, of_decide_eq_true h2, fun q hq => of_decide_eq_false (h3 q hq)⟩
theorem re_mono {n : Nat} {E : Nat → Nat → Prop} {c : Nat → Nat} {m e e' : Nat} (h : cnu_ n E c m) (h1 : e < e') (h2 : e' < m) : lrp_ n c e < lrp_ n c e' := by
  obtain ⟨p, hp, ep⟩ := h.2.2.2 e' h2
  obtain ⟨a1, a2, a3⟩ := re_1 hp ep
  obtain ⟨q, hq, eq⟩ := h.2.1 _ (show lrp_ n c e' < n by omega) e (by rw [a2]; exact h1)
  have := (re_1 (n := n) (c := c) (e := e) (p := q) (by omega) eq).1
  omega
