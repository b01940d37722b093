/-! THE REFERENCE looks for a fault, in pure form -/
def ipl_ (k c : Nat) : Bool := decide (c = 46 ∨ c = 48 ∨ (97 ≤ c ∧ c < 97 + k))
def ips_ (c : Nat) : Bool := decide (c = 42 ∨ c = 43 ∨ c = 63)
def clo_ : List Bool → List Bool
  | [] => []
  | true :: l => clo_ l
  | false :: l => false :: l
/-- is a not the last that is open? -/
def tpn_ : List Bool → Bool
  | [] => false
  | b :: _ => b
def ptl_ : List Bool → List Bool
  | [] => []
  | _ :: l => l
def wr_ (k : Nat) (t : Nat → Nat) : Nat → Nat → List Bool → Bool → Option Nat
  | 0, i, l, _ => if l.length = 0 then none else some i
  | c + 1, i, l, b => if ipl_ k (t i) = true then wr_ k t c (i + 1) (clo_ l) true else if t i = 40 ∨ t i = 33 then (if l.length = 30 then some i else wr_ k t c (i + 1) (decide (t i = 33) :: l) false) else if tpn_ l = true then some i else if t i = 41 then (if l.length = 0 then some i else wr_ k t c (i + 1) (clo_ (ptl_ l)) true) else if t i = 124 ∨ t i = 38 then wr_ k t c (i + 1) l false else if ips_ (t i) = true ∧ b = true then wr_ k t c (i + 1) l b else some i
def wqr_ (n k : Nat) (t : Nat → Nat) (i : Nat) (l : List Bool) (b : Bool) : Option Nat := wr_ k t (n - i) i l b
section
variable {n k : Nat} {t : Nat → Nat} {i : Nat} {l : List Bool} {b : Bool} {u : Nat}
theorem wqr_s (h : i < n) : wqr_ n k t i l b = if ipl_ k (t i) = true then wqr_ n k t (i + 1) (clo_ l) true else if t i = 40 ∨ t i = 33 then (if l.length = 30 then some i else wqr_ n k t (i + 1) (decide (t i = 33) :: l) false) else if tpn_ l = true then some i else if t i = 41 then (if l.length = 0 then some i else wqr_ n k t (i + 1) (clo_ (ptl_ l)) true) else if t i = 124 ∨ t i = 38 then wqr_ n k t (i + 1) l false else if ips_ (t i) = true ∧ b = true then wqr_ n k t (i + 1) l b else some i := by
  unfold wqr_
  rw [show n - i = n - (i + 1) + 1 by omega]
  rfl
theorem wqr_e (h : i = n) : wqr_ n k t i l b = if l.length = 0 then none else some n := by
  unfold wqr_
  rw [h, Nat.sub_self]
  rfl
theorem cht_lt (h : i < n) : cht_ n t i = t i := if_pos h
theorem cht_ge (h : ¬ i < n) : cht_ n t i = 0 := if_neg h
theorem ia_f {c : Nat} (h : ia_ k c = false) : ipl_ k c = false ∧ c ≠ 40 ∧ c ≠ 33 := by
  unfold ia_ at h
  simp only [Bool.or_eq_false_iff, decide_eq_false_iff_not] at h
  refine ⟨?_, h.1, h.2.1⟩
  unfold ipl_
  exact decide_eq_false (by omega)
theorem ia_t {c : Nat} (h : ia_ k c = true) : c = 40 ∨ c = 33 ∨ ipl_ k c = true := by
  unfold ia_ at h
  simp only [Bool.or_eq_true, decide_eq_true_eq] at h
  rcases h with q | q | q | q | q
  · exact Or.inl q
  · exact Or.inr (Or.inl q)
  · exact Or.inr (Or.inr (decide_eq_true (Or.inl q)))
  · exact Or.inr (Or.inr (decide_eq_true (Or.inr (Or.inl q))))
  · exact Or.inr (Or.inr (decide_eq_true (Or.inr (Or.inr q))))
theorem ipl_n {c : Nat} (hk : k ≤ 4) (h : ipl_ k c = true) : c ≠ 40 ∧ c ≠ 33 ∧ c ≠ 41 ∧ c ≠ 124 ∧ c ≠ 38 ∧ c ≠ 42 ∧ c ≠ 43 ∧ c ≠ 63 := by
  unfold ipl_ at h
  have := of_decide_eq_true h
  omega
theorem ipl_m {c : Nat} (hk : k ≤ 4) (h : c = 40 ∨ c = 33 ∨ c = 41 ∨ c = 124 ∨ c = 38 ∨ c = 42 ∨ c = 43 ∨ c = 63) : ¬ ipl_ k c = true := by
  intro z
  have := ipl_n hk z
  omega
theorem clo_n (h : tpn_ l = false) : clo_ l = l := by
  match l, h with
  | [], _ => rfl
  | false :: l, _ => rfl
/-- what stands behind a part -/
def n4_ (n k : Nat) (t : Nat → Nat) (i : Nat) (b : Bool) : Prop := ia_ k (cht_ n t i) = false ∧ (b = true → ips_ (cht_ n t i) = false)
def n2_ (n k : Nat) (t : Nat → Nat) (i : Nat) (b : Bool) : Prop := cht_ n t i ≠ 38 ∧ n4_ n k t i b
def n0_ (n k : Nat) (t : Nat → Nat) (i : Nat) (b : Bool) : Prop := cht_ n t i ≠ 124 ∧ n2_ n k t i b
def n6_ (n : Nat) (t : Nat → Nat) (i : Nat) (b : Bool) : Prop := b = true ∧ ips_ (cht_ n t i) = false
def rW_ (n k : Nat) (t : Nat → Nat) (i : Nat) (l : List Bool) (b : Bool) (r : po_) (N : Nat → Bool → Prop) : Prop := (∀ f, r = .inl f → wqr_ n k t i l b = some f) ∧ ∀ j v, r = .inr (j, v) → ∃ b', wqr_ n k t i l b = wqr_ n k t j l b' ∧ N j b'
theorem rW_f {f : Nat} {N : Nat → Bool → Prop} (h : wqr_ n k t i l b = some f) : rW_ n k t i l b (.inl f) N := ⟨fun f' e => by cases e; exact h, fun j v e => by cases e⟩
theorem rW_v {j : Nat} {v : Option ma_} {b' : Bool} {N : Nat → Bool → Prop} (h : wqr_ n k t i l b = wqr_ n k t j l b') (hN : N j b') : rW_ n k t i l b (.inr (j, v)) N := ⟨fun f' e => (by cases e), fun j' v' e => by cases e; exact ⟨b', h, hN⟩⟩
theorem rW_t {j : Nat} {b' : Bool} {r : po_} {N : Nat → Bool → Prop} (h : wqr_ n k t i l b = wqr_ n k t j l b') (q : rW_ n k t j l b' r N) : rW_ n k t i l b r N := ⟨fun f e => h.trans (q.1 f e), fun j' v e => by
  obtain ⟨b2, z1, z2⟩ := q.2 j' v e
  exact ⟨b2, h.trans z1, z2⟩⟩
/-- nothing that goes on stands here: a fault, if something is open or something stands here -/
theorem wqr_x (hk : k ≤ 4) (hi : i ≤ n) (hN : n0_ n k t i b) (hl : tpn_ l = false) (h41 : i < n → l.length = 0 ∨ t i ≠ 41) (h0 : i = n → l.length ≠ 0) : wqr_ n k t i l b = some i := by
  obtain ⟨h1, h2, h3, h4⟩ := hN
  by_cases z : i < n
  · rw [cht_lt z] at h1 h2 h3 h4
    obtain ⟨p1, p2, p3⟩ := ia_f h3
    rw [wqr_s z, if_neg (by rw [p1]; exact Bool.false_ne_true), if_neg (by omega), if_neg (by rw [hl]; exact Bool.false_ne_true)]
    by_cases y : t i = 41
    · rcases h41 z with q | q
      · rw [if_pos y, if_pos q]
      · exact absurd y q
    · rw [if_neg y, if_neg (by omega), if_neg]
      rintro ⟨q1, q2⟩
      rw [h4 q2] at q1
      cases q1
  · have e : i = n := by omega
    rw [wqr_e e, if_neg (h0 e), e]
end
section
variable (n k : Nat) (t : Nat → Nat) (u : Nat)
def B0_ : Prop := ∀ (o i : Nat) (l : List Bool) (r : po_), l.length = o → o ≤ 30 → i ≤ n → tpn_ l = false → pzr_ n k t u 0 o i none = some r → rW_ n k t i l false r (n0_ n k t)
def B1_ : Prop := ∀ (o i : Nat) (l : List Bool) (b : Bool) (a : Option ma_) (r : po_), l.length = o → o ≤ 30 → i ≤ n → tpn_ l = false → n2_ n k t i b → pzr_ n k t u 1 o i a = some r → rW_ n k t i l b r (n0_ n k t)
def B2_ : Prop := ∀ (o i : Nat) (l : List Bool) (r : po_), l.length = o → o ≤ 30 → i ≤ n → tpn_ l = false → pzr_ n k t u 2 o i none = some r → rW_ n k t i l false r (n2_ n k t)
def B3_ : Prop := ∀ (o i : Nat) (l : List Bool) (b : Bool) (a : Option ma_) (r : po_), l.length = o → o ≤ 30 → i ≤ n → tpn_ l = false → n4_ n k t i b → pzr_ n k t u 3 o i a = some r → rW_ n k t i l b r (n2_ n k t)
def B4_ : Prop := ∀ (o i : Nat) (l : List Bool) (r : po_), l.length = o → o ≤ 30 → i ≤ n → tpn_ l = false → pzr_ n k t u 4 o i none = some r → rW_ n k t i l false r (n4_ n k t)
def B5_ : Prop := ∀ (o i : Nat) (l : List Bool) (b : Bool) (a : Option ma_) (r : po_), l.length = o → o ≤ 30 → i ≤ n → tpn_ l = false → n6_ n t i b → pzr_ n k t u 5 o i a = some r → rW_ n k t i l b r (n4_ n k t)
def B6_ : Prop := ∀ (o i : Nat) (l : List Bool) (b : Bool) (r : po_), l.length = o → o ≤ 30 → i ≤ n → tpn_ l = false → ia_ k (cht_ n t i) = true → pzr_ n k t u 6 o i none = some r → rW_ n k t i l b r (n6_ n t)
def B7_ : Prop := ∀ (o i : Nat) (l : List Bool) (a : Option ma_) (r : po_), l.length = o → o ≤ 30 → i ≤ n → tpn_ l = false → pzr_ n k t u 7 o i a = some r → rW_ n k t i l true r (n6_ n t)
def B8_ : Prop := ∀ (o i : Nat) (l : List Bool) (b : Bool) (r : po_), l.length = o → o ≤ 30 → i ≤ n → (ia_ k (cht_ n t i) = true ∨ tpn_ l = true) → pzr_ n k t u 8 o i none = some r → (∀ f, r = .inl f → wqr_ n k t i l b = some f) ∧ ∀ j v, r = .inr (j, v) → wqr_ n k t i l b = wqr_ n k t j (clo_ l) true
end
section
variable {n k : Nat} {t : Nat → Nat} {u : Nat}
theorem B0_s (h2 : B2_ n k t u) (h1 : B1_ n k t u) : B0_ n k t (u + 1) := by
  intro o i l r hl ho hi hp h
  rw [pzr_0] at h
  rcases bd_s h with ⟨f, e1, rfl⟩ | ⟨j, v, e1, e2⟩
  · exact rW_f ((h2 o i l _ hl ho hi hp e1).1 f rfl)
  · have mo : i ≤ j ∧ j ≤ n ∧ _ := pzr_mono u 2 o i none _ hi e1
    obtain ⟨b', q1, q2⟩ := (h2 o i l _ hl ho hi hp e1).2 j v rfl
    exact rW_t q1 (h1 o j l b' v r hl ho mo.2.1 hp q2 e2)
theorem B2_s (h4 : B4_ n k t u) (h3 : B3_ n k t u) : B2_ n k t (u + 1) := by
  intro o i l r hl ho hi hp h
  rw [pzr_2] at h
  rcases bd_s h with ⟨f, e1, rfl⟩ | ⟨j, v, e1, e2⟩
  · exact rW_f ((h4 o i l _ hl ho hi hp e1).1 f rfl)
  · have mo : i ≤ j ∧ j ≤ n ∧ _ := pzr_mono u 4 o i none _ hi e1
    obtain ⟨b', q1, q2⟩ := (h4 o i l _ hl ho hi hp e1).2 j v rfl
    exact rW_t q1 (h3 o j l b' v r hl ho mo.2.1 hp q2 e2)
theorem B4_s (h6 : B6_ n k t u) (h5 : B5_ n k t u) : B4_ n k t (u + 1) := by
  intro o i l r hl ho hi hp h
  rw [pzr_4] at h
  by_cases c : ia_ k (cht_ n t i) = true
  · rw [if_pos c] at h
    rcases bd_s h with ⟨f, e1, rfl⟩ | ⟨j, v, e1, e2⟩
    · exact rW_f ((h6 o i l false _ hl ho hi hp c e1).1 f rfl)
    · have mo : i ≤ j ∧ j ≤ n ∧ _ := pzr_mono u 6 o i none _ hi e1
      obtain ⟨b', q1, q2⟩ := (h6 o i l false _ hl ho hi hp c e1).2 j v rfl
      exact rW_t q1 (h5 o j l b' v r hl ho mo.2.1 hp q2 e2)
  · rw [if_neg c] at h
    cases h
    exact rW_v (b' := false) rfl ⟨Bool.eq_false_iff.mpr c, fun z => by cases z⟩
theorem B6_s (h8 : B8_ n k t u) (h7 : B7_ n k t u) : B6_ n k t (u + 1) := by
  intro o i l b r hl ho hi hp c h
  rw [pzr_6] at h
  rcases bd_s h with ⟨f, e1, rfl⟩ | ⟨j, v, e1, e2⟩
  · exact rW_f ((h8 o i l b _ hl ho hi (Or.inl c) e1).1 f rfl)
  · have mo : i ≤ j ∧ j ≤ n ∧ _ := pzr_mono u 8 o i none _ hi e1
    have q1 := (h8 o i l b _ hl ho hi (Or.inl c) e1).2 j v rfl
    rw [clo_n hp] at q1
    exact rW_t q1 (h7 o j l v r hl ho mo.2.1 hp e2)
theorem B1_s (hk : k ≤ 4) (h2 : B2_ n k t u) (h1 : B1_ n k t u) : B1_ n k t (u + 1) := by
  intro o i l b a r hl ho hi hp hN h
  rw [pzr_1] at h
  by_cases c : cht_ n t i = 124
  · obtain ⟨hi', hc⟩ := cht_in c (by omega)
    have e0 : wqr_ n k t i l b = wqr_ n k t (i + 1) l false := by
      rw [wqr_s hi', if_neg (ipl_m hk (by omega)), if_neg (by omega), if_neg (by rw [hp]; exact Bool.false_ne_true), if_neg (by omega), if_pos (Or.inl hc)]
    rw [if_pos c] at h
    rcases bd_s h with ⟨f, e1, rfl⟩ | ⟨j, v, e1, e2⟩
    · exact rW_t e0 (rW_f ((h2 o (i + 1) l _ hl ho hi' hp e1).1 f rfl))
    · have mo : i + 1 ≤ j ∧ j ≤ n ∧ _ := pzr_mono u 2 o (i + 1) none _ hi' e1
      obtain ⟨b', q1, q2⟩ := (h2 o (i + 1) l _ hl ho hi' hp e1).2 j v rfl
      exact rW_t (e0.trans q1) (h1 o j l b' _ r hl ho mo.2.1 hp q2 e2)
  · rw [if_neg c] at h
    cases h
    exact rW_v (b' := b) rfl ⟨c, hN⟩
theorem B3_s (hk : k ≤ 4) (h4 : B4_ n k t u) (h3 : B3_ n k t u) : B3_ n k t (u + 1) := by
  intro o i l b a r hl ho hi hp hN h
  rw [pzr_3] at h
  by_cases c : cht_ n t i = 38
  · obtain ⟨hi', hc⟩ := cht_in c (by omega)
    have e0 : wqr_ n k t i l b = wqr_ n k t (i + 1) l false := by
      rw [wqr_s hi', if_neg (ipl_m hk (by omega)), if_neg (by omega), if_neg (by rw [hp]; exact Bool.false_ne_true), if_neg (by omega), if_pos (Or.inr hc)]
    rw [if_pos c] at h
    rcases bd_s h with ⟨f, e1, rfl⟩ | ⟨j, v, e1, e2⟩
    · exact rW_t e0 (rW_f ((h4 o (i + 1) l _ hl ho hi' hp e1).1 f rfl))
    · have mo : i + 1 ≤ j ∧ j ≤ n ∧ _ := pzr_mono u 4 o (i + 1) none _ hi' e1
      obtain ⟨b', q1, q2⟩ := (h4 o (i + 1) l _ hl ho hi' hp e1).2 j v rfl
      exact rW_t (e0.trans q1) (h3 o j l b' _ r hl ho mo.2.1 hp q2 e2)
  · rw [if_neg c] at h
    cases h
    exact rW_v (b' := b) rfl ⟨c, hN⟩
theorem B5_s (h6 : B6_ n k t u) (h5 : B5_ n k t u) : B5_ n k t (u + 1) := by
  intro o i l b a r hl ho hi hp hN h
  rw [pzr_5] at h
  by_cases c : ia_ k (cht_ n t i) = true
  · rw [if_pos c] at h
    rcases bd_s h with ⟨f, e1, rfl⟩ | ⟨j, v, e1, e2⟩
    · exact rW_f ((h6 o i l b _ hl ho hi hp c e1).1 f rfl)
    · have mo : i ≤ j ∧ j ≤ n ∧ _ := pzr_mono u 6 o i none _ hi e1
      obtain ⟨b', q1, q2⟩ := (h6 o i l b _ hl ho hi hp c e1).2 j v rfl
      exact rW_t q1 (h5 o j l b' _ r hl ho mo.2.1 hp q2 e2)
  · rw [if_neg c] at h
    cases h
    exact rW_v (b' := b) rfl ⟨Bool.eq_false_iff.mpr c, fun _ => hN.2⟩
theorem B7_s (hk : k ≤ 4) (h7 : B7_ n k t u) : B7_ n k t (u + 1) := by
  intro o i l a r hl ho hi hp h
  rw [pzr_7] at h
  have e0 : i < n → (t i = 42 ∨ t i = 43 ∨ t i = 63) → wqr_ n k t i l true = wqr_ n k t (i + 1) l true := by
    intro hi' hc
    rw [wqr_s hi', if_neg (ipl_m hk (by omega)), if_neg (by omega), if_neg (by rw [hp]; exact Bool.false_ne_true), if_neg (by omega), if_neg (by omega), if_pos ⟨decide_eq_true hc, rfl⟩]
  by_cases c : cht_ n t i = 42
  · obtain ⟨hi', hc⟩ := cht_in c (by omega)
    rw [if_pos c] at h
    exact rW_t (e0 hi' (by omega)) (h7 o (i + 1) l _ r hl ho hi' hp h)
  · rw [if_neg c] at h
    by_cases c1 : cht_ n t i = 43
    · obtain ⟨hi', hc⟩ := cht_in c1 (by omega)
      rw [if_pos c1] at h
      exact rW_t (e0 hi' (by omega)) (h7 o (i + 1) l _ r hl ho hi' hp h)
    · rw [if_neg c1] at h
      by_cases c2 : cht_ n t i = 63
      · obtain ⟨hi', hc⟩ := cht_in c2 (by omega)
        rw [if_pos c2] at h
        exact rW_t (e0 hi' (by omega)) (h7 o (i + 1) l _ r hl ho hi' hp h)
      · rw [if_neg c2] at h
        cases h
        exact rW_v (b' := true) rfl ⟨rfl, decide_eq_false (by omega)⟩
theorem B8_s (hk : k ≤ 4) (h0 : B0_ n k t u) (h8 : B8_ n k t u) : B8_ n k t (u + 1) := by
  intro o i l b r hl ho hi hp h
  rw [pzr_8] at h
  by_cases c : ia_ k (cht_ n t i) = true
  · have hi' := ia_in c
    rw [if_pos c, cht_lt hi'] at h
    rw [cht_lt hi'] at c
    by_cases c1 : (t i = 40 ∨ t i = 33) ∧ 30 ≤ o
    · rw [if_pos c1] at h
      cases h
      refine ⟨fun f e => ?_, fun j v e => by cases e⟩
      cases e
      rw [wqr_s hi', if_neg (ipl_m hk (by omega)), if_pos c1.1, if_pos (by omega)]
    · rw [if_neg c1] at h
      by_cases c2 : t i = 40
      · rw [if_pos c2] at h
        have e0 : wqr_ n k t i l b = wqr_ n k t (i + 1) (false :: l) false := by
          rw [wqr_s hi', if_neg (ipl_m hk (by omega)), if_pos (Or.inl c2), if_neg (by omega), decide_eq_false (by omega)]
        have hl' : (false :: l).length = o + 1 := by
          show l.length + 1 = o + 1
          omega
        rcases bd_s h with ⟨f, e1, rfl⟩ | ⟨j, v, e1, e2⟩
        · refine ⟨fun f' e => ?_, fun j v e => by cases e⟩
          cases e
          exact e0.trans ((h0 (o + 1) (i + 1) (false :: l) _ hl' (by omega) hi' rfl e1).1 f rfl)
        · have mo : i + 1 ≤ j ∧ j ≤ n ∧ _ := pzr_mono u 0 (o + 1) (i + 1) none _ hi' e1
          obtain ⟨b', q1, q2⟩ := (h0 (o + 1) (i + 1) (false :: l) _ hl' (by omega) hi' rfl e1).2 j v rfl
          by_cases c3 : cht_ n t j = 41
          · obtain ⟨hj, hc⟩ := cht_in c3 (by omega)
            rw [if_pos c3] at e2
            cases e2
            refine ⟨fun f e => (by cases e), fun j' v' e => ?_⟩
            cases e
            rw [e0, q1, wqr_s hj, if_neg (ipl_m hk (by omega)), if_neg (by omega), if_neg (by exact Bool.false_ne_true), if_pos hc, if_neg (by omega)]
            rfl
          · rw [if_neg c3] at e2
            cases e2
            refine ⟨fun f e => ?_, fun j' v' e => by cases e⟩
            cases e
            rw [e0, q1]
            refine wqr_x hk mo.2.1 q2 rfl (fun z => Or.inr (fun y => c3 ((cht_lt z).trans y))) (fun _ => ?_)
            omega
      · rw [if_neg c2] at h
        by_cases c3 : t i = 33
        · rw [if_pos c3] at h
          have e0 : wqr_ n k t i l b = wqr_ n k t (i + 1) (true :: l) false := by
            rw [wqr_s hi', if_neg (ipl_m hk (by omega)), if_pos (Or.inr c3), if_neg (by omega), decide_eq_true c3]
          have hl' : (true :: l).length = o + 1 := by
            show l.length + 1 = o + 1
            omega
          have q := h8 (o + 1) (i + 1) (true :: l) false
          rcases bd_s h with ⟨f, e1, rfl⟩ | ⟨j, v, e1, e2⟩
          · refine ⟨fun f' e => ?_, fun j v e => by cases e⟩
            cases e
            exact e0.trans ((q _ hl' (by omega) hi' (Or.inr rfl) e1).1 f rfl)
          · cases e2
            refine ⟨fun f e => (by cases e), fun j' v' e => ?_⟩
            cases e
            exact e0.trans ((q _ hl' (by omega) hi' (Or.inr rfl) e1).2 j v rfl)
        · rw [if_neg c3] at h
          cases h
          refine ⟨fun f e => (by cases e), fun j' v' e => ?_⟩
          cases e
          rcases ia_t c with q | q | q
          · exact absurd q c2
          · exact absurd q c3
          · rw [wqr_s hi', if_pos q]
  · rw [if_neg c] at h
    cases h
    have hp' : tpn_ l = true := hp.resolve_left c
    have hl0 : l.length ≠ 0 := by
      intro z
      rw [List.length_eq_zero_iff] at z
      rw [z] at hp'
      cases hp'
    refine ⟨fun f e => ?_, fun j v e => by cases e⟩
    cases e
    by_cases z : i < n
    · rw [cht_lt z] at c
      obtain ⟨p1, p2, p3⟩ := ia_f (Bool.eq_false_iff.mpr c)
      rw [wqr_s z, if_neg (by rw [p1]; exact Bool.false_ne_true), if_neg (by omega), if_pos hp']
    · have e : i = n := by omega
      rw [wqr_e e, if_neg hl0, e]
theorem B_all (hk : k ≤ 4) : ∀ u, (B0_ n k t u ∧ B1_ n k t u ∧ B2_ n k t u) ∧ (B3_ n k t u ∧ B4_ n k t u ∧ B5_ n k t u) ∧ (B6_ n k t u ∧ B7_ n k t u ∧ B8_ n k t u)
  | 0 => by
    refine ⟨⟨?_, ?_, ?_⟩, ⟨?_, ?_, ?_⟩, ⟨?_, ?_, ?_⟩⟩
    · intro o i l r _ _ _ _ h
      cases h
    · intro o i l b a r _ _ _ _ _ h
      cases h
    · intro o i l r _ _ _ _ h
      cases h
    · intro o i l b a r _ _ _ _ _ h
      cases h
    · intro o i l r _ _ _ _ h
      cases h
    · intro o i l b a r _ _ _ _ _ h
      cases h
    · intro o i l b r _ _ _ _ _ h
      cases h
    · intro o i l a r _ _ _ _ h
      cases h
    · intro o i l b r _ _ _ _ h
      cases h
  | u + 1 => by
    obtain ⟨⟨a0, a1, a2⟩, ⟨a3, a4, a5⟩, ⟨a6, a7, a8⟩⟩ := B_all hk u
    exact ⟨⟨B0_s a2 a1, B1_s hk a2 a1, B2_s a4 a3⟩, ⟨B3_s hk a4 a3, B4_s a6 a5, B5_s a6 a5⟩, ⟨B6_s a8 a7, B7_s hk a7, B8_s hk a0 a8⟩⟩
/-- the fault that a parse ends with, if any -/
def flt_ (n : Nat) : po_ → Option Nat
  | .inl f => some f
  | .inr p => if p.1 < n then some p.1 else none
theorem wqr_all (hk : k ≤ 4) {r : po_} (h : pzr_ n k t u 0 0 0 none = some r) : wqr_ n k t 0 [] false = flt_ n r := by
  have q := (B_all hk u).1.1 0 0 [] r rfl (by omega) (Nat.zero_le n) rfl h
  have mo := pzr_mono u 0 0 0 none r (Nat.zero_le n) h
  cases r with
  | inl f => exact q.1 f rfl
  | inr p =>
    obtain ⟨b', q1, q2⟩ := q.2 p.1 p.2 rfl
    have mo' : 0 ≤ p.1 ∧ p.1 ≤ n ∧ _ := mo
    show _ = if p.1 < n then some p.1 else none
    rw [q1]
    by_cases z : p.1 < n
    · rw [if_pos z]
      exact wqr_x hk mo'.2.1 q2 rfl (fun _ => Or.inl rfl) (fun e => absurd e (by omega))
    · rw [if_neg z, wqr_e (by omega)]
      rfl
end
/-! the reference's own -/
def wls_ (D : dy_) : List Bool → Prop
  | [] => True
  | b :: l => D.1 376 l.length = b2_ b ∧ wls_ D l
theorem wls_fr {D D' : dy_} (h : D'.1 376 = D.1 376) : ∀ {l : List Bool}, wls_ D l → wls_ D' l
  | [], _ => trivial
  | b :: l, q => ⟨by rw [h]; exact q.1, wls_fr h q.2⟩
theorem wls_I {D : dy_} {v : Int32} {m : Nat} : ∀ {l : List Bool}, l.length ≤ m → wls_ D l → wls_ (dI_ D 376 m v) l
  | [], _, _ => trivial
  | b :: l, h, q => by
    have h' : l.length + 1 ≤ m := h
    exact ⟨by rw [dI_at, if_neg (by omega)]; exact q.1, wls_I (by omega) q.2⟩
theorem wls_clo {D : dy_} : ∀ {l : List Bool}, wls_ D l → wls_ D (clo_ l)
  | [], _ => trivial
  | true :: l, q => wls_clo (l := l) q.2
  | false :: l, q => q
theorem clo_le : ∀ (l : List Bool), (clo_ l).length ≤ l.length
  | [] => Nat.le_refl _
  | true :: l => Nat.le_succ_of_le (clo_le l)
  | false :: l => Nat.le_refl _
def wvr_ : Option Nat → Int32
  | none => -1
  | some f => nI f
section
variable {w : (Nat → Int32) × Nat} {d n k : Nat} {t : Nat → Nat}
theorem x152 {D : dy_} : ∀ {l : List Bool}, l.length ≤ 30 → wls_ D l → k152_2 w (d + 1) (nI l.length) D = some (some (.int (nI (clo_ l).length)), D)
  | [], _, _ => by
    rw [e152_2, if_pos (by decide)]
    rfl
  | b :: l, h, q => by
    have h' : l.length + 1 ≤ 30 := h
    have e : (b :: l).length = l.length + 1 := rfl
    rw [e, e152_2, if_neg (by rw [nI_leI (by omega) (by omega)]; omega), pk_sub (by omega), Nat.add_sub_cancel, inb_ (by omega) (by omega), nI_clamp (by omega), q.1]
    cases b
    · rw [if_pos b2f_]
      rfl
    · rw [if_neg (by decide), dm1, pk_sub (by omega), Nat.add_sub_cancel]
      exact x152 (by omega) q.2
theorem x150 {D : dy_} {c : Nat} (hk : 1 ≤ k ∧ k ≤ 4) (hc : c < 256) : k150_0 w (d + 2) (nI c) (nI k) D = some (some (.int (b2_ (ipl_ k c))), D) := by
  unfold ipl_
  rw [e150_0]
  by_cases z : c = 46
  · rw [z, if_pos rfl, decide_eq_true (Or.inl rfl)]
    rfl
  · rw [if_neg (by rw [nI_eq (by omega) (by omega)]; exact z)]
    by_cases y : c = 48
    · rw [y, if_pos rfl, decide_eq_true (Or.inr (Or.inl rfl))]
      rfl
    · rw [if_neg (by rw [nI_eq (by omega) (by omega)]; exact y), nI_add, pk_sub (by omega), lt64 (n := 97) (by omega), x111, op_os, op_vIs]
      by_cases x : 97 ≤ c ∧ c < 97 + k
      · rw [decide_eq_true (show ¬ (nI c < nI 97 ∨ nI (97 + k - 1) < nI c) from by rw [nI_ltI (by omega) (by omega), nI_ltI (by omega) (by omega)]; omega), decide_eq_true (Or.inr (Or.inr x))]
        rfl
      · rw [decide_eq_false (show ¬ ¬ (nI c < nI 97 ∨ nI (97 + k - 1) < nI c) from by rw [nI_ltI (by omega) (by omega), nI_ltI (by omega) (by omega)]; omega), decide_eq_false (by omega)]
        rfl
theorem x149 {D : dy_} {c : Nat} (hc : c < 256) : k149_0 w (d + 1) (nI c) D = some (some (.int (b2_ (ips_ c))), D) := by
  unfold ips_
  rw [e149_0]
  by_cases z : c = 42
  · rw [z, if_pos rfl, decide_eq_true (Or.inl rfl)]
    rfl
  · rw [if_neg (by rw [nI_eq (by omega) (by omega)]; exact z)]
    by_cases y : c = 43
    · rw [y, if_pos rfl, decide_eq_true (Or.inr (Or.inl rfl))]
      rfl
    · rw [if_neg (by rw [nI_eq (by omega) (by omega)]; exact y)]
      by_cases x : c = 63
      · rw [x, if_neg (fun q => q rfl), decide_eq_true (Or.inr (Or.inr rfl))]
        rfl
      · rw [if_pos (by rw [ne_eq, nI_eq (by omega) (by omega)]; exact x), decide_eq_false (by omega)]
        rfl
theorem x151 (ht : tw_ n t) (hk : 1 ≤ k ∧ k ≤ 4) : ∀ (c i : Nat) (l : List Bool) (b : Bool) (D : dy_), c + i = n → l.length ≤ 30 → wls_ D l → yp_ D n t → ∃ D', k151_7 w (d + 3) (nI k) (nI l.length) (b2_ b) (nI i) D = some (some (.int (wvr_ (wr_ k t c i l b))), D') ∧ sx_ (fun b => b = 376) D D'
  | 0, i, l, b, D, hc, hl, hw, hy => by
    have hn := ht.1
    have e : i = n := by omega
    refine ⟨D, ?_, sx_r _ _⟩
    rw [e151_7, hy.1, e, if_pos (by rw [nI_leI (by omega) (by omega)]; omega)]
    show _ = some (some (Value.int (wvr_ (if l.length = 0 then none else some n))), D)
    by_cases z : l.length = 0
    · rw [if_pos z, z, if_pos (by decide)]
      rfl
    · rw [if_neg z, if_neg (by rw [nI_leI (by omega) (by omega)]; omega)]
      rfl
  | c + 1, i, l, b, D, hc, hl, hw, hy => by
    have hn := ht.1
    have hi : i < n := by omega
    have hb := ht.2 i hi
    have go : ∀ (l' : List Bool) (b' : Bool) (D1 : dy_), l'.length ≤ 30 → wls_ D1 l' → yp_ D1 n t → sx_ (fun b => b = 376) D D1 → k151_7 w (d + 3) (nI k) (nI l.length) (b2_ b) (nI i) D = k151_184 w (d + 3) (nI k) (nI l'.length) (b2_ b') (nI i) D1 → wr_ k t (c + 1) i l b = wr_ k t c (i + 1) l' b' → ∃ D', k151_7 w (d + 3) (nI k) (nI l.length) (b2_ b) (nI i) D = some (some (.int (wvr_ (wr_ k t (c + 1) i l b))), D') ∧ sx_ (fun b => b = 376) D D' := by
      intro l' b' D1 h1 h2 h3 h4 h5 h6
      obtain ⟨D', q1, q2⟩ := x151 ht hk c (i + 1) l' b' D1 (by omega) h1 h2 h3
      refine ⟨D', ?_, sx_t h4 q2⟩
      rw [h5, e151_184, nI_add, q1, h6]
    have stop : k151_7 w (d + 3) (nI k) (nI l.length) (b2_ b) (nI i) D = some (some (.int (nI i)), D) → wr_ k t (c + 1) i l b = some i → ∃ D', k151_7 w (d + 3) (nI k) (nI l.length) (b2_ b) (nI i) D = some (some (.int (wvr_ (wr_ k t (c + 1) i l b))), D') ∧ sx_ (fun b => b = 376) D D' := by
      intro h1 h2
      refine ⟨D, ?_, sx_r _ _⟩
      rw [h1, h2]
      rfl
    have h44 : k151_7 w (d + 3) (nI k) (nI l.length) (b2_ b) (nI i) D = k151_44 w (d + 3) (nI k) (nI l.length) (b2_ b) (nI i) (nI (t i)) (b2_ (tpn_ l)) D := by
      rw [e151_7, hy.1, if_neg (by rw [nI_leI (by omega) (by omega)]; omega), x148 hy hn hi, op_os, op_vIs]
      match l, hl, hw with
      | [], _, _ =>
        rw [if_pos (by decide), e151_43]
        rfl
      | x :: l, hl, hw =>
        have h' : l.length + 1 ≤ 30 := hl
        have e : (x :: l).length = l.length + 1 := rfl
        rw [e, if_neg (by rw [nI_leI (by omega) (by omega)]; omega), pk_sub (by omega), Nat.add_sub_cancel, inb_ (by omega) (by omega), nI_clamp (by omega), hw.1]
        cases x
        · rw [if_pos b2f_, e151_43]
          rfl
        · rw [if_neg (by decide)]
          rfl
    rw [e151_44, x150 hk hb, op_os, op_vIs] at h44
    have wr1 : wr_ k t (c + 1) i l b = if ipl_ k (t i) = true then wr_ k t c (i + 1) (clo_ l) true else if t i = 40 ∨ t i = 33 then (if l.length = 30 then some i else wr_ k t c (i + 1) (decide (t i = 33) :: l) false) else if tpn_ l = true then some i else if t i = 41 then (if l.length = 0 then some i else wr_ k t c (i + 1) (clo_ (ptl_ l)) true) else if t i = 124 ∨ t i = 38 then wr_ k t c (i + 1) l false else if ips_ (t i) = true ∧ b = true then wr_ k t c (i + 1) l b else some i := rfl
    by_cases a1 : ipl_ k (t i) = true
    · rw [if_pos a1] at wr1
      rw [a1, if_neg (by decide), e152_0, x152 hl hw, op_os, op_vIs] at h44
      exact go (clo_ l) true D (Nat.le_trans (clo_le l) hl) (wls_clo hw) hy (sx_r _ _) h44 wr1
    · rw [if_neg a1] at wr1
      rw [Bool.eq_false_iff.mpr a1, if_pos b2f_] at h44
      -- a ( or a !
      have opn : t i = 40 ∨ t i = 33 → k151_7 w (d + 3) (nI k) (nI l.length) (b2_ b) (nI i) D = k151_80 w (d + 3) (nI k) (nI l.length) (nI i) (nI (t i)) D → ∃ D', k151_7 w (d + 3) (nI k) (nI l.length) (b2_ b) (nI i) D = some (some (.int (wvr_ (wr_ k t (c + 1) i l b))), D') ∧ sx_ (fun b => b = 376) D D' := by
        intro a2 h80
        rw [if_pos a2] at wr1
        rw [e151_80] at h80
        by_cases a3 : l.length = 30
        · rw [if_pos a3] at wr1
          rw [if_neg (fun z => z (by rw [a3]))] at h80
          exact stop h80 wr1
        · rw [if_neg a3] at wr1
          rw [if_pos (by rw [ne_eq, nI_eq (by omega) (by omega)]; exact a3)] at h80
          have h106 : k151_7 w (d + 3) (nI k) (nI l.length) (b2_ b) (nI i) D = k151_106 w (d + 3) (nI k) (nI l.length) (nI i) 376 (nI l.length) (b2_ (decide (t i = 33))) D := by
            rw [h80]
            by_cases a4 : t i = 33
            · rw [if_neg (fun z => z (by rw [a4])), decide_eq_true a4]
              rfl
            · rw [if_pos (by rw [ne_eq, nI_eq (by omega) (by omega)]; exact a4), decide_eq_false a4]
              rfl
          refine go (decide (t i = 33) :: l) false (dI_ D 376 l.length (b2_ (decide (t i = 33)))) (show l.length + 1 ≤ 30 by omega) ⟨by rw [dI_at, if_pos ⟨rfl, rfl⟩], wls_I (Nat.le_refl _) hw⟩ ?_ (sx_I rfl) ?_ wr1
          · unfold yp_ at *
            rw [show (dI_ D 376 l.length (b2_ (decide (t i = 33)))).1 351 = D.1 351 from dIne_ (by omega), show (dI_ D 376 l.length (b2_ (decide (t i = 33)))).1 357 = D.1 357 from dIne_ (by omega)]
            exact hy
          · rw [h106, e151_106, if_pos (by decide), show (sh_.1 376).2 = 64 from rfl, inb_ (by omega) (by omega), nI_clamp (by omega), nI_add]
            have : vp_nar .boolean (b2_ (decide (t i = 33))) = b2_ (decide (t i = 33)) := by
              cases decide (t i = 33)
              · decide
              · decide
            rw [this]
            rfl
      by_cases a2 : t i = 40
      · rw [a2, if_pos rfl] at h44
        refine opn (Or.inl a2) ?_
        rw [h44, a2]
      · rw [if_neg (by rw [nI_eq (by omega) (by omega)]; exact a2)] at h44
        by_cases a3 : t i = 33
        · rw [a3, if_neg (fun z => z rfl)] at h44
          refine opn (Or.inr a3) ?_
          rw [h44, a3]
        · rw [if_pos (by rw [ne_eq, nI_eq (by omega) (by omega)]; exact a3)] at h44
          rw [if_neg (by omega)] at wr1
          by_cases a4 : tpn_ l = true
          · rw [if_pos a4] at wr1
            rw [a4, if_neg (by decide)] at h44
            exact stop h44 wr1
          · rw [if_neg a4] at wr1
            rw [Bool.eq_false_iff.mpr a4, if_pos b2f_] at h44
            by_cases a5 : t i = 41
            · rw [if_pos a5] at wr1
              rw [a5, if_neg (fun z => z rfl)] at h44
              by_cases a6 : l.length = 0
              · rw [if_pos a6] at wr1
                rw [if_neg (fun z => z (by rw [a6]))] at h44
                exact stop h44 wr1
              · rw [if_neg a6] at wr1
                rw [if_pos (by rw [ne_eq, nI_eq (by omega) (by omega)]; exact a6), pk_sub (by omega)] at h44
                have hp : (ptl_ l).length = l.length - 1 ∧ wls_ D (ptl_ l) := by
                  match l, hw with
                  | [], _ => exact ⟨rfl, trivial⟩
                  | x :: l, hw => exact ⟨(Nat.add_sub_cancel (n := l.length) (m := 1)).symm, hw.2⟩
                rw [← hp.1, e152_0, x152 (by omega) hp.2, op_os, op_vIs] at h44
                exact go (clo_ (ptl_ l)) true D (Nat.le_trans (clo_le _) (by omega)) (wls_clo hp.2) hy (sx_r _ _) h44 wr1
            · rw [if_neg a5] at wr1
              rw [if_pos (by rw [ne_eq, nI_eq (by omega) (by omega)]; exact a5)] at h44
              by_cases a6 : t i = 124
              · rw [if_pos (Or.inl a6)] at wr1
                rw [a6, if_pos rfl, e151_164] at h44
                exact go l false D hl hw hy (sx_r _ _) h44 wr1
              · rw [if_neg (by rw [nI_eq (by omega) (by omega)]; exact a6)] at h44
                by_cases a7 : t i = 38
                · rw [if_pos (Or.inr a7)] at wr1
                  rw [a7, if_neg (fun z => z rfl), e151_164] at h44
                  exact go l false D hl hw hy (sx_r _ _) h44 wr1
                · rw [if_neg (by omega)] at wr1
                  rw [if_pos (by rw [ne_eq, nI_eq (by omega) (by omega)]; exact a7), x149 hb, op_os, op_vIs] at h44
                  by_cases a8 : ips_ (t i) = true
                  · rw [a8, if_neg (by decide)] at h44
                    cases b
                    · rw [if_neg (fun z => absurd z.2 Bool.false_ne_true)] at wr1
                      rw [if_neg (fun z => z rfl)] at h44
                      exact stop h44 wr1
                    · rw [if_pos ⟨a8, rfl⟩] at wr1
                      rw [if_pos (by decide)] at h44
                      exact go l true D hl hw hy (sx_r _ _) h44 wr1
                  · rw [if_neg (fun z => a8 z.1)] at wr1
                    rw [Bool.eq_false_iff.mpr a8, if_pos b2f_] at h44
                    exact stop h44 wr1
end
