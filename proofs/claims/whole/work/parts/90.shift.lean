/-! THE REFERENCE reads, in pure form -/
abbrev f3_ : Type := Option ma_ × Option ma_ × Option ma_
abbrev zs_ : Type := f3_ × Option ma_ × Nat × List (f3_ × Nat)
noncomputable def flu_ (R C : Option ma_) : Option (Option ma_) := match C with
  | none => some R
  | some c => match R with
    | none => some (some c)
    | some r => (jo_ 4 r c).bind fun x => some (some x)
noncomputable def jn_ (h : Nat) (A : Option ma_) (r : ma_) : Option ma_ := match A with
  | none => some r
  | some a => jo_ h a r
noncomputable def rov_ (k : Nat) (R C : Option ma_) : Option ma_ := (flu_ R C).bind fun R' => some (R'.getD (ep_ k))
noncomputable def anv_ (k : Nat) (A R C : Option ma_) : Option ma_ := (rov_ k R C).bind (jn_ 0 A)
noncomputable def orv_ (k : Nat) (O A R C : Option ma_) : Option ma_ := (anv_ k A R C).bind (jn_ 1 O)
noncomputable def nots_ : Nat → ma_ → Option ma_
  | 0, V => some V
  | q + 1, V => (jo_ 7 V V).bind (nots_ q)
noncomputable def zst_ (k c : Nat) (s : zs_) : Option zs_ :=
  if ipl_ k c = true then (flu_ s.1.2.2 s.2.1).bind fun R' => (nots_ s.2.2.1 (lv_ k c)).bind fun V => some ((s.1.1, s.1.2.1, R'), some V, 0, s.2.2.2)
  else if c = 40 then (flu_ s.1.2.2 s.2.1).bind fun R' => some ((none, none, none), none, 0, ((s.1.1, s.1.2.1, R'), s.2.2.1) :: s.2.2.2)
  else if c = 33 then (flu_ s.1.2.2 s.2.1).bind fun R' => some ((s.1.1, s.1.2.1, R'), none, s.2.2.1 + 1, s.2.2.2)
  else if c = 41 then (match s.2.2.2 with
    | [] => none
    | p :: fs => (orv_ k s.1.1 s.1.2.1 s.1.2.2 s.2.1).bind fun V => (nots_ p.2 V).bind fun V' => some (p.1, some V', 0, fs))
  else if c = 124 then (orv_ k s.1.1 s.1.2.1 s.1.2.2 s.2.1).bind fun V => some ((some V, none, none), none, s.2.2.1, s.2.2.2)
  else if c = 38 then (anv_ k s.1.2.1 s.1.2.2 s.2.1).bind fun V => some ((s.1.1, some V, none), none, s.2.2.1, s.2.2.2)
  else if c = 42 then (on_ 5 s.2.1).bind fun V => some (s.1, some V, s.2.2.1, s.2.2.2)
  else if c = 43 then (ob_ 4 s.2.1 (on_ 5 s.2.1)).bind fun V => some (s.1, some V, s.2.2.1, s.2.2.2)
  else (ob_ 1 s.2.1 (some (ep_ k))).bind fun V => some (s.1, some V, s.2.2.1, s.2.2.2)
/-- where such a step may be done -/
def zg_ (k c : Nat) (s : zs_) : Prop := (c = 40 → s.2.2.2.length < 30) ∧ (c = 33 → s.2.2.1 < 30) ∧ (c = 41 → s.2.2.2.length ≠ 0) ∧ (c = 42 ∨ c = 43 ∨ c = 63 → s.2.1 ≠ none) ∧ (ipl_ k c = true ∨ c = 40 ∨ c = 33 ∨ c = 41 ∨ c = 124 ∨ c = 38 ∨ c = 42 ∨ c = 43 ∨ c = 63)
def zn_ (k : Nat) (t : Nat → Nat) : Nat → Nat → zs_ → Option zs_ → Prop
  | 0, _, s, r => r = some s
  | c + 1, i, s, r => zg_ k (t i) s ∧ ((zst_ k (t i) s = none ∧ r = none) ∨ ∃ s', zst_ k (t i) s = some s' ∧ zn_ k t c (i + 1) s' r)
def zn2_ (k : Nat) (t : Nat → Nat) (i j : Nat) (s : zs_) (r : Option zs_) : Prop := i ≤ j ∧ zn_ k t (j - i) i s r
section
variable {n k : Nat} {t : Nat → Nat} {i j l : Nat} {s s' : zs_} {r : Option zs_} {u : Nat}
theorem zn_0 : zn2_ k t i i s (some s) := ⟨Nat.le_refl i, by rw [Nat.sub_self]; rfl⟩
theorem zn_1 (h : zg_ k (t i) s) (e : zst_ k (t i) s = some s') (g : zn2_ k t (i + 1) j s' r) : zn2_ k t i j s r := by
  obtain ⟨g1, g2⟩ := g
  refine ⟨by omega, ?_⟩
  rw [show j - i = j - (i + 1) + 1 by omega]
  exact ⟨h, Or.inr ⟨s', e, g2⟩⟩
theorem zn_d (h : zg_ k (t i) s) (e : zst_ k (t i) s = none) (hj : i + 1 ≤ j) : zn2_ k t i j s none := by
  refine ⟨by omega, ?_⟩
  rw [show j - i = j - (i + 1) + 1 by omega]
  exact ⟨h, Or.inl ⟨e, rfl⟩⟩
theorem zn_a : ∀ {a b i : Nat} {s : zs_}, zn_ k t a i s (some s') → zn_ k t b (i + a) s' r → zn_ k t (a + b) i s r
  | 0, b, i, s, h, g => by
    cases h
    rw [Nat.zero_add]
    exact g
  | a + 1, b, i, s, h, g => by
    rw [show a + 1 + b = a + b + 1 by omega]
    obtain ⟨h1, ⟨_, z⟩ | ⟨s1, e1, h2⟩⟩ := h
    · cases z
    · refine ⟨h1, Or.inr ⟨s1, e1, zn_a h2 ?_⟩⟩
      rw [show i + 1 + a = i + (a + 1) by omega]
      exact g
theorem zn_n : ∀ {a b i : Nat} {s : zs_}, zn_ k t a i s none → zn_ k t (a + b) i s none
  | 0, b, i, s, h => by cases h
  | a + 1, b, i, s, h => by
    rw [show a + 1 + b = a + b + 1 by omega]
    obtain ⟨h1, ⟨e, _⟩ | ⟨s1, e1, h2⟩⟩ := h
    · exact ⟨h1, Or.inl ⟨e, rfl⟩⟩
    · exact ⟨h1, Or.inr ⟨s1, e1, zn_n h2⟩⟩
theorem zn_t (h : zn2_ k t i j s (some s')) (g : zn2_ k t j l s' r) : zn2_ k t i l s r := by
  have h1 := h.1
  have g1 := g.1
  refine ⟨by omega, ?_⟩
  rw [show l - i = (j - i) + (l - j) by omega]
  refine zn_a h.2 ?_
  rw [show i + (j - i) = j by omega]
  exact g.2
theorem zn_x (h : zn2_ k t i j s none) (g : j ≤ l) : zn2_ k t i l s none := by
  have h1 := h.1
  refine ⟨by omega, ?_⟩
  rw [show l - i = (j - i) + (l - j) by omega]
  exact zn_n h.2
/-- one step, alive or not -/
theorem zn_s (h : zg_ k (t i) s) : zn2_ k t i (i + 1) s (zst_ k (t i) s) := by
  cases e : zst_ k (t i) s with
  | none => exact zn_d h e (Nat.le_refl _)
  | some s' => exact zn_1 h e zn_0
end
section
variable (n k : Nat) (t : Nat → Nat) (u : Nat)
/-- alive with a value, or out of room -/
def zR_ (i j : Nat) (s : zs_) (v : Option ma_) (Q : zs_ → Prop) : Prop := (v = none ∧ zn2_ k t i j s none) ∨ ∃ s', zn2_ k t i j s (some s') ∧ Q s'
def C0_ : Prop := ∀ (o i j : Nat) (v : Option ma_) (fs : List (f3_ × Nat)), fs.length ≤ o → o ≤ 30 → i ≤ n → pzr_ n k t u 0 o i none = some (.inr (j, v)) → zR_ k t i j ((none, none, none), none, 0, fs) v (fun s => ∃ O A R C, s = ((O, A, R), C, 0, fs) ∧ orv_ k O A R C = v)
def C1_ : Prop := ∀ (o i j : Nat) (a v : Option ma_) (O A R C : Option ma_) (fs : List (f3_ × Nat)), fs.length ≤ o → o ≤ 30 → i ≤ n → orv_ k O A R C = a → pzr_ n k t u 1 o i a = some (.inr (j, v)) → zR_ k t i j ((O, A, R), C, 0, fs) v (fun s => ∃ O A R C, s = ((O, A, R), C, 0, fs) ∧ orv_ k O A R C = v)
def C2_ : Prop := ∀ (o i j : Nat) (v : Option ma_) (O : Option ma_) (fs : List (f3_ × Nat)), fs.length ≤ o → o ≤ 30 → i ≤ n → pzr_ n k t u 2 o i none = some (.inr (j, v)) → zR_ k t i j ((O, none, none), none, 0, fs) v (fun s => ∃ A R C, s = ((O, A, R), C, 0, fs) ∧ anv_ k A R C = v)
def C3_ : Prop := ∀ (o i j : Nat) (a v : Option ma_) (O A R C : Option ma_) (fs : List (f3_ × Nat)), fs.length ≤ o → o ≤ 30 → i ≤ n → anv_ k A R C = a → pzr_ n k t u 3 o i a = some (.inr (j, v)) → zR_ k t i j ((O, A, R), C, 0, fs) v (fun s => ∃ A R C, s = ((O, A, R), C, 0, fs) ∧ anv_ k A R C = v)
def C4_ : Prop := ∀ (o i j : Nat) (v : Option ma_) (O A : Option ma_) (fs : List (f3_ × Nat)), fs.length ≤ o → o ≤ 30 → i ≤ n → pzr_ n k t u 4 o i none = some (.inr (j, v)) → zR_ k t i j ((O, A, none), none, 0, fs) v (fun s => ∃ R C, s = ((O, A, R), C, 0, fs) ∧ rov_ k R C = v)
def C5_ : Prop := ∀ (o i j : Nat) (a v : Option ma_) (O A R : Option ma_) (c : ma_) (fs : List (f3_ × Nat)), fs.length ≤ o → o ≤ 30 → i ≤ n → rov_ k R (some c) = a → pzr_ n k t u 5 o i a = some (.inr (j, v)) → zR_ k t i j ((O, A, R), some c, 0, fs) v (fun s => ∃ R C, s = ((O, A, R), C, 0, fs) ∧ rov_ k R C = v)
def C6_ : Prop := ∀ (o i j : Nat) (v : Option ma_) (O A R C : Option ma_) (fs : List (f3_ × Nat)), fs.length ≤ o → o ≤ 30 → i ≤ n → pzr_ n k t u 6 o i none = some (.inr (j, v)) → zn2_ k t i j ((O, A, R), C, 0, fs) ((flu_ R C).bind fun R' => v.bind fun V => some ((O, A, R'), some V, 0, fs))
def C7_ : Prop := ∀ (o i j : Nat) (V : ma_) (v : Option ma_) (O A R : Option ma_) (fs : List (f3_ × Nat)), fs.length ≤ o → o ≤ 30 → i ≤ n → pzr_ n k t u 7 o i (some V) = some (.inr (j, v)) → zn2_ k t i j ((O, A, R), some V, 0, fs) (v.bind fun V' => some ((O, A, R), some V', 0, fs))
def C8_ : Prop := ∀ (o i j q : Nat) (v : Option ma_) (O A R C : Option ma_) (fs : List (f3_ × Nat)), fs.length + q ≤ o → o ≤ 30 → i ≤ n → pzr_ n k t u 8 o i none = some (.inr (j, v)) → zn2_ k t i j ((O, A, R), C, q, fs) ((flu_ R C).bind fun R' => v.bind fun V => (nots_ q V).bind fun V' => some ((O, A, R'), some V', 0, fs))
end
section
variable {n k : Nat} {t : Nat → Nat} {u : Nat}
theorem ob_e (h : Nat) (a : Option ma_) (V : ma_) : ob_ h a (some V) = a.bind (fun A => jo_ h A V) := rfl
theorem C8_s (hk : k ≤ 4) (h0 : C0_ n k t u) (h8 : C8_ n k t u) : C8_ n k t (u + 1) := by
  intro o i j q v O A R C fs hf ho hi h
  rw [pzr_8] at h
  by_cases c : ia_ k (cht_ n t i) = true
  · have hi' := ia_in c
    rw [if_pos c, cht_lt hi'] at h
    rw [cht_lt hi'] at c
    by_cases c1 : (t i = 40 ∨ t i = 33) ∧ 30 ≤ o
    · rw [if_pos c1] at h
      cases h
    · rw [if_neg c1] at h
      by_cases c2 : t i = 40
      · rw [if_pos c2] at h
        rcases bd_s h with ⟨f, e1, z⟩ | ⟨j1, v1, e1, e2⟩
        · cases z
        · have mo : i + 1 ≤ j1 ∧ j1 ≤ n ∧ _ := pzr_mono u 0 (o + 1) (i + 1) none _ hi' e1
          by_cases c3 : cht_ n t j1 = 41
          · obtain ⟨hj, hc⟩ := cht_in c3 (by omega)
            rw [if_pos c3] at e2
            cases e2
            have g : zg_ k (t i) ((O, A, R), C, q, fs) := ⟨fun _ => show fs.length < 30 by omega, fun z => by omega, fun z => by omega, fun z => by omega, by omega⟩
            have e0 : zst_ k (t i) ((O, A, R), C, q, fs) = (flu_ R C).bind fun R' => some ((none, none, none), none, 0, ((O, A, R'), q) :: fs) := by
              unfold zst_
              rw [if_neg (ipl_m hk (by omega)), if_pos c2]
            cases eR : flu_ R C with
            | none =>
              rw [eR] at e0
              exact zn_d g e0 (by omega)
            | some R' =>
              rw [eR] at e0
              refine zn_1 g e0 ?_
              show zn2_ k t (i + 1) (j1 + 1) ((none, none, none), none, 0, ((O, A, R'), q) :: fs) (v.bind fun V => (nots_ q V).bind fun V' => some ((O, A, R'), some V', 0, fs))
              rcases h0 (o + 1) (i + 1) j1 v (((O, A, R'), q) :: fs) (by show fs.length + 1 ≤ o + 1; omega) (by omega) hi' e1 with ⟨z, y⟩ | ⟨s', y, O1, A1, R1, C1, rfl, z⟩
              · rw [z]
                exact zn_x y (Nat.le_succ _)
              · refine zn_t y ?_
                have g2 : zg_ k (t j1) ((O1, A1, R1), C1, 0, ((O, A, R'), q) :: fs) := ⟨fun z => by omega, fun z => by omega, fun _ => show fs.length + 1 ≠ 0 by omega, fun z => by omega, by omega⟩
                have e3 : zst_ k (t j1) ((O1, A1, R1), C1, 0, ((O, A, R'), q) :: fs) = v.bind fun V => (nots_ q V).bind fun V' => some ((O, A, R'), some V', 0, fs) := by
                  unfold zst_
                  rw [if_neg (ipl_m hk (by omega)), if_neg (by omega), if_neg (by omega), if_pos hc]
                  show (orv_ k O1 A1 R1 C1).bind _ = _
                  rw [z]
                rw [← e3]
                exact zn_s g2
          · rw [if_neg c3] at e2
            cases e2
      · rw [if_neg c2] at h
        by_cases c3 : t i = 33
        · rw [if_pos c3] at h
          rcases bd_s h with ⟨f, e1, z⟩ | ⟨j1, v1, e1, e2⟩
          · cases z
          · have mo : i + 1 ≤ j1 ∧ j1 ≤ n ∧ _ := pzr_mono u 8 (o + 1) (i + 1) none _ hi' e1
            cases e2
            have g : zg_ k (t i) ((O, A, R), C, q, fs) := ⟨fun z => by omega, fun _ => show q < 30 by omega, fun z => by omega, fun z => by omega, by omega⟩
            have e0 : zst_ k (t i) ((O, A, R), C, q, fs) = (flu_ R C).bind fun R' => some ((O, A, R'), none, q + 1, fs) := by
              unfold zst_
              rw [if_neg (ipl_m hk (by omega)), if_neg c2, if_pos c3]
            cases eR : flu_ R C with
            | none =>
              rw [eR] at e0
              exact zn_d g e0 (by omega)
            | some R' =>
              rw [eR] at e0
              refine zn_1 g e0 ?_
              have := h8 (o + 1) (i + 1) j (q + 1) v1 O A R' none fs (by omega) (by omega) hi' e1
              have e4 : ((flu_ R' none).bind fun R'' => v1.bind fun V => (nots_ (q + 1) V).bind fun V' => some ((O, A, R''), some V', 0, fs)) = ((some R').bind fun R' => (on_ 7 v1).bind fun V => (nots_ q V).bind fun V' => some (((O, A, R'), some V', 0, fs) : zs_)) := by
                cases v1 with
                | none => rfl
                | some V =>
                  show ((jo_ 7 V V).bind (nots_ q)).bind (fun V' => some (((O, A, R'), some V', 0, fs) : zs_)) = (jo_ 7 V V).bind fun V => (nots_ q V).bind fun V' => some ((O, A, R'), some V', 0, fs)
                  cases jo_ 7 V V with
                  | none => rfl
                  | some X => rfl
              rw [← e4]
              exact this
        · rw [if_neg c3] at h
          cases h
          rcases ia_t c with z | z | z
          · exact absurd z c2
          · exact absurd z c3
          · have p := ipl_n hk z
            have g : zg_ k (t i) ((O, A, R), C, q, fs) := ⟨fun z => by omega, fun z => by omega, fun z => by omega, fun z => by omega, Or.inl z⟩
            have e0 : zst_ k (t i) ((O, A, R), C, q, fs) = ((flu_ R C).bind fun R' => (some (lv_ k (t i))).bind fun V => (nots_ q V).bind fun V' => some ((O, A, R'), some V', 0, fs)) := by
              unfold zst_
              rw [if_pos z]
              rfl
            rw [← e0]
            exact zn_s g
  · rw [if_neg c] at h
    cases h
theorem C7_s (hk : k ≤ 4) (h7 : C7_ n k t u) : C7_ n k t (u + 1) := by
  intro o i j V v O A R fs hf ho hi h
  rw [pzr_7] at h
  have go : ∀ a', i < n → (t i = 42 ∨ t i = 43 ∨ t i = 63) → zst_ k (t i) ((O, A, R), some V, 0, fs) = a'.bind (fun V' => some ((O, A, R), some V', 0, fs)) → pzr_ n k t u 7 o (i + 1) a' = some (.inr (j, v)) → zn2_ k t i j ((O, A, R), some V, 0, fs) (v.bind fun V' => some ((O, A, R), some V', 0, fs)) := by
    intro a' hl hc e0 h
    have mo : i + 1 ≤ j ∧ j ≤ n ∧ _ := pzr_mono u 7 o (i + 1) a' _ hl h
    have g : zg_ k (t i) ((O, A, R), some V, 0, fs) := ⟨fun z => by omega, fun z => by omega, fun z => by omega, fun z => fun y => (by cases y), by omega⟩
    cases a' with
    | none =>
      rw [pzr_none u 7 o (i + 1) j v (by omega) h]
      exact zn_d g e0 mo.1
    | some V' => exact zn_1 g e0 (h7 o (i + 1) j V' v O A R fs hf ho hl h)
  by_cases c : cht_ n t i = 42
  · obtain ⟨hl, hc⟩ := cht_in c (by omega)
    rw [if_pos c] at h
    refine go _ hl (by omega) ?_ h
    unfold zst_
    rw [if_neg (ipl_m hk (by omega)), if_neg (by omega), if_neg (by omega), if_neg (by omega), if_neg (by omega), if_neg (by omega), if_pos hc]
  · rw [if_neg c] at h
    by_cases c1 : cht_ n t i = 43
    · obtain ⟨hl, hc⟩ := cht_in c1 (by omega)
      rw [if_pos c1] at h
      refine go _ hl (by omega) ?_ h
      unfold zst_
      rw [if_neg (ipl_m hk (by omega)), if_neg (by omega), if_neg (by omega), if_neg (by omega), if_neg (by omega), if_neg (by omega), if_neg (by omega), if_pos hc]
    · rw [if_neg c1] at h
      by_cases c2 : cht_ n t i = 63
      · obtain ⟨hl, hc⟩ := cht_in c2 (by omega)
        rw [if_pos c2] at h
        refine go _ hl (by omega) ?_ h
        unfold zst_
        rw [if_neg (ipl_m hk (by omega)), if_neg (by omega), if_neg (by omega), if_neg (by omega), if_neg (by omega), if_neg (by omega), if_neg (by omega), if_neg (by omega)]
      · rw [if_neg c2] at h
        cases h
        exact zn_0
theorem C6_s (h8 : C8_ n k t u) (h7 : C7_ n k t u) : C6_ n k t (u + 1) := by
  intro o i j v O A R C fs hf ho hi h
  rw [pzr_6] at h
  rcases bd_s h with ⟨f, e1, z⟩ | ⟨j1, v1, e1, e2⟩
  · cases z
  · have mo : i ≤ j1 ∧ j1 ≤ n ∧ _ := pzr_mono u 8 o i none _ hi e1
    have mo2 : j1 ≤ j ∧ j ≤ n ∧ _ := pzr_mono u 7 o j1 v1 _ mo.2.1 e2
    have q := h8 o i j1 0 v1 O A R C fs (by omega) ho hi e1
    cases eR : flu_ R C with
    | none =>
      rw [eR] at q
      exact zn_x q mo2.1
    | some R' =>
      rw [eR] at q
      cases v1 with
      | none =>
        rw [pzr_none u 7 o j1 j v (by omega) e2]
        exact zn_x q mo2.1
      | some V => exact zn_t q (h7 o j1 j V v O A R' fs hf ho mo.2.1 e2)
theorem C5_s (h6 : C6_ n k t u) (h5 : C5_ n k t u) : C5_ n k t (u + 1) := by
  intro o i j a v O A R c fs hf ho hi ha h
  rw [pzr_5] at h
  by_cases b : ia_ k (cht_ n t i) = true
  · rw [if_pos b] at h
    rcases bd_s h with ⟨f, e1, z⟩ | ⟨j1, v1, e1, e2⟩
    · cases z
    · have mo : i ≤ j1 ∧ j1 ≤ n ∧ _ := pzr_mono u 6 o i none _ hi e1
      have mo2 : j1 ≤ j ∧ j ≤ n ∧ _ := pzr_mono u 5 o j1 _ _ mo.2.1 e2
      have q := h6 o i j1 v1 O A R (some c) fs hf ho hi e1
      unfold rov_ at ha
      cases eR : flu_ R (some c) with
      | none =>
        rw [eR] at q ha
        have ha' : a = none := ha.symm
        rw [ha', ob_n] at e2
        exact Or.inl ⟨pzr_none u 5 o j1 j v (by omega) e2, zn_x q mo2.1⟩
      | some R' =>
        rw [eR] at q ha
        cases v1 with
        | none =>
          rw [ob_n2] at e2
          exact Or.inl ⟨pzr_none u 5 o j1 j v (by omega) e2, zn_x q mo2.1⟩
        | some V =>
          have hR' : ∃ r, R' = some r := by
            cases R with
            | none => exact ⟨c, (Option.some.inj eR).symm⟩
            | some x =>
              have e : ((jo_ 4 x c).bind fun x => some (some x)) = some R' := eR
              cases hj : jo_ 4 x c with
              | none =>
                rw [hj] at e
                cases e
              | some y =>
                rw [hj] at e
                exact ⟨y, (Option.some.inj e).symm⟩
          obtain ⟨r, rfl⟩ := hR'
          have ha' : a = some r := ha.symm
          have := h5 o j1 j _ v O A (some r) V fs hf ho mo.2.1 (by
            rw [ha', ob_s]
            show (((jo_ 4 r V).bind fun x => some (some x)).bind fun R' => some (R'.getD (ep_ k))) = jo_ 4 r V
            cases jo_ 4 r V with
            | none => rfl
            | some x => rfl) e2
          rcases this with ⟨z, y⟩ | ⟨s', y, z⟩
          · exact Or.inl ⟨z, zn_t q y⟩
          · exact Or.inr ⟨s', zn_t q y, z⟩
  · rw [if_neg b] at h
    cases h
    exact Or.inr ⟨_, zn_0, R, some c, rfl, ha⟩
theorem C4_s (h6 : C6_ n k t u) (h5 : C5_ n k t u) : C4_ n k t (u + 1) := by
  intro o i j v O A fs hf ho hi h
  rw [pzr_4] at h
  by_cases b : ia_ k (cht_ n t i) = true
  · rw [if_pos b] at h
    rcases bd_s h with ⟨f, e1, z⟩ | ⟨j1, v1, e1, e2⟩
    · cases z
    · have mo : i ≤ j1 ∧ j1 ≤ n ∧ _ := pzr_mono u 6 o i none _ hi e1
      have mo2 : j1 ≤ j ∧ j ≤ n ∧ _ := pzr_mono u 5 o j1 _ _ mo.2.1 e2
      have q := h6 o i j1 v1 O A none none fs hf ho hi e1
      cases v1 with
      | none => exact Or.inl ⟨pzr_none u 5 o j1 j v (by omega) e2, zn_x q mo2.1⟩
      | some V =>
        rcases h5 o j1 j _ v O A none V fs hf ho mo.2.1 rfl e2 with ⟨z, y⟩ | ⟨s', y, z⟩
        · exact Or.inl ⟨z, zn_t q y⟩
        · exact Or.inr ⟨s', zn_t q y, z⟩
  · rw [if_neg b] at h
    cases h
    exact Or.inr ⟨_, zn_0, none, none, rfl, rfl⟩
theorem C3_s (hk : k ≤ 4) (h4 : C4_ n k t u) (h3 : C3_ n k t u) : C3_ n k t (u + 1) := by
  intro o i j a v O A R C fs hf ho hi ha h
  rw [pzr_3] at h
  by_cases b : cht_ n t i = 38
  · obtain ⟨hl, hc⟩ := cht_in b (by omega)
    rw [if_pos b] at h
    rcases bd_s h with ⟨f, e1, z⟩ | ⟨j1, v1, e1, e2⟩
    · cases z
    · have mo : i + 1 ≤ j1 ∧ j1 ≤ n ∧ _ := pzr_mono u 4 o (i + 1) none _ hl e1
      have mo2 : j1 ≤ j ∧ j ≤ n ∧ _ := pzr_mono u 3 o j1 _ _ mo.2.1 e2
      have g : zg_ k (t i) ((O, A, R), C, 0, fs) := ⟨fun z => by omega, fun z => by omega, fun z => by omega, fun z => by omega, by omega⟩
      have e0 : zst_ k (t i) ((O, A, R), C, 0, fs) = a.bind fun V => some ((O, some V, none), none, 0, fs) := by
        unfold zst_
        rw [if_neg (ipl_m hk (by omega)), if_neg (by omega), if_neg (by omega), if_neg (by omega), if_neg (by omega), if_pos hc]
        show (anv_ k A R C).bind _ = _
        rw [ha]
      cases a with
      | none => exact Or.inl ⟨pzr_none u 3 o j1 j v (by omega) e2, zn_d g e0 (by omega)⟩
      | some V =>
        rcases h4 o (i + 1) j1 v1 O (some V) fs hf ho hl e1 with ⟨z, y⟩ | ⟨s', y, R', C', rfl, z⟩
        · rw [z, ob_n2] at e2
          exact Or.inl ⟨pzr_none u 3 o j1 j v (by omega) e2, zn_1 g e0 (zn_x y mo2.1)⟩
        · have := h3 o j1 j _ v O (some V) R' C' fs hf ho mo.2.1 (by
            unfold anv_
            rw [z]
            rfl) e2
          rcases this with ⟨z, x⟩ | ⟨s', x, z⟩
          · exact Or.inl ⟨z, zn_1 g e0 (zn_t y x)⟩
          · exact Or.inr ⟨s', zn_1 g e0 (zn_t y x), z⟩
  · rw [if_neg b] at h
    cases h
    exact Or.inr ⟨_, zn_0, A, R, C, rfl, ha⟩
theorem C1_s (hk : k ≤ 4) (h2 : C2_ n k t u) (h1 : C1_ n k t u) : C1_ n k t (u + 1) := by
  intro o i j a v O A R C fs hf ho hi ha h
  rw [pzr_1] at h
  by_cases b : cht_ n t i = 124
  · obtain ⟨hl, hc⟩ := cht_in b (by omega)
    rw [if_pos b] at h
    rcases bd_s h with ⟨f, e1, z⟩ | ⟨j1, v1, e1, e2⟩
    · cases z
    · have mo : i + 1 ≤ j1 ∧ j1 ≤ n ∧ _ := pzr_mono u 2 o (i + 1) none _ hl e1
      have mo2 : j1 ≤ j ∧ j ≤ n ∧ _ := pzr_mono u 1 o j1 _ _ mo.2.1 e2
      have g : zg_ k (t i) ((O, A, R), C, 0, fs) := ⟨fun z => by omega, fun z => by omega, fun z => by omega, fun z => by omega, by omega⟩
      have e0 : zst_ k (t i) ((O, A, R), C, 0, fs) = a.bind fun V => some ((some V, none, none), none, 0, fs) := by
        unfold zst_
        rw [if_neg (ipl_m hk (by omega)), if_neg (by omega), if_neg (by omega), if_neg (by omega), if_pos hc]
        show (orv_ k O A R C).bind _ = _
        rw [ha]
      cases a with
      | none => exact Or.inl ⟨pzr_none u 1 o j1 j v (by omega) e2, zn_d g e0 (by omega)⟩
      | some V =>
        rcases h2 o (i + 1) j1 v1 (some V) fs hf ho hl e1 with ⟨z, y⟩ | ⟨s', y, A', R', C', rfl, z⟩
        · rw [z, ob_n2] at e2
          exact Or.inl ⟨pzr_none u 1 o j1 j v (by omega) e2, zn_1 g e0 (zn_x y mo2.1)⟩
        · have := h1 o j1 j _ v (some V) A' R' C' fs hf ho mo.2.1 (by
            unfold orv_
            rw [z]
            rfl) e2
          rcases this with ⟨z, x⟩ | ⟨s', x, z⟩
          · exact Or.inl ⟨z, zn_1 g e0 (zn_t y x)⟩
          · exact Or.inr ⟨s', zn_1 g e0 (zn_t y x), z⟩
  · rw [if_neg b] at h
    cases h
    exact Or.inr ⟨_, zn_0, O, A, R, C, rfl, ha⟩
theorem bd_r {x : Option ma_} : x.bind (jn_ 0 none) = x ∧ x.bind (jn_ 1 none) = x := by
  cases x
  · exact ⟨rfl, rfl⟩
  · exact ⟨rfl, rfl⟩
theorem C2_s (h4 : C4_ n k t u) (h3 : C3_ n k t u) : C2_ n k t (u + 1) := by
  intro o i j v O fs hf ho hi h
  rw [pzr_2] at h
  rcases bd_s h with ⟨f, e1, z⟩ | ⟨j1, v1, e1, e2⟩
  · cases z
  · have mo : i ≤ j1 ∧ j1 ≤ n ∧ _ := pzr_mono u 4 o i none _ hi e1
    have mo2 : j1 ≤ j ∧ j ≤ n ∧ _ := pzr_mono u 3 o j1 _ _ mo.2.1 e2
    rcases h4 o i j1 v1 O none fs hf ho hi e1 with ⟨z, y⟩ | ⟨s', y, R', C', rfl, z⟩
    · rw [z] at e2
      exact Or.inl ⟨pzr_none u 3 o j1 j v (by omega) e2, zn_x y mo2.1⟩
    · have := h3 o j1 j _ v O none R' C' fs hf ho mo.2.1 (by
        unfold anv_
        rw [z]
        exact bd_r.1) e2
      rcases this with ⟨z, x⟩ | ⟨s', x, z⟩
      · exact Or.inl ⟨z, zn_t y x⟩
      · exact Or.inr ⟨s', zn_t y x, z⟩
theorem C0_s (h2 : C2_ n k t u) (h1 : C1_ n k t u) : C0_ n k t (u + 1) := by
  intro o i j v fs hf ho hi h
  rw [pzr_0] at h
  rcases bd_s h with ⟨f, e1, z⟩ | ⟨j1, v1, e1, e2⟩
  · cases z
  · have mo : i ≤ j1 ∧ j1 ≤ n ∧ _ := pzr_mono u 2 o i none _ hi e1
    have mo2 : j1 ≤ j ∧ j ≤ n ∧ _ := pzr_mono u 1 o j1 _ _ mo.2.1 e2
    rcases h2 o i j1 v1 none fs hf ho hi e1 with ⟨z, y⟩ | ⟨s', y, A', R', C', rfl, z⟩
    · rw [z] at e2
      exact Or.inl ⟨pzr_none u 1 o j1 j v (by omega) e2, zn_x y mo2.1⟩
    · have := h1 o j1 j _ v none A' R' C' fs hf ho mo.2.1 (by
        unfold orv_
        rw [z]
        exact bd_r.2) e2
      rcases this with ⟨z, x⟩ | ⟨s', x, z⟩
      · exact Or.inl ⟨z, zn_t y x⟩
      · exact Or.inr ⟨s', zn_t y x, z⟩
theorem C_all (hk : k ≤ 4) : ∀ u, (C0_ n k t u ∧ C1_ n k t u ∧ C2_ n k t u) ∧ (C3_ n k t u ∧ C4_ n k t u ∧ C5_ n k t u) ∧ (C6_ n k t u ∧ C7_ n k t u ∧ C8_ n k t u)
  | 0 => by
    refine ⟨⟨?_, ?_, ?_⟩, ⟨?_, ?_, ?_⟩, ⟨?_, ?_, ?_⟩⟩
    · intro o i j v fs _ _ _ h
      cases h
    · intro o i j a v O A R C fs _ _ _ _ h
      cases h
    · intro o i j v O fs _ _ _ h
      cases h
    · intro o i j a v O A R C fs _ _ _ _ h
      cases h
    · intro o i j v O A fs _ _ _ h
      cases h
    · intro o i j a v O A R c fs _ _ _ _ h
      cases h
    · intro o i j v O A R C fs _ _ _ h
      cases h
    · intro o i j V v O A R fs _ _ _ h
      cases h
    · intro o i j q v O A R C fs _ _ _ h
      cases h
  | u + 1 => by
    obtain ⟨⟨a0, a1, a2⟩, ⟨a3, a4, a5⟩, ⟨a6, a7, a8⟩⟩ := C_all hk u
    exact ⟨⟨C0_s a2 a1, C1_s hk a2 a1, C2_s a4 a3⟩, ⟨C3_s hk a4 a3, C4_s a6 a5, C5_s a6 a5⟩, ⟨C6_s a8 a7, C7_s hk a7, C8_s hk a0 a8⟩⟩
/-- the whole run -/
theorem zr_all (hk : k ≤ 4) {v : Option ma_} (h : pzr_ n k t u 0 0 0 none = some (.inr (n, v))) : zR_ k t 0 n ((none, none, none), none, 0, []) v (fun s => ∃ O A R C, s = ((O, A, R), C, 0, []) ∧ orv_ k O A R C = v) := (C_all hk u).1.1 0 0 n v [] (Nat.le_refl 0) (by omega) (Nat.zero_le n) h
end
