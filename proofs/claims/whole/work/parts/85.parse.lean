/-! READING, in pure form -/
/-- a good machine for letters k -/
def vok_ (k : Nat) (M : ma_) : Prop := wm_ M ∧ M.2.1 ≤ 60 ∧ M.1 = k
theorem jm_k {h : Nat} {A B : ma_} (hh : h < 8) (wA : wm_ A) (hk : A.1 = B.1) : (qm_ (jm_ h A B)).1 = A.1 := by
  show (jm_ h A B).1 = A.1
  by_cases z : h < 4
  · rw [jm_0 z]
    show km_ A B = A.1
    unfold km_
    omega
  · rcases (show h = 4 ∨ h = 5 ∨ h = 6 ∨ h = 7 by omega) with rfl | rfl | rfl | rfl
    · rw [jm_4]
      rfl
    · rw [jm_5]
      rfl
    · rw [jm_6]
      rfl
    · rw [jm_7]
      show km_ e1_ A = A.1
      have : e1_.1 = 4 := rfl
      have := wA.1.2
      unfold km_
      omega
noncomputable def jo_ (h : Nat) (A B : ma_) : Option ma_ := @ite (Option ma_) (jok_ h A B) (Classical.propDecidable _) (some (qm_ (jm_ h A B))) none
theorem jo_t {h : Nat} {A B : ma_} (z : jok_ h A B) : jo_ h A B = some (qm_ (jm_ h A B)) := if_pos z
theorem jo_f {h : Nat} {A B : ma_} (z : ¬ jok_ h A B) : jo_ h A B = none := if_neg z
theorem jo_ok {h k : Nat} {A B M : ma_} (hh : h < 8) (hA : vok_ k A) (hB : vok_ k B) (e : jo_ h A B = some M) : vok_ k M := by
  by_cases z : jok_ h A B
  · rw [jo_t z] at e
    cases e
    exact ⟨qm_wm (jm_w hh hA.1 hB.1 hA.2.1 hB.2.1 z.1).1, z.2, (jm_k hh hA.1 (hA.2.2.trans hB.2.2.symm)).trans hA.2.2⟩
  · rw [jo_f z] at e
    cases e
noncomputable def ob_ (h : Nat) (a b : Option ma_) : Option ma_ := a.bind fun A => b.bind fun B => jo_ h A B
noncomputable def on_ (h : Nat) (a : Option ma_) : Option ma_ := a.bind fun A => jo_ h A A
theorem ob_n {h : Nat} {b : Option ma_} : ob_ h none b = none := rfl
theorem ob_n2 {h : Nat} {a : Option ma_} : ob_ h a none = none := by
  cases a
  · rfl
  · rfl
theorem ob_s {h : Nat} {A B : ma_} : ob_ h (some A) (some B) = jo_ h A B := rfl
theorem on_n {h : Nat} : on_ h none = none := rfl
theorem on_s {h : Nat} {A : ma_} : on_ h (some A) = jo_ h A A := rfl
/-- the word without letters -/
def ep_ (k : Nat) : ma_ := (k, 2, 0, fun _ _ => 1, fun p => decide (p = 0))
/-- nothing -/
def zo_ (k : Nat) : ma_ := (k, 1, 0, fun _ _ => 0, fun _ => false)
/-- a letter, or any, by three states -/
def l3_ (k c : Nat) : ma_ := (k, 3, 0, fun p l => if p = 0 ∧ (c = 46 ∨ c = 97 + l) then 1 else 2, fun p => decide (p = 1))
noncomputable def lv_ (k c : Nat) : ma_ := if c = 48 then zo_ k else qm_ (lfm_ (l3_ k c))
theorem ep_ok {k : Nat} (hk : 1 ≤ k ∧ k ≤ 4) : vok_ k (ep_ k) := by
  exact ⟨⟨hk, show 1 ≤ 2 by omega, show 0 < 2 by omega, fun _ _ _ _ => Nat.one_lt_two⟩, show 2 ≤ 60 by omega, rfl⟩
theorem l3_w {k c : Nat} (hk : 1 ≤ k ∧ k ≤ 4) : wm_ (l3_ k c) := by
  refine ⟨hk, show 1 ≤ 3 by omega, show 0 < 3 by omega, ?_⟩
  intro p l _ _
  show (if p = 0 ∧ (c = 46 ∨ c = 97 + l) then 1 else 2) < 3
  by_cases z : p = 0 ∧ (c = 46 ∨ c = 97 + l)
  · rw [if_pos z]
    omega
  · rw [if_neg z]
    omega
theorem lv_ok {k c : Nat} (hk : 1 ≤ k ∧ k ≤ 4) : vok_ k (lv_ k c) := by
  unfold lv_
  by_cases z : c = 48
  · rw [if_pos z]
    exact ⟨⟨hk, show 1 ≤ 1 by omega, show 0 < 1 by omega, fun _ _ _ _ => show 0 < 1 by omega⟩, show 1 ≤ 60 by omega, rfl⟩
  · rw [if_neg z]
    have h := lfm_wm (l3_w (c := c) hk) (show 3 ≤ 60 by omega)
    exact ⟨qm_wm h.1, lfm_nn (l3_w hk) (show 3 ≤ 60 by omega), rfl⟩
abbrev po_ : Type := Nat ⊕ (Nat × Option ma_)
def bd_ (x : Option po_) (g : Nat → Option ma_ → Option po_) : Option po_ := match x with
  | none => none
  | some (.inl f) => some (.inl f)
  | some (.inr p) => g p.1 p.2
/-- the character at a place; 0 behind the end -/
def cht_ (n : Nat) (t : Nat → Nat) (i : Nat) : Nat := if i < n then t i else 0
/-- does an atom begin with c? -/
def ia_ (k c : Nat) : Bool := decide (c = 40) || (decide (c = 33) || (decide (c = 46) || (decide (c = 48) || decide (97 ≤ c ∧ c < 97 + k))))
noncomputable def pzr_ (n k : Nat) (t : Nat → Nat) : Nat → Nat → Nat → Nat → Option ma_ → Option po_
  | 0, _, _, _, _ => none
  | u + 1, m, o, i, a => match m with
    | 0 => bd_ (pzr_ n k t u 2 o i none) (fun j v => pzr_ n k t u 1 o j v)
    | 1 => if cht_ n t i = 124 then bd_ (pzr_ n k t u 2 o (i + 1) none) (fun j v => pzr_ n k t u 1 o j (ob_ 1 a v)) else some (.inr (i, a))
    | 2 => bd_ (pzr_ n k t u 4 o i none) (fun j v => pzr_ n k t u 3 o j v)
    | 3 => if cht_ n t i = 38 then bd_ (pzr_ n k t u 4 o (i + 1) none) (fun j v => pzr_ n k t u 3 o j (ob_ 0 a v)) else some (.inr (i, a))
    | 4 => if ia_ k (cht_ n t i) = true then bd_ (pzr_ n k t u 6 o i none) (fun j v => pzr_ n k t u 5 o j v) else some (.inr (i, some (ep_ k)))
    | 5 => if ia_ k (cht_ n t i) = true then bd_ (pzr_ n k t u 6 o i none) (fun j v => pzr_ n k t u 5 o j (ob_ 4 a v)) else some (.inr (i, a))
    | 6 => bd_ (pzr_ n k t u 8 o i none) (fun j v => pzr_ n k t u 7 o j v)
    | 7 => if cht_ n t i = 42 then pzr_ n k t u 7 o (i + 1) (on_ 5 a) else if cht_ n t i = 43 then pzr_ n k t u 7 o (i + 1) (ob_ 4 a (on_ 5 a)) else if cht_ n t i = 63 then pzr_ n k t u 7 o (i + 1) (ob_ 1 a (some (ep_ k))) else some (.inr (i, a))
    | 8 => if ia_ k (cht_ n t i) = true then (if (cht_ n t i = 40 ∨ cht_ n t i = 33) ∧ 30 ≤ o then some (.inl i) else if cht_ n t i = 40 then bd_ (pzr_ n k t u 0 (o + 1) (i + 1) none) (fun j v => if cht_ n t j = 41 then some (.inr (j + 1, v)) else some (.inl j)) else if cht_ n t i = 33 then bd_ (pzr_ n k t u 8 (o + 1) (i + 1) none) (fun j v => some (.inr (j, on_ 7 v))) else some (.inr (i + 1, some (lv_ k (cht_ n t i))))) else some (.inl i)
    | _ => none
section
variable {n k : Nat} {t : Nat → Nat} {u o i : Nat} {a : Option ma_}
theorem pzr_0 : pzr_ n k t (u + 1) 0 o i a = bd_ (pzr_ n k t u 2 o i none) (fun j v => pzr_ n k t u 1 o j v) := rfl
theorem pzr_1 : pzr_ n k t (u + 1) 1 o i a = if cht_ n t i = 124 then bd_ (pzr_ n k t u 2 o (i + 1) none) (fun j v => pzr_ n k t u 1 o j (ob_ 1 a v)) else some (.inr (i, a)) := rfl
theorem pzr_2 : pzr_ n k t (u + 1) 2 o i a = bd_ (pzr_ n k t u 4 o i none) (fun j v => pzr_ n k t u 3 o j v) := rfl
theorem pzr_3 : pzr_ n k t (u + 1) 3 o i a = if cht_ n t i = 38 then bd_ (pzr_ n k t u 4 o (i + 1) none) (fun j v => pzr_ n k t u 3 o j (ob_ 0 a v)) else some (.inr (i, a)) := rfl
theorem pzr_4 : pzr_ n k t (u + 1) 4 o i a = if ia_ k (cht_ n t i) = true then bd_ (pzr_ n k t u 6 o i none) (fun j v => pzr_ n k t u 5 o j v) else some (.inr (i, some (ep_ k))) := rfl
theorem pzr_5 : pzr_ n k t (u + 1) 5 o i a = if ia_ k (cht_ n t i) = true then bd_ (pzr_ n k t u 6 o i none) (fun j v => pzr_ n k t u 5 o j (ob_ 4 a v)) else some (.inr (i, a)) := rfl
theorem pzr_6 : pzr_ n k t (u + 1) 6 o i a = bd_ (pzr_ n k t u 8 o i none) (fun j v => pzr_ n k t u 7 o j v) := rfl
theorem pzr_7 : pzr_ n k t (u + 1) 7 o i a = if cht_ n t i = 42 then pzr_ n k t u 7 o (i + 1) (on_ 5 a) else if cht_ n t i = 43 then pzr_ n k t u 7 o (i + 1) (ob_ 4 a (on_ 5 a)) else if cht_ n t i = 63 then pzr_ n k t u 7 o (i + 1) (ob_ 1 a (some (ep_ k))) else some (.inr (i, a)) := rfl
theorem pzr_8 : pzr_ n k t (u + 1) 8 o i a = if ia_ k (cht_ n t i) = true then (if (cht_ n t i = 40 ∨ cht_ n t i = 33) ∧ 30 ≤ o then some (.inl i) else if cht_ n t i = 40 then bd_ (pzr_ n k t u 0 (o + 1) (i + 1) none) (fun j v => if cht_ n t j = 41 then some (.inr (j + 1, v)) else some (.inl j)) else if cht_ n t i = 33 then bd_ (pzr_ n k t u 8 (o + 1) (i + 1) none) (fun j v => some (.inr (j, on_ 7 v))) else some (.inr (i + 1, some (lv_ k (cht_ n t i))))) else some (.inl i) := rfl
theorem bd_s {x : Option po_} {g : Nat → Option ma_ → Option po_} {r : po_} (h : bd_ x g = some r) : (∃ f, x = some (.inl f) ∧ r = .inl f) ∨ ∃ j v, x = some (.inr (j, v)) ∧ g j v = some r := by
  cases x with
  | none => cases h
  | some y =>
    cases y with
    | inl f =>
      left
      exact ⟨f, rfl, by cases h; rfl⟩
    | inr p => exact Or.inr ⟨p.1, p.2, rfl, h⟩
theorem cht_in {c : Nat} (h : cht_ n t i = c) (hc : c ≠ 0) : i < n ∧ t i = c := by
  unfold cht_ at h
  by_cases z : i < n
  · rw [if_pos z] at h
    exact ⟨z, h⟩
  · rw [if_neg z] at h
    exact absurd h.symm hc
theorem ia_in (h : ia_ k (cht_ n t i) = true) : i < n := by
  by_cases z : i < n
  · exact z
  · unfold cht_ at h
    rw [if_neg z] at h
    have : ∀ k, ia_ k 0 = false := fun k => by
      unfold ia_
      simp
    rw [this] at h
    cases h
theorem bd_i {x : Option po_} {g : Nat → Option ma_ → Option po_} (h : x ≠ none) (h2 : ∀ j v, x = some (.inr (j, v)) → g j v ≠ none) : bd_ x g ≠ none := by
  cases x with
  | none => exact absurd rfl h
  | some y =>
    cases y with
    | inl f =>
      intro q
      cases q
    | inr p => exact h2 p.1 p.2 rfl
/-- where the parts end -/
def pr_ok (n : Nat) (i : Nat) (m : Nat) (r : po_) : Prop := match r with
  | .inl f => f ≤ n
  | .inr p => i ≤ p.1 ∧ p.1 ≤ n ∧ (m = 6 ∨ m = 8 → i < p.1)
theorem pzr_mono : ∀ (u m o i : Nat) (a : Option ma_) (r : po_), i ≤ n → pzr_ n k t u m o i a = some r → pr_ok n i m r
  | 0, m, o, i, a, r, hi, h => by cases h
  | u + 1, m, o, i, a, r, hi, h => by
    have loop : ∀ (i' m1 m2 : Nat) (a' : Option ma_ → Option ma_), i ≤ i' → i' ≤ n → (m ≠ 6 ∧ m ≠ 8) → bd_ (pzr_ n k t u m1 o i' none) (fun j v => pzr_ n k t u m2 o j (a' v)) = some r → pr_ok n i m r := by
      intro i' m1 m2 a' h1 h2 hm h
      rcases bd_s h with ⟨f, e1, rfl⟩ | ⟨j, v, e1, e2⟩
      · exact (pzr_mono u m1 o i' none _ h2 e1 :)
      · have q1 : i' ≤ j ∧ j ≤ n ∧ _ := pzr_mono u m1 o i' none _ h2 e1
        have q2 := pzr_mono u m2 o j (a' v) r q1.2.1 e2
        cases r with
        | inl f => exact q2
        | inr p => exact ⟨Nat.le_trans (Nat.le_trans h1 q1.1) q2.1, q2.2.1, fun z => absurd z (by omega)⟩
    match m, h with
    | 0, h => exact loop i 2 1 (fun v => v) (Nat.le_refl _) hi (by omega) h
    | 1, h =>
      rw [pzr_1] at h
      by_cases c : cht_ n t i = 124
      · rw [if_pos c] at h
        exact loop (i + 1) 2 1 (fun v => ob_ 1 a v) (by omega) (cht_in c (by omega)).1 (by omega) h
      · rw [if_neg c] at h
        cases h
        exact ⟨Nat.le_refl _, hi, fun z => absurd z (by omega)⟩
    | 2, h => exact loop i 4 3 (fun v => v) (Nat.le_refl _) hi (by omega) h
    | 3, h =>
      rw [pzr_3] at h
      by_cases c : cht_ n t i = 38
      · rw [if_pos c] at h
        exact loop (i + 1) 4 3 (fun v => ob_ 0 a v) (by omega) (cht_in c (by omega)).1 (by omega) h
      · rw [if_neg c] at h
        cases h
        exact ⟨Nat.le_refl _, hi, fun z => absurd z (by omega)⟩
    | 4, h =>
      rw [pzr_4] at h
      by_cases c : ia_ k (cht_ n t i) = true
      · rw [if_pos c] at h
        exact loop i 6 5 (fun v => v) (Nat.le_refl _) hi (by omega) h
      · rw [if_neg c] at h
        cases h
        exact ⟨Nat.le_refl _, hi, fun z => absurd z (by omega)⟩
    | 5, h =>
      rw [pzr_5] at h
      by_cases c : ia_ k (cht_ n t i) = true
      · rw [if_pos c] at h
        exact loop i 6 5 (fun v => ob_ 4 a v) (Nat.le_refl _) hi (by omega) h
      · rw [if_neg c] at h
        cases h
        exact ⟨Nat.le_refl _, hi, fun z => absurd z (by omega)⟩
    | 6, h =>
      rcases bd_s h with ⟨f, e1, rfl⟩ | ⟨j, v, e1, e2⟩
      · exact (pzr_mono u 8 o i none _ hi e1 :)
      · have q1 : i ≤ j ∧ j ≤ n ∧ (8 = 6 ∨ 8 = 8 → i < j) := pzr_mono u 8 o i none _ hi e1
        have q2 := pzr_mono u 7 o j v r q1.2.1 e2
        have q3 := q1.2.2 (Or.inr rfl)
        cases r with
        | inl f => exact q2
        | inr p => exact ⟨Nat.le_trans q1.1 q2.1, q2.2.1, fun _ => Nat.lt_of_lt_of_le q3 q2.1⟩
    | 7, h =>
      rw [pzr_7] at h
      have go : ∀ a', i < n → pzr_ n k t u 7 o (i + 1) a' = some r → pr_ok n i 7 r := by
        intro a' hl h
        have q2 := pzr_mono u 7 o (i + 1) a' r hl h
        cases r with
        | inl f => exact q2
        | inr p => exact ⟨Nat.le_trans (Nat.le_succ i) q2.1, q2.2.1, fun z => absurd z (by omega)⟩
      by_cases c : cht_ n t i = 42
      · rw [if_pos c] at h
        exact go _ (cht_in c (by omega)).1 h
      · rw [if_neg c] at h
        by_cases c : cht_ n t i = 43
        · rw [if_pos c] at h
          exact go _ (cht_in c (by omega)).1 h
        · rw [if_neg c] at h
          by_cases c : cht_ n t i = 63
          · rw [if_pos c] at h
            exact go _ (cht_in c (by omega)).1 h
          · rw [if_neg c] at h
            cases h
            exact ⟨Nat.le_refl _, hi, fun z => absurd z (by omega)⟩
    | 8, h =>
      rw [pzr_8] at h
      by_cases c : ia_ k (cht_ n t i) = true
      · have hn := ia_in c
        rw [if_pos c] at h
        by_cases c1 : (cht_ n t i = 40 ∨ cht_ n t i = 33) ∧ 30 ≤ o
        · rw [if_pos c1] at h
          cases h
          exact hi
        · rw [if_neg c1] at h
          by_cases c2 : cht_ n t i = 40
          · rw [if_pos c2] at h
            rcases bd_s h with ⟨f, e1, rfl⟩ | ⟨j, v, e1, e2⟩
            · exact (pzr_mono u 0 (o + 1) (i + 1) none _ hn e1 :)
            · have q1 : i + 1 ≤ j ∧ j ≤ n ∧ _ := pzr_mono u 0 (o + 1) (i + 1) none _ hn e1
              by_cases c3 : cht_ n t j = 41
              · rw [if_pos c3] at e2
                have := (cht_in c3 (by omega)).1
                cases e2
                exact ⟨by show i ≤ j + 1; omega, by show j + 1 ≤ n; omega, fun _ => by show i < j + 1; omega⟩
              · rw [if_neg c3] at e2
                cases e2
                exact q1.2.1
          · rw [if_neg c2] at h
            by_cases c3 : cht_ n t i = 33
            · rw [if_pos c3] at h
              rcases bd_s h with ⟨f, e1, rfl⟩ | ⟨j, v, e1, e2⟩
              · exact (pzr_mono u 8 (o + 1) (i + 1) none _ hn e1 :)
              · have q1 : i + 1 ≤ j ∧ j ≤ n ∧ _ := pzr_mono u 8 (o + 1) (i + 1) none _ hn e1
                cases e2
                exact ⟨by show i ≤ j; omega, q1.2.1, fun _ => by show i < j; omega⟩
            · rw [if_neg c3] at h
              cases h
              exact ⟨Nat.le_succ i, hn, fun _ => Nat.lt_succ_self i⟩
      · rw [if_neg c] at h
        cases h
        exact hi
    | m + 9, h => cases h
/-- what had no room stays so -/
theorem pzr_none : ∀ (u m o i j : Nat) (v : Option ma_), m = 1 ∨ m = 3 ∨ m = 5 ∨ m = 7 → pzr_ n k t u m o i none = some (.inr (j, v)) → v = none
  | 0, m, o, i, j, v, hm, h => by cases h
  | u + 1, m, o, i, j, v, hm, h => by
    rcases hm with rfl | rfl | rfl | rfl
    · rw [pzr_1] at h
      by_cases c : cht_ n t i = 124
      · rw [if_pos c] at h
        rcases bd_s h with ⟨f, e1, e2⟩ | ⟨j', v', e1, e2⟩
        · cases e2
        · exact pzr_none u 1 o j' j v (by omega) e2
      · rw [if_neg c] at h
        cases h
        rfl
    · rw [pzr_3] at h
      by_cases c : cht_ n t i = 38
      · rw [if_pos c] at h
        rcases bd_s h with ⟨f, e1, e2⟩ | ⟨j', v', e1, e2⟩
        · cases e2
        · exact pzr_none u 3 o j' j v (by omega) e2
      · rw [if_neg c] at h
        cases h
        rfl
    · rw [pzr_5] at h
      by_cases c : ia_ k (cht_ n t i) = true
      · rw [if_pos c] at h
        rcases bd_s h with ⟨f, e1, e2⟩ | ⟨j', v', e1, e2⟩
        · cases e2
        · exact pzr_none u 5 o j' j v (by omega) e2
      · rw [if_neg c] at h
        cases h
        rfl
    · rw [pzr_7] at h
      by_cases c : cht_ n t i = 42
      · rw [if_pos c] at h
        exact pzr_none u 7 o (i + 1) j v (by omega) h
      · rw [if_neg c] at h
        by_cases c : cht_ n t i = 43
        · rw [if_pos c] at h
          exact pzr_none u 7 o (i + 1) j v (by omega) h
        · rw [if_neg c] at h
          by_cases c : cht_ n t i = 63
          · rw [if_pos c] at h
            exact pzr_none u 7 o (i + 1) j v (by omega) h
          · rw [if_neg c] at h
            cases h
            rfl
/-- enough turns: each character costs at most 10 -/
def cs_ (m : Nat) : Nat := if m = 0 then 9 else if m = 1 then 1 else if m = 2 then 7 else if m = 3 then 1 else if m = 4 then 5 else if m = 5 then 4 else if m = 6 then 3 else if m = 7 then 1 else 2
theorem pzr_some : ∀ (u m o i : Nat) (a : Option ma_), m < 9 → i ≤ n → 10 * (n - i) + cs_ m ≤ u → pzr_ n k t u m o i a ≠ none
  | 0, m, o, i, a, hm, hi, h => by
    have : 1 ≤ cs_ m := by
      unfold cs_
      repeat' split
      all_goals omega
    omega
  | u + 1, m, o, i, a, hm, hi, h => by
    have mo : ∀ {m' o' i' j' a' v'}, i' ≤ n → pzr_ n k t u m' o' i' a' = some (.inr (j', v')) → i' ≤ j' ∧ j' ≤ n ∧ (m' = 6 ∨ m' = 8 → i' < j') := fun hi' e => pzr_mono u _ _ _ _ _ hi' e
    match m, h with
    | 0, h =>
      have h' : 10 * (n - i) + 9 ≤ u + 1 := h
      rw [pzr_0]
      refine bd_i (pzr_some u 2 o i none (by omega) hi (show _ + 7 ≤ u by omega)) fun j v e => ?_
      have := mo hi e
      exact pzr_some u 1 o j v (by omega) this.2.1 (show _ + 1 ≤ u by omega)
    | 1, h =>
      have h' : 10 * (n - i) + 1 ≤ u + 1 := h
      rw [pzr_1]
      by_cases c : cht_ n t i = 124
      · rw [if_pos c]
        have hl := (cht_in c (by omega)).1
        refine bd_i (pzr_some u 2 o (i + 1) none (by omega) hl (show _ + 7 ≤ u by omega)) fun j v e => ?_
        have := mo (by omega) e
        exact pzr_some u 1 o j _ (by omega) this.2.1 (show _ + 1 ≤ u by omega)
      · rw [if_neg c]
        intro q
        cases q
    | 2, h =>
      have h' : 10 * (n - i) + 7 ≤ u + 1 := h
      rw [pzr_2]
      refine bd_i (pzr_some u 4 o i none (by omega) hi (show _ + 5 ≤ u by omega)) fun j v e => ?_
      have := mo hi e
      exact pzr_some u 3 o j v (by omega) this.2.1 (show _ + 1 ≤ u by omega)
    | 3, h =>
      have h' : 10 * (n - i) + 1 ≤ u + 1 := h
      rw [pzr_3]
      by_cases c : cht_ n t i = 38
      · rw [if_pos c]
        have hl := (cht_in c (by omega)).1
        refine bd_i (pzr_some u 4 o (i + 1) none (by omega) hl (show _ + 5 ≤ u by omega)) fun j v e => ?_
        have := mo (by omega) e
        exact pzr_some u 3 o j _ (by omega) this.2.1 (show _ + 1 ≤ u by omega)
      · rw [if_neg c]
        intro q
        cases q
    | 4, h =>
      have h' : 10 * (n - i) + 5 ≤ u + 1 := h
      rw [pzr_4]
      by_cases c : ia_ k (cht_ n t i) = true
      · rw [if_pos c]
        refine bd_i (pzr_some u 6 o i none (by omega) hi (show _ + 3 ≤ u by omega)) fun j v e => ?_
        have h1 := mo hi e
        have h2 := h1.2.2 (by omega)
        exact pzr_some u 5 o j _ (by omega) h1.2.1 (show _ + 4 ≤ u by omega)
      · rw [if_neg c]
        intro q
        cases q
    | 5, h =>
      have h' : 10 * (n - i) + 4 ≤ u + 1 := h
      rw [pzr_5]
      by_cases c : ia_ k (cht_ n t i) = true
      · rw [if_pos c]
        refine bd_i (pzr_some u 6 o i none (by omega) hi (show _ + 3 ≤ u by omega)) fun j v e => ?_
        have h1 := mo hi e
        have h2 := h1.2.2 (by omega)
        exact pzr_some u 5 o j _ (by omega) h1.2.1 (show _ + 4 ≤ u by omega)
      · rw [if_neg c]
        intro q
        cases q
    | 6, h =>
      have h' : 10 * (n - i) + 3 ≤ u + 1 := h
      rw [pzr_6]
      refine bd_i (pzr_some u 8 o i none (by omega) hi (show _ + 2 ≤ u by omega)) fun j v e => ?_
      have h1 := mo hi e
      have h2 := h1.2.2 (by omega)
      exact pzr_some u 7 o j v (by omega) h1.2.1 (show _ + 1 ≤ u by omega)
    | 7, h =>
      have h' : 10 * (n - i) + 1 ≤ u + 1 := h
      rw [pzr_7]
      have go : ∀ a', i < n → pzr_ n k t u 7 o (i + 1) a' ≠ none := fun a' hl => pzr_some u 7 o (i + 1) a' (by omega) hl (show _ + 1 ≤ u by omega)
      by_cases c : cht_ n t i = 42
      · rw [if_pos c]
        exact go _ (cht_in c (by omega)).1
      · rw [if_neg c]
        by_cases c : cht_ n t i = 43
        · rw [if_pos c]
          exact go _ (cht_in c (by omega)).1
        · rw [if_neg c]
          by_cases c : cht_ n t i = 63
          · rw [if_pos c]
            exact go _ (cht_in c (by omega)).1
          · rw [if_neg c]
            intro q
            cases q
    | 8, h =>
      have h' : 10 * (n - i) + 2 ≤ u + 1 := h
      rw [pzr_8]
      by_cases c : ia_ k (cht_ n t i) = true
      · have hn := ia_in c
        rw [if_pos c]
        by_cases c1 : (cht_ n t i = 40 ∨ cht_ n t i = 33) ∧ 30 ≤ o
        · rw [if_pos c1]
          intro q
          cases q
        · rw [if_neg c1]
          by_cases c2 : cht_ n t i = 40
          · rw [if_pos c2]
            refine bd_i (pzr_some u 0 (o + 1) (i + 1) none (by omega) hn (show _ + 9 ≤ u by omega)) fun j v e => ?_
            by_cases c3 : cht_ n t j = 41
            · rw [if_pos c3]
              intro q
              cases q
            · rw [if_neg c3]
              intro q
              cases q
          · rw [if_neg c2]
            by_cases c3 : cht_ n t i = 33
            · rw [if_pos c3]
              refine bd_i (pzr_some u 8 (o + 1) (i + 1) none (by omega) hn (show _ + 2 ≤ u by omega)) fun j v e => ?_
              intro q
              cases q
            · rw [if_neg c3]
              intro q
              cases q
      · rw [if_neg c]
        intro q
        cases q
    | m + 9, h => omega
end
theorem b2f_ : b2_ false = nI 0 := rfl
