/-! READER: the descent -/
/-- the depth at which an atom is read -/
def dpo_ (c o : Nat) : Nat := c + 5 * (30 - o)
theorem dpo_s {c o : Nat} (h : o < 30) : dpo_ c o = dpo_ c (o + 1) + 5 := by
  unfold dpo_
  omega
theorem dpo_4 {c o : Nat} (h : o < 30) : dpo_ c o = dpo_ (c + 4) (o + 1) + 1 := by
  unfold dpo_
  omega
/-- how a part ends: a fault, or a value on the stack -/
def qA_ (n k : Nat) (t : Nat → Nat) (D : dy_) (T : Nat) (f0 : Bool) (E : rd_) (r : po_) (bF : Nat) (bV : Nat → Nat) : Prop := ∃ D', E = some (none, D') ∧ sx_ (rx_ T) D D' ∧ (∀ f, r = .inl f → rF_ n k t D' f bF) ∧ ∀ j v, r = .inr (j, v) → ∃ fl, rS_ n k t D' j (T + 1) (bV j) fl ∧ vst_ k D' T f0 fl v
section
variable {w : (Nat → Int32) × Nat} {n k : Nat} {t : Nat → Nat}
theorem qA_f {D D' : dy_} {T f bF : Nat} {f0 : Bool} {E : rd_} {bV : Nat → Nat} (h : E = some (none, D')) (s : sx_ (rx_ T) D D') (g : rF_ n k t D' f bF) : qA_ n k t D T f0 E (.inl f) bF bV := ⟨D', h, s, fun f' e => by cases e; exact g, fun j v e => by cases e⟩
theorem qA_v {D D' : dy_} {T j bF : Nat} {f0 fl : Bool} {v : Option ma_} {E : rd_} {bV : Nat → Nat} (h : E = some (none, D')) (s : sx_ (rx_ T) D D') (g : rS_ n k t D' j (T + 1) (bV j) fl) (hv : vst_ k D' T f0 fl v) : qA_ n k t D T f0 E (.inr (j, v)) bF bV := ⟨D', h, s, fun f' e => (by cases e), fun j' v' e => by cases e; exact ⟨fl, g, hv⟩⟩
/-- a later part's end is the whole's -/
theorem qA_t {D D1 : dy_} {T bF bF1 : Nat} {f0 : Bool} {E E1 : rd_} {r : po_} {bV bV1 : Nat → Nat} (q : qA_ n k t D1 T f0 E1 r bF1 bV1) (s : sx_ (rx_ T) D D1) (hE : E = E1) (hF : bF1 ≤ bF) (hV : ∀ j v, r = .inr (j, v) → bV1 j ≤ bV j) : qA_ n k t D T f0 E r bF bV := by
  obtain ⟨D', q1, q2, q3, q4⟩ := q
  refine ⟨D', hE.trans q1, sx_t s q2, fun f e => rF_m (q3 f e) hF, fun j v e => ?_⟩
  obtain ⟨fl, a, b⟩ := q4 j v e
  exact ⟨fl, rS_m a (hV j v e), b⟩
theorem pzr_v {u m o i j : Nat} {a v : Option ma_} {r : po_} (hi : i ≤ n) (h : pzr_ n k t u m o i a = some r) (e : r = .inr (j, v)) : i ≤ j ∧ j ≤ n := by
  subst e
  have q : i ≤ j ∧ j ≤ n ∧ _ := pzr_mono u m o i a _ hi h
  exact ⟨q.1, q.2.1⟩
/-! behind a fault every part ends -/
theorem x30f {d f X : Nat} {D : dy_} {o L : Int32} (ht : tw_ n t) (h : rF_ n k t D f X) : k30_13 w (d + 2) o L D = some (none, D) := by
  rw [e30_13]
  by_cases z : L ≤ nI 0
  · rw [if_pos z]
  · rw [if_neg z, x35f h ht, op_os, op_vIs, if_pos rfl]
theorem x31f {d f X : Nat} {D : dy_} {o L : Int32} (ht : tw_ n t) (h : rF_ n k t D f X) : k31_13 w (d + 2) o L D = some (none, D) := by
  rw [e31_13]
  by_cases z : L ≤ nI 0
  · rw [if_pos z]
  · rw [if_neg z, x35f h ht, op_os, op_vIs, if_pos rfl]
theorem x32f {d f X : Nat} {D : dy_} {o L : Int32} (ht : tw_ n t) (h : rF_ n k t D f X) : k32_25 w (d + 3) o L D = some (none, D) := by
  rw [e32_25]
  by_cases z : L ≤ nI 0
  · rw [if_pos z]
  · rw [if_neg z, x36f h ht, op_os, op_vIs, if_pos rfl]
theorem x33f {d f X : Nat} {D : dy_} {L : Int32} (ht : tw_ n t) (h : rF_ n k t D f X) : k33_13 w (d + 2) L D = some (none, D) := by
  rw [e33_13]
  by_cases z : L ≤ nI 0
  · rw [if_pos z]
  · rw [if_neg z, x35f h ht, op_os, op_vIs, if_pos rfl, x35f h ht, op_os, op_vIs, if_pos rfl, x35f h ht, op_os, op_vIs, if_pos rfl]
end
section
variable (w : (Nat → Int32) × Nat) (n k : Nat) (t : Nat → Nat) (u : Nat)
def A0_ : Prop := ∀ (c o i T X : Nat) (f0 : Bool) (D : dy_) (r : po_), o ≤ 30 → i ≤ n → T ≤ 3 * o → X + 2000 * (n + 2 - i) < 2 ^ 31 → rS_ n k t D i T X f0 → pzr_ n k t u 0 o i none = some r → qA_ n k t D T f0 (k30_0 w (dpo_ c o + 14) (nI o) D) r (X + 2000 * (n + 2 - i)) (fun j => X + 2000 * (j - i))
def A1_ : Prop := ∀ (c o i T X L : Nat) (f0 f1 : Bool) (a : Option ma_) (D : dy_) (r : po_), o ≤ 30 → i ≤ n → T ≤ 3 * o → X + 2000 * (n + 2 - i) < 2 ^ 31 → n ≤ L + i → L ≤ n → rS_ n k t D i (T + 1) X f1 → vst_ k D T f0 f1 a → pzr_ n k t u 1 o i a = some r → qA_ n k t D T f0 (k30_13 w (dpo_ c o + 14) (nI o) (nI L) D) r (X + 2000 * (n + 2 - i)) (fun j => X + 2000 * (j - i))
def A2_ : Prop := ∀ (c o i T X : Nat) (f0 : Bool) (D : dy_) (r : po_), o ≤ 30 → i ≤ n → T ≤ 3 * o + 1 → X + 2000 * (n + 2 - i) < 2 ^ 31 → rS_ n k t D i T X f0 → pzr_ n k t u 2 o i none = some r → qA_ n k t D T f0 (k31_0 w (dpo_ c o + 13) (nI o) D) r (X + 2000 * (n + 2 - i)) (fun j => X + 2000 * (j - i))
def A3_ : Prop := ∀ (c o i T X L : Nat) (f0 f1 : Bool) (a : Option ma_) (D : dy_) (r : po_), o ≤ 30 → i ≤ n → T ≤ 3 * o + 1 → X + 2000 * (n + 2 - i) < 2 ^ 31 → n ≤ L + i → L ≤ n → rS_ n k t D i (T + 1) X f1 → vst_ k D T f0 f1 a → pzr_ n k t u 3 o i a = some r → qA_ n k t D T f0 (k31_13 w (dpo_ c o + 13) (nI o) (nI L) D) r (X + 2000 * (n + 2 - i)) (fun j => X + 2000 * (j - i))
def A4_ : Prop := ∀ (c o i T X : Nat) (f0 : Bool) (D : dy_) (r : po_), o ≤ 30 → i ≤ n → T ≤ 3 * o + 2 → X + 2000 * (n + 2 - i) < 2 ^ 31 → rS_ n k t D i T X f0 → pzr_ n k t u 4 o i none = some r → qA_ n k t D T f0 (k32_0 w (dpo_ c o + 12) (nI o) D) r (X + 2000 * (n + 2 - i)) (fun j => X + 2000 * (j - i))
def A5_ : Prop := ∀ (c o i T X L : Nat) (f0 f1 : Bool) (a : Option ma_) (D : dy_) (r : po_), o ≤ 30 → i ≤ n → T ≤ 3 * o + 2 → X + 2000 * (n + 2 - i) < 2 ^ 31 → n ≤ L + i → L ≤ n → rS_ n k t D i (T + 1) X f1 → vst_ k D T f0 f1 a → pzr_ n k t u 5 o i a = some r → qA_ n k t D T f0 (k32_25 w (dpo_ c o + 12) (nI o) (nI L) D) r (X + 2000 * (n + 2 - i)) (fun j => X + 2000 * (j - i))
def A6_ : Prop := ∀ (c o i T X : Nat) (f0 : Bool) (D : dy_) (r : po_), o ≤ 30 → i ≤ n → T ≤ 3 * o + 3 → X + 2000 * (n + 2 - i) < 2 ^ 31 → rS_ n k t D i T X f0 → pzr_ n k t u 6 o i none = some r → qA_ n k t D T f0 (k33_0 w (dpo_ c o + 11) (nI o) D) r (X + 2000 * (n + 2 - i)) (fun j => X + 2000 * (j - i) - 1000)
def A7_ : Prop := ∀ (c o i T X L : Nat) (f0 f1 : Bool) (a : Option ma_) (D : dy_) (r : po_), o ≤ 30 → i ≤ n → T ≤ 3 * o + 3 → X + 2000 * (n + 2 - i) < 2 ^ 31 → n ≤ L + i → L ≤ n → rS_ n k t D i (T + 1) X f1 → vst_ k D T f0 f1 a → pzr_ n k t u 7 o i a = some r → qA_ n k t D T f0 (k33_13 w (dpo_ c o + 11) (nI L) D) r (X + 2000 * (n + 2 - i)) (fun j => X + 2000 * (j - i))
def A8_ : Prop := ∀ (c o i T X : Nat) (f0 : Bool) (D : dy_) (r : po_), o ≤ 30 → i ≤ n → T ≤ 3 * o + 3 → X + 2000 * (n + 2 - i) < 2 ^ 31 → rS_ n k t D i T X f0 → pzr_ n k t u 8 o i none = some r → qA_ n k t D T f0 (k34_0 w (dpo_ c o + 10) (nI o) D) r (X + 2000 * (n + 2 - i)) (fun j => X + 2000 * (j - i) - 1000)
end
section
variable {w : (Nat → Int32) × Nat} {n k : Nat} {t : Nat → Nat} {u : Nat}
theorem A0_s (ht : tw_ n t) (h2 : A2_ w n k t u) (h1 : A1_ w n k t u) : A0_ w n k t (u + 1) := by
  intro c o i T X f0 D r ho hi hT hX hr h
  have hn := ht.1
  rw [pzr_0] at h
  rcases bd_s h with ⟨f, e1, rfl⟩ | ⟨j, v, e1, e2⟩
  · obtain ⟨D1, q1, q2, q3, q4⟩ := h2 c o i T X f0 D _ ho hi (by omega) hX hr e1
    refine qA_f ?_ q2 (q3 f rfl)
    rw [e30_0, q1, op_os, op_vNs]
    exact x30f ht (q3 f rfl)
  · have mo : i ≤ j ∧ j ≤ n ∧ _ := pzr_mono u 2 o i none _ hi e1
    obtain ⟨D1, q1, q2, q3, q4⟩ := h2 c o i T X f0 D _ ho hi (by omega) hX hr e1
    obtain ⟨f1, r1, v1⟩ := q4 j v rfl
    refine qA_t (h1 c o j T (X + 2000 * (j - i)) n f0 f1 v D1 r ho mo.2.1 hT (by omega) (by omega) (Nat.le_refl n) r1 v1 e2) q2 ?_ (by omega) (fun j' v' e => ?_)
    · rw [e30_0, q1, op_os, op_vNs, r1.1.1.1]
    · have mo2 := pzr_v mo.2.1 e2 e
      show X + 2000 * (j - i) + 2000 * (j' - j) ≤ X + 2000 * (j' - i)
      omega
theorem A2_s (ht : tw_ n t) (h4 : A4_ w n k t u) (h3 : A3_ w n k t u) : A2_ w n k t (u + 1) := by
  intro c o i T X f0 D r ho hi hT hX hr h
  have hn := ht.1
  rw [pzr_2] at h
  rcases bd_s h with ⟨f, e1, rfl⟩ | ⟨j, v, e1, e2⟩
  · obtain ⟨D1, q1, q2, q3, q4⟩ := h4 c o i T X f0 D _ ho hi (by omega) hX hr e1
    refine qA_f ?_ q2 (q3 f rfl)
    rw [e31_0, q1, op_os, op_vNs]
    exact x31f ht (q3 f rfl)
  · have mo : i ≤ j ∧ j ≤ n ∧ _ := pzr_mono u 4 o i none _ hi e1
    obtain ⟨D1, q1, q2, q3, q4⟩ := h4 c o i T X f0 D _ ho hi (by omega) hX hr e1
    obtain ⟨f1, r1, v1⟩ := q4 j v rfl
    refine qA_t (h3 c o j T (X + 2000 * (j - i)) n f0 f1 v D1 r ho mo.2.1 hT (by omega) (by omega) (Nat.le_refl n) r1 v1 e2) q2 ?_ (by omega) (fun j' v' e => ?_)
    · rw [e31_0, q1, op_os, op_vNs, r1.1.1.1]
    · have mo2 := pzr_v mo.2.1 e2 e
      show X + 2000 * (j - i) + 2000 * (j' - j) ≤ X + 2000 * (j' - i)
      omega
theorem A4_s (ht : tw_ n t) (hk : 1 ≤ k ∧ k ≤ 4) (h6 : A6_ w n k t u) (h5 : A5_ w n k t u) : A4_ w n k t (u + 1) := by
  intro c o i T X f0 D r ho hi hT hX hr h
  have hn := ht.1
  rw [pzr_4] at h
  have s36 := x36 (w := w) (d := dpo_ c o + 8) ht hk.2 hr hi
  by_cases b : ia_ k (cht_ n t i) = true
  · have hl := ia_in b
    rw [if_pos b] at h
    rw [b] at s36
    rcases bd_s h with ⟨f, e1, rfl⟩ | ⟨j, v, e1, e2⟩
    · obtain ⟨D1, q1, q2, q3, q4⟩ := h6 c o i T X f0 D _ ho hi (by omega) hX hr e1
      refine qA_f ?_ q2 (q3 f rfl)
      rw [e32_0, s36, op_os, op_vIs, if_pos (by decide), q1, op_os, op_vNs]
      exact x32f ht (q3 f rfl)
    · have mo : i ≤ j ∧ j ≤ n ∧ (6 = 6 ∨ 6 = 8 → i < j) := pzr_mono u 6 o i none _ hi e1
      have mo1 := mo.2.2 (Or.inl rfl)
      obtain ⟨D1, q1, q2, q3, q4⟩ := h6 c o i T X f0 D _ ho hi (by omega) hX hr e1
      obtain ⟨f1, r1, v1⟩ := q4 j v rfl
      refine qA_t (h5 c o j T (X + 2000 * (j - i) - 1000) n f0 f1 v D1 r ho mo.2.1 hT (by omega) (by omega) (Nat.le_refl n) r1 v1 e2) q2 ?_ (by omega) (fun j' v' e => ?_)
      · rw [e32_0, s36, op_os, op_vIs, if_pos (by decide), q1, op_os, op_vNs, r1.1.1.1]
      · have mo2 := pzr_v mo.2.1 e2 e
        show X + 2000 * (j - i) - 1000 + 2000 * (j' - j) ≤ X + 2000 * (j' - i)
        omega
  · rw [if_neg b] at h
    cases h
    rw [Bool.eq_false_iff.mpr b] at s36
    obtain ⟨D1, q1, q2, q3, q4⟩ := x41 (w := w) (d := dpo_ c o + 7) hk hr (by omega)
    refine qA_v (fl := f0) ?_ q4 (rS_m q2 (by show X ≤ X + 2000 * (i - i); omega)) ⟨ep_ k, ep_ok hk, q3, ?_⟩
    · rw [e32_0, s36, op_os, op_vIs, if_neg (by decide), q1, op_os, op_vNs]
    · cases f0
      · exact Or.inr ⟨rfl, rfl, rfl⟩
      · exact Or.inl ⟨rfl, Or.inl rfl⟩
theorem A6_s (ht : tw_ n t) (h8 : A8_ w n k t u) (h7 : A7_ w n k t u) : A6_ w n k t (u + 1) := by
  intro c o i T X f0 D r ho hi hT hX hr h
  have hn := ht.1
  rw [pzr_6] at h
  rcases bd_s h with ⟨f, e1, rfl⟩ | ⟨j, v, e1, e2⟩
  · obtain ⟨D1, q1, q2, q3, q4⟩ := h8 c o i T X f0 D _ ho hi (by omega) hX hr e1
    refine qA_f ?_ q2 (q3 f rfl)
    rw [e33_0, q1, op_os, op_vNs]
    exact x33f ht (q3 f rfl)
  · have mo : i ≤ j ∧ j ≤ n ∧ (8 = 6 ∨ 8 = 8 → i < j) := pzr_mono u 8 o i none _ hi e1
    have mo1 := mo.2.2 (Or.inr rfl)
    obtain ⟨D1, q1, q2, q3, q4⟩ := h8 c o i T X f0 D _ ho hi (by omega) hX hr e1
    obtain ⟨f1, r1, v1⟩ := q4 j v rfl
    refine qA_t (h7 c o j T (X + 2000 * (j - i) - 1000) n f0 f1 v D1 r ho mo.2.1 hT (by omega) (by omega) (Nat.le_refl n) r1 v1 e2) q2 ?_ (by omega) (fun j' v' e => ?_)
    · rw [e33_0, q1, op_os, op_vNs, r1.1.1.1]
    · have mo2 := pzr_v mo.2.1 e2 e
      show X + 2000 * (j - i) - 1000 + 2000 * (j' - j) ≤ X + 2000 * (j' - i) - 1000
      omega
theorem A1_s (ht : tw_ n t) (h2 : A2_ w n k t u) (h1 : A1_ w n k t u) : A1_ w n k t (u + 1) := by
  intro c o i T X L f0 f1 a D r ho hi hT hX hL hL' hr hv h
  have hn := ht.1
  rw [pzr_1] at h
  have s35 := x35 (w := w) (d := dpo_ c o + 12) (c := 124) ht hr hi (by omega) (by omega)
  by_cases b : cht_ n t i = 124
  · have hl := (cht_in b (by omega)).1
    rw [if_pos b] at h
    rw [decide_eq_true b] at s35
    have head : k30_13 w (dpo_ c o + 14) (nI o) (nI L) D = op_o (k31_0 w (dpo_ c o + 13) (nI o) (dI_ D 50 5 (nI (i + 1)))) none (fun p2 => op_vN p2.1 none (op_o (k44_0 w (dpo_ c o + 13) (nI 1) p2.2) none (fun p3 => op_vN p3.1 none (k30_13 w (dpo_ c o + 14) (nI o) (nI (L - 1)) p3.2)))) := by
      rw [e30_13, if_neg (by rw [nI_leI (by omega) (by omega)]; omega), s35, op_os, op_vIs, if_neg (by decide), hr.2.1, nI_add, dm1, pk_sub (by omega)]
    have hr0 : rS_ n k t (dI_ D 50 5 (nI (i + 1))) (i + 1) (T + 1) X f1 := rS_p hr
    have y0 : sx_ (fun b => b = 50) D (dI_ D 50 5 (nI (i + 1))) := sx_I rfl
    have y1 : sx_ (rx_ (T + 1)) D (dI_ D 50 5 (nI (i + 1))) := sx_I (by unfold rx_; omega)
    rcases bd_s h with ⟨f, e1, rfl⟩ | ⟨j, v, e1, e2⟩
    · obtain ⟨D1, q1, q2, q3, q4⟩ := h2 c o (i + 1) (T + 1) X f1 _ _ ho hl (by omega) (by omega) hr0 e1
      obtain ⟨D2, g1, g2, g3⟩ := x44f (w := w) (d := dpo_ c o + 11) (x := nI 1) (q3 f rfl) ht
      refine qA_f (D' := D2) ?_ (sx_t (sx_w (sx_t y1 q2) (fun b hb => rx_m (Nat.le_succ T) hb)) (sx_w g3 (fun b hb => by unfold rx_; omega))) (rF_m g2 (by omega))
      rw [head, q1, op_os, op_vNs, g1, op_os, op_vNs]
      exact x30f ht g2
    · have mo : i + 1 ≤ j ∧ j ≤ n ∧ _ := pzr_mono u 2 o (i + 1) none _ hl e1
      obtain ⟨D1, q1, q2, q3, q4⟩ := h2 c o (i + 1) (T + 1) X f1 _ _ ho hl (by omega) (by omega) hr0 e1
      obtain ⟨f2, r1, v1⟩ := q4 j v rfl
      obtain ⟨D2, f3, g1, g2, g3, g4⟩ := x44 (w := w) (d := dpo_ c o + 6) (hw := 1) (by omega) r1 (by omega) (by show X + 2000 * (j - (i + 1)) + 1000 < 2 ^ 31; omega) (v2_of hv v1 (sx_t y1 q2) (by omega))
      refine qA_t (h1 c o j T (X + 2000 * (j - (i + 1)) + 1000) (L - 1) f0 f3 _ D2 r ho mo.2.1 hT (by omega) (by omega) (by omega) g2 g3 e2) (sx_t (sx_w (sx_t y1 q2) (fun b hb => rx_m (Nat.le_succ T) hb)) g4) ?_ (by omega) (fun j' v' e => ?_)
      · rw [head, q1, op_os, op_vNs, g1, op_os, op_vNs]
      · have mo2 := pzr_v mo.2.1 e2 e
        show X + 2000 * (j - (i + 1)) + 1000 + 2000 * (j' - j) ≤ X + 2000 * (j' - i)
        omega
  · rw [if_neg b] at h
    cases h
    rw [decide_eq_false b] at s35
    refine qA_v (D' := D) (fl := f1) ?_ (sx_r _ _) (rS_m hr (by show X ≤ X + 2000 * (i - i); omega)) hv
    rw [e30_13]
    by_cases z : L = 0
    · rw [z, if_pos (by decide)]
    · rw [if_neg (by rw [nI_leI (by omega) (by omega)]; omega), s35, op_os, op_vIs, if_pos b2f_]
theorem A3_s (ht : tw_ n t) (h4 : A4_ w n k t u) (h3 : A3_ w n k t u) : A3_ w n k t (u + 1) := by
  intro c o i T X L f0 f1 a D r ho hi hT hX hL hL' hr hv h
  have hn := ht.1
  rw [pzr_3] at h
  have s35 := x35 (w := w) (d := dpo_ c o + 11) (c := 38) ht hr hi (by omega) (by omega)
  by_cases b : cht_ n t i = 38
  · have hl := (cht_in b (by omega)).1
    rw [if_pos b] at h
    rw [decide_eq_true b] at s35
    have head : k31_13 w (dpo_ c o + 13) (nI o) (nI L) D = op_o (k32_0 w (dpo_ c o + 12) (nI o) (dI_ D 50 5 (nI (i + 1)))) none (fun p2 => op_vN p2.1 none (op_o (k44_0 w (dpo_ c o + 12) (nI 0) p2.2) none (fun p3 => op_vN p3.1 none (k31_13 w (dpo_ c o + 13) (nI o) (nI (L - 1)) p3.2)))) := by
      rw [e31_13, if_neg (by rw [nI_leI (by omega) (by omega)]; omega), s35, op_os, op_vIs, if_neg (by decide), hr.2.1, nI_add, dm1, pk_sub (by omega)]
    have hr0 : rS_ n k t (dI_ D 50 5 (nI (i + 1))) (i + 1) (T + 1) X f1 := rS_p hr
    have y0 : sx_ (fun b => b = 50) D (dI_ D 50 5 (nI (i + 1))) := sx_I rfl
    have y1 : sx_ (rx_ (T + 1)) D (dI_ D 50 5 (nI (i + 1))) := sx_I (by unfold rx_; omega)
    rcases bd_s h with ⟨f, e1, rfl⟩ | ⟨j, v, e1, e2⟩
    · obtain ⟨D1, q1, q2, q3, q4⟩ := h4 c o (i + 1) (T + 1) X f1 _ _ ho hl (by omega) (by omega) hr0 e1
      obtain ⟨D2, g1, g2, g3⟩ := x44f (w := w) (d := dpo_ c o + 10) (x := nI 0) (q3 f rfl) ht
      refine qA_f (D' := D2) ?_ (sx_t (sx_w (sx_t y1 q2) (fun b hb => rx_m (Nat.le_succ T) hb)) (sx_w g3 (fun b hb => by unfold rx_; omega))) (rF_m g2 (by omega))
      rw [head, q1, op_os, op_vNs, g1, op_os, op_vNs]
      exact x31f ht g2
    · have mo : i + 1 ≤ j ∧ j ≤ n ∧ _ := pzr_mono u 4 o (i + 1) none _ hl e1
      obtain ⟨D1, q1, q2, q3, q4⟩ := h4 c o (i + 1) (T + 1) X f1 _ _ ho hl (by omega) (by omega) hr0 e1
      obtain ⟨f2, r1, v1⟩ := q4 j v rfl
      obtain ⟨D2, f3, g1, g2, g3, g4⟩ := x44 (w := w) (d := dpo_ c o + 5) (hw := 0) (by omega) r1 (by omega) (by show X + 2000 * (j - (i + 1)) + 1000 < 2 ^ 31; omega) (v2_of hv v1 (sx_t y1 q2) (by omega))
      refine qA_t (h3 c o j T (X + 2000 * (j - (i + 1)) + 1000) (L - 1) f0 f3 _ D2 r ho mo.2.1 hT (by omega) (by omega) (by omega) g2 g3 e2) (sx_t (sx_w (sx_t y1 q2) (fun b hb => rx_m (Nat.le_succ T) hb)) g4) ?_ (by omega) (fun j' v' e => ?_)
      · rw [head, q1, op_os, op_vNs, g1, op_os, op_vNs]
      · have mo2 := pzr_v mo.2.1 e2 e
        show X + 2000 * (j - (i + 1)) + 1000 + 2000 * (j' - j) ≤ X + 2000 * (j' - i)
        omega
  · rw [if_neg b] at h
    cases h
    rw [decide_eq_false b] at s35
    refine qA_v (D' := D) (fl := f1) ?_ (sx_r _ _) (rS_m hr (by show X ≤ X + 2000 * (i - i); omega)) hv
    rw [e31_13]
    by_cases z : L = 0
    · rw [z, if_pos (by decide)]
    · rw [if_neg (by rw [nI_leI (by omega) (by omega)]; omega), s35, op_os, op_vIs, if_pos b2f_]
theorem A5_s (ht : tw_ n t) (hk : 1 ≤ k ∧ k ≤ 4) (h6 : A6_ w n k t u) (h5 : A5_ w n k t u) : A5_ w n k t (u + 1) := by
  intro c o i T X L f0 f1 a D r ho hi hT hX hL hL' hr hv h
  have hn := ht.1
  rw [pzr_5] at h
  have s36 := x36 (w := w) (d := dpo_ c o + 8) ht hk.2 hr hi
  by_cases b : ia_ k (cht_ n t i) = true
  · have hl := ia_in b
    rw [if_pos b] at h
    rw [b] at s36
    have head : k32_25 w (dpo_ c o + 12) (nI o) (nI L) D = op_o (k33_0 w (dpo_ c o + 11) (nI o) D) none (fun p2 => op_vN p2.1 none (op_o (k44_0 w (dpo_ c o + 11) (nI 4) p2.2) none (fun p3 => op_vN p3.1 none (k32_25 w (dpo_ c o + 12) (nI o) (nI (L - 1)) p3.2)))) := by
      rw [e32_25, if_neg (by rw [nI_leI (by omega) (by omega)]; omega), s36, op_os, op_vIs, if_neg (by decide), dm1, pk_sub (by omega)]
    rcases bd_s h with ⟨f, e1, rfl⟩ | ⟨j, v, e1, e2⟩
    · obtain ⟨D1, q1, q2, q3, q4⟩ := h6 c o i (T + 1) X f1 _ _ ho hi (by omega) hX hr e1
      obtain ⟨D2, g1, g2, g3⟩ := x44f (w := w) (d := dpo_ c o + 9) (x := nI 4) (q3 f rfl) ht
      refine qA_f (D' := D2) ?_ (sx_t (sx_w q2 (fun b hb => rx_m (Nat.le_succ T) hb)) (sx_w g3 (fun b hb => by unfold rx_; omega))) (rF_m g2 (by omega))
      rw [head, q1, op_os, op_vNs, g1, op_os, op_vNs]
      exact x32f ht g2
    · have mo : i ≤ j ∧ j ≤ n ∧ (6 = 6 ∨ 6 = 8 → i < j) := pzr_mono u 6 o i none _ hi e1
      have mo1 := mo.2.2 (Or.inl rfl)
      obtain ⟨D1, q1, q2, q3, q4⟩ := h6 c o i (T + 1) X f1 _ _ ho hi (by omega) hX hr e1
      obtain ⟨f2, r1, v1⟩ := q4 j v rfl
      obtain ⟨D2, f3, g1, g2, g3, g4⟩ := x44 (w := w) (d := dpo_ c o + 4) (hw := 4) (by omega) r1 (by omega) (by show X + 2000 * (j - i) - 1000 + 1000 < 2 ^ 31; omega) (v2_of hv v1 q2 (by omega))
      refine qA_t (h5 c o j T (X + 2000 * (j - i) - 1000 + 1000) (L - 1) f0 f3 _ D2 r ho mo.2.1 hT (by omega) (by omega) (by omega) g2 g3 e2) (sx_t (sx_w q2 (fun b hb => rx_m (Nat.le_succ T) hb)) g4) ?_ (by omega) (fun j' v' e => ?_)
      · rw [head, q1, op_os, op_vNs, g1, op_os, op_vNs]
      · have mo2 := pzr_v mo.2.1 e2 e
        show X + 2000 * (j - i) - 1000 + 1000 + 2000 * (j' - j) ≤ X + 2000 * (j' - i)
        omega
  · rw [if_neg b] at h
    cases h
    rw [Bool.eq_false_iff.mpr b] at s36
    refine qA_v (D' := D) (fl := f1) ?_ (sx_r _ _) (rS_m hr (by show X ≤ X + 2000 * (i - i); omega)) hv
    rw [e32_25]
    by_cases z : L = 0
    · rw [z, if_pos (by decide)]
    · rw [if_neg (by rw [nI_leI (by omega) (by omega)]; omega), s36, op_os, op_vIs, if_pos b2f_]
theorem A7_s (ht : tw_ n t) (hk : 1 ≤ k ∧ k ≤ 4) (h7 : A7_ w n k t u) : A7_ w n k t (u + 1) := by
  intro c o i T X L f0 f1 a D r ho hi hT hX hL hL' hr hv h
  have hn := ht.1
  rw [pzr_7] at h
  have s42 := x35 (w := w) (d := dpo_ c o + 9) (c := 42) ht hr hi (by omega) (by omega)
  have s43 := x35 (w := w) (d := dpo_ c o + 9) (c := 43) ht hr hi (by omega) (by omega)
  have s63 := x35 (w := w) (d := dpo_ c o + 9) (c := 63) ht hr hi (by omega) (by omega)
  -- one more round
  have go : ∀ (X1 : Nat) (f2 : Bool) (a' : Option ma_) (D2 : dy_), i < n → X1 ≤ X + 2000 → rS_ n k t D2 i (T + 1) X1 f2 → vst_ k D2 T f0 f2 a' → sx_ (rx_ T) D D2 → pzr_ n k t u 7 o (i + 1) a' = some r → k33_13 w (dpo_ c o + 11) (nI L) D = k33_82 w (dpo_ c o + 11) (nI L) D2 → qA_ n k t D T f0 (k33_13 w (dpo_ c o + 11) (nI L) D) r (X + 2000 * (n + 2 - i)) (fun j => X + 2000 * (j - i)) := by
    intro X1 f2 a' D2 hl hX1 r2 v2 y2 e2 hE
    have y3 : sx_ (fun b => b = 50) D2 (dI_ D2 50 5 (nI (i + 1))) := sx_I rfl
    have v3 : vst_ k (dI_ D2 50 5 (nI (i + 1))) T f0 f2 a' := by
      obtain ⟨M, m1, m2, m3⟩ := v2
      exact ⟨M, m1, cm_sx m2 y3 (by omega) (by omega) (by omega), m3⟩
    refine qA_t (h7 c o (i + 1) T X1 (L - 1) f0 f2 a' _ r ho hl hT (by omega) (by omega) (by omega) (rS_p r2) v3 e2) (sx_t y2 (sx_w y3 (fun b hb => by unfold rx_; omega))) ?_ (by omega) (fun j' v' e => ?_)
    · rw [hE, e33_82, r2.2.1, nI_add, dm1, pk_sub (by omega)]
    · have mo2 := pzr_v hl e2 e
      show X1 + 2000 * (j' - (i + 1)) ≤ X + 2000 * (j' - i)
      omega
  by_cases b : cht_ n t i = 42
  · have hl := (cht_in b (by omega)).1
    rw [if_pos b] at h
    rw [decide_eq_true b] at s42
    obtain ⟨D2, f2, g1, g2, g3, g4⟩ := x43 (w := w) (d := dpo_ c o + 3) (hw := 5) (by omega) hr (by omega) (by omega) hv
    refine go (X + 1000) f2 _ D2 hl (by omega) g2 g3 g4 h ?_
    rw [e33_13, if_neg (by rw [nI_leI (by omega) (by omega)]; omega), s42, op_os, op_vIs, if_neg (by decide), g1, op_os, op_vNs]
  · rw [if_neg b] at h
    rw [decide_eq_false b] at s42
    by_cases b1 : cht_ n t i = 43
    · have hl := (cht_in b1 (by omega)).1
      rw [if_pos b1] at h
      rw [decide_eq_true b1] at s43
      have hv0 := hv
      obtain ⟨M, m1, m2, m3⟩ := hv0
      obtain ⟨D1, p1, p2, p3, p4⟩ := x40 (w := w) (d := dpo_ c o + 8) hr (by omega) m2 m1
      have v1 : vst_ k D1 (T + 1) f1 f1 a := by
        refine ⟨M, m1, p3, ?_⟩
        rcases m3 with ⟨z1, z2⟩ | ⟨z1, z2, z3⟩
        · exact Or.inl ⟨z1, Or.inl z1⟩
        · exact Or.inr ⟨z2, z2, z3⟩
      obtain ⟨D2, f2, g1, g2, g3, g4⟩ := x43 (w := w) (d := dpo_ c o + 3) (hw := 5) (by omega) p2 (by omega) (by omega) v1
      obtain ⟨D3, f3, l1, l2, l3, l4⟩ := x44 (w := w) (d := dpo_ c o + 3) (hw := 4) (by omega) g2 (by omega) (by omega) (v2_of hv g3 (sx_t p4 g4) (by omega))
      refine go (X + 1000 + 1000) f3 _ D3 hl (by omega) l2 l3 (sx_t (sx_w (sx_t p4 g4) (fun b hb => rx_m (Nat.le_succ T) hb)) l4) h ?_
      rw [e33_13, if_neg (by rw [nI_leI (by omega) (by omega)]; omega), s42, op_os, op_vIs, if_pos b2f_, s43, op_os, op_vIs, if_neg (by decide), p1, op_os, op_vNs, g1, op_os, op_vNs, l1, op_os, op_vNs]
    · rw [if_neg b1] at h
      rw [decide_eq_false b1] at s43
      by_cases b2 : cht_ n t i = 63
      · have hl := (cht_in b2 (by omega)).1
        rw [if_pos b2] at h
        rw [decide_eq_true b2] at s63
        obtain ⟨D1, p1, p2, p3, p4⟩ := x41 (w := w) (d := dpo_ c o + 6) hk hr (by omega)
        have v1 : vst_ k D1 (T + 1) f1 f1 (some (ep_ k)) := by
          refine ⟨ep_ k, ep_ok hk, p3, ?_⟩
          cases f1
          · exact Or.inr ⟨rfl, rfl, rfl⟩
          · exact Or.inl ⟨rfl, Or.inl rfl⟩
        obtain ⟨D3, f3, l1, l2, l3, l4⟩ := x44 (w := w) (d := dpo_ c o + 3) (hw := 1) (by omega) p2 (by omega) (by omega) (v2_of hv v1 p4 (by omega))
        refine go (X + 1000) f3 _ D3 hl (by omega) l2 l3 (sx_t (sx_w p4 (fun b hb => rx_m (Nat.le_succ T) hb)) l4) h ?_
        rw [e33_13, if_neg (by rw [nI_leI (by omega) (by omega)]; omega), s42, op_os, op_vIs, if_pos b2f_, s43, op_os, op_vIs, if_pos b2f_, s63, op_os, op_vIs, if_neg (by decide), p1, op_os, op_vNs, l1, op_os, op_vNs]
      · rw [if_neg b2] at h
        cases h
        rw [decide_eq_false b2] at s63
        refine qA_v (D' := D) (fl := f1) ?_ (sx_r _ _) (rS_m hr (by show X ≤ X + 2000 * (i - i); omega)) hv
        rw [e33_13]
        by_cases z : L = 0
        · rw [z, if_pos (by decide)]
        · rw [if_neg (by rw [nI_leI (by omega) (by omega)]; omega), s42, op_os, op_vIs, if_pos b2f_, s43, op_os, op_vIs, if_pos b2f_, s63, op_os, op_vIs, if_pos b2f_]
theorem ia_40 (k : Nat) : ia_ k 40 = true := rfl
theorem ia_33 (k : Nat) : ia_ k 33 = true := rfl
theorem A8_s (ht : tw_ n t) (hk : 1 ≤ k ∧ k ≤ 4) (h0 : A0_ w n k t u) (h8 : A8_ w n k t u) : A8_ w n k t (u + 1) := by
  intro c o i T X f0 D r ho hi hT hX hr h
  have hn := ht.1
  rw [pzr_8] at h
  have s40 := x35 (w := w) (d := dpo_ c o + 8) (c := 40) ht hr hi (by omega) (by omega)
  have s33 := x35 (w := w) (d := dpo_ c o + 8) (c := 33) ht hr hi (by omega) (by omega)
  have s36 := x36 (w := w) (d := dpo_ c o + 6) ht hk.2 hr hi
  -- does it open?
  have head : k34_0 w (dpo_ c o + 10) (nI o) D = k34_23 w (dpo_ c o + 10) (nI o) (b2_ (decide (cht_ n t i = 40 ∨ cht_ n t i = 33))) D := by
    rw [e34_0, s40, op_os, op_vIs]
    by_cases b : cht_ n t i = 40
    · rw [decide_eq_true b, if_pos (by decide), e34_18, decide_eq_true (Or.inl b)]
      rfl
    · rw [decide_eq_false b, if_neg (by decide), s33, op_os, op_vIs]
      by_cases b1 : cht_ n t i = 33
      · rw [decide_eq_true b1, if_neg (by decide), e34_18, decide_eq_true (Or.inr b1)]
        rfl
      · rw [decide_eq_false b1, if_pos b2f_, decide_eq_false (by omega)]
        rfl
  -- a fault here
  have bad : k34_0 w (dpo_ c o + 10) (nI o) D = k34_41 w (dpo_ c o + 10) D → qA_ n k t D T f0 (k34_0 w (dpo_ c o + 10) (nI o) D) (.inl i) (X + 2000 * (n + 2 - i)) (fun j => X + 2000 * (j - i) - 1000) := by
    intro hE
    obtain ⟨g1, g2⟩ := x38 (w := w) (d := dpo_ c o + 8) hr (by omega) hi
    obtain ⟨q, D2, l1, l2, l3⟩ := x39f (w := w) (d := dpo_ c o + 8) g2
    refine qA_f (D' := D2) ?_ (sx_t (sx_I (by unfold rx_; omega)) (sx_w l3 (fun b hb => by unfold rx_; omega))) (rF_m l2 (by omega))
    rw [hE, e34_41, g1, op_os, op_vNs, l1]
    rfl
  by_cases b : ia_ k (cht_ n t i) = true
  · have hl := ia_in b
    have hct : cht_ n t i = t i := if_pos hl
    rw [if_pos b] at h
    rw [b] at s36
    by_cases b1 : (cht_ n t i = 40 ∨ cht_ n t i = 33) ∧ 30 ≤ o
    · rw [if_pos b1] at h
      cases h
      refine bad ?_
      rw [head, e34_23, s36, op_os, op_vIs, if_neg (by decide), decide_eq_true b1.1, if_neg (by decide), if_neg (by rw [nI_ltI (by omega) (by omega)]; omega)]
    · rw [if_neg b1] at h
      have h53 : k34_0 w (dpo_ c o + 10) (nI o) D = k34_53 w (dpo_ c o + 10) (nI o) D := by
        rw [head, e34_23, s36, op_os, op_vIs, if_neg (by decide)]
        by_cases b2 : cht_ n t i = 40 ∨ cht_ n t i = 33
        · rw [decide_eq_true b2, if_neg (by decide), if_pos ((nI_ltI (by omega) (by omega)).mpr (by omega))]
        · rw [decide_eq_false b2, if_pos b2f_]
      have y1 : sx_ (rx_ T) D (dI_ D 50 5 (nI (i + 1))) := sx_I (by unfold rx_; omega)
      by_cases b2 : cht_ n t i = 40
      · have ho' : o < 30 := by omega
        rw [if_pos b2] at h
        rw [decide_eq_true b2] at s40
        have head2 : k34_0 w (dpo_ c o + 10) (nI o) D = op_o (k30_0 w (dpo_ c (o + 1) + 14) (nI (o + 1)) (dI_ D 50 5 (nI (i + 1)))) none (fun p6 => op_vN p6.1 none (op_o (k35_0 w (dpo_ c o + 9) (nI 41) p6.2) none (fun p7 => op_vI p7.1 none (fun n7 => if n7 ≠ (nI 0) then (k34_92 w (dpo_ c o + 10) p7.2) else (op_o (k38_0 w (dpo_ c o + 9) p7.2) none (fun p8 => op_vN p8.1 none (k34_92 w (dpo_ c o + 10) p8.2))))))) := by
          rw [h53, e34_53, s40, op_os, op_vIs, if_neg (by decide), hr.2.1, nI_add, nI_add, ← show dpo_ c o + 9 = dpo_ c (o + 1) + 14 by rw [dpo_s ho']]
        have hr0 : rS_ n k t (dI_ D 50 5 (nI (i + 1))) (i + 1) T X f0 := rS_p hr
        rcases bd_s h with ⟨f, e1, rfl⟩ | ⟨j, v, e1, e2⟩
        · obtain ⟨D1, q1, q2, q3, q4⟩ := h0 c (o + 1) (i + 1) T X f0 _ _ (by omega) hl (by omega) (by omega) hr0 e1
          have fF := q3 f rfl
          refine qA_f (D' := dI_ D1 50 5 (D1.1 50 5 + nI 1)) ?_ (sx_t (sx_t y1 q2) (sx_I (by unfold rx_; omega))) ⟨rP_I (rF_m fF (by omega)).1 (by omega), ?_, ?_, fF.2.2.2⟩
          · rw [head2, q1, op_os, op_vNs, x35f fF ht, op_os, op_vIs, if_neg (fun z => z rfl), x38f fF ht, op_os, op_vNs, e34_92]
          · obtain ⟨T', z1, z2⟩ := fF.2.1
            exact ⟨T', z1, by rw [dI_at, if_neg (by omega)]; exact z2⟩
          · rw [dI_at, if_neg (by omega)]
            exact fF.2.2.1
        · have mo : i + 1 ≤ j ∧ j ≤ n ∧ _ := pzr_mono u 0 (o + 1) (i + 1) none _ hl e1
          obtain ⟨D1, q1, q2, q3, q4⟩ := h0 c (o + 1) (i + 1) T X f0 _ _ (by omega) hl (by omega) (by omega) hr0 e1
          obtain ⟨f1, r1, v1⟩ := q4 j v rfl
          have s41 := x35 (w := w) (d := dpo_ c o + 8) (c := 41) ht r1 mo.2.1 (by omega) (by omega)
          by_cases b3 : cht_ n t j = 41
          · rw [if_pos b3] at e2
            cases e2
            rw [decide_eq_true b3] at s41
            have y3 : sx_ (fun b => b = 50) D1 (dI_ D1 50 5 (nI (j + 1))) := sx_I rfl
            refine qA_v (D' := dI_ D1 50 5 (nI (j + 1))) (fl := f1) ?_ (sx_t (sx_t y1 q2) (sx_w y3 (fun b hb => by unfold rx_; omega))) (rS_m (rS_p r1) (by show X + 2000 * (j - (i + 1)) ≤ X + 2000 * (j + 1 - i) - 1000; omega)) ?_
            · rw [head2, q1, op_os, op_vNs, s41, op_os, op_vIs, if_pos (by decide), e34_92, r1.2.1, nI_add]
            · obtain ⟨M, m1, m2, m3⟩ := v1
              exact ⟨M, m1, cm_sx m2 y3 (by omega) (by omega) (by omega), m3⟩
          · rw [if_neg b3] at e2
            cases e2
            rw [decide_eq_false b3] at s41
            obtain ⟨g1, g2⟩ := x38 (w := w) (d := dpo_ c o + 8) r1 (by omega) mo.2.1
            have e5 : (dI_ D1 50 6 (nI j)).1 50 5 = nI j := by
              rw [dI_at, if_neg (by omega)]
              exact r1.2.1
            refine qA_f (D' := dI_ (dI_ D1 50 6 (nI j)) 50 5 (nI (j + 1))) ?_ (sx_t (sx_t y1 q2) (sx_t (sx_I (by unfold rx_; omega)) (sx_I (by unfold rx_; omega)))) ⟨rP_I (rF_m g2 (by show X + 2000 * (j - (i + 1)) ≤ X + 2000 * (n + 2 - i); omega)).1 (by omega), ?_, ?_, g2.2.2.2⟩
            · rw [head2, q1, op_os, op_vNs, s41, op_os, op_vIs, if_neg (fun z => z rfl), g1, op_os, op_vNs, e34_92, e5, nI_add]
            · obtain ⟨T', z1, z2⟩ := g2.2.1
              exact ⟨T', z1, by rw [dI_at, if_neg (by omega)]; exact z2⟩
            · rw [dI_at, if_neg (by omega)]
              exact g2.2.2.1
      · rw [if_neg b2] at h
        rw [decide_eq_false b2] at s40
        by_cases b3 : cht_ n t i = 33
        · have ho' : o < 30 := by omega
          rw [if_pos b3] at h
          rw [decide_eq_true b3] at s33
          have head2 : k34_0 w (dpo_ c o + 10) (nI o) D = op_o (k34_0 w (dpo_ (c + 4) (o + 1) + 10) (nI (o + 1)) (dI_ D 50 5 (nI (i + 1)))) none (fun p4 => op_vN p4.1 none (op_o (k43_0 w (dpo_ c o + 9) (nI 7) p4.2) none (fun p5 => op_vN p5.1 none (some (none, p5.2))))) := by
            rw [h53, e34_53, s40, op_os, op_vIs, if_pos b2f_, s33, op_os, op_vIs, if_neg (by decide), hr.2.1, nI_add, nI_add, ← show dpo_ c o + 9 = dpo_ (c + 4) (o + 1) + 10 by rw [dpo_4 ho']]
          have hr0 : rS_ n k t (dI_ D 50 5 (nI (i + 1))) (i + 1) T X f0 := rS_p hr
          rcases bd_s h with ⟨f, e1, rfl⟩ | ⟨j, v, e1, e2⟩
          · obtain ⟨D1, q1, q2, q3, q4⟩ := h8 (c + 4) (o + 1) (i + 1) T X f0 _ _ (by omega) hl (by omega) (by omega) hr0 e1
            refine qA_f (D' := D1) ?_ (sx_t y1 q2) (rF_m (q3 f rfl) (by omega))
            rw [head2, q1, op_os, op_vNs, x43f (q3 f rfl) ht]
            rfl
          · have mo : i + 1 ≤ j ∧ j ≤ n ∧ (8 = 6 ∨ 8 = 8 → i + 1 < j) := pzr_mono u 8 (o + 1) (i + 1) none _ hl e1
            have mo1 := mo.2.2 (Or.inr rfl)
            cases e2
            obtain ⟨D1, q1, q2, q3, q4⟩ := h8 (c + 4) (o + 1) (i + 1) T X f0 _ _ (by omega) hl (by omega) (by omega) hr0 e1
            obtain ⟨f1, r1, v1⟩ := q4 j v rfl
            obtain ⟨D2, f2, g1, g2, g3, g4⟩ := x43 (w := w) (d := dpo_ c o + 2) (hw := 7) (by omega) r1 (by omega) (by show X + 2000 * (j - (i + 1)) - 1000 + 1000 < 2 ^ 31; omega) v1
            refine qA_v (D' := D2) (fl := f2) ?_ (sx_t (sx_t y1 q2) g4) (rS_m g2 (by show X + 2000 * (j - (i + 1)) - 1000 + 1000 ≤ X + 2000 * (j - i) - 1000; omega)) g3
            rw [head2, q1, op_os, op_vNs, g1]
            rfl
        · rw [if_neg b3] at h
          cases h
          rw [decide_eq_false b3] at s33
          have hc : t i = 46 ∨ t i = 48 ∨ (97 ≤ t i ∧ t i < 97 + k) := by
            rw [hct] at b b2 b3
            unfold ia_ at b
            rw [decide_eq_false b2, decide_eq_false b3, Bool.false_or, Bool.false_or, Bool.or_eq_true, Bool.or_eq_true] at b
            rcases b with q | q | q
            · exact Or.inl (of_decide_eq_true q)
            · exact Or.inr (Or.inl (of_decide_eq_true q))
            · exact Or.inr (Or.inr (of_decide_eq_true q))
          obtain ⟨D1, q1, q2, q3, q4⟩ := x42 (w := w) (d := dpo_ c o + 3) ht hk hr (by omega) hl (by omega) hc
          have y3 : sx_ (fun b => b = 50) D1 (dI_ D1 50 5 (nI (i + 1))) := sx_I rfl
          refine qA_v (D' := dI_ D1 50 5 (nI (i + 1))) (fl := f0) ?_ (sx_t q4 (sx_w y3 (fun b hb => by unfold rx_; omega))) (rS_m (rS_p q2) (by show X + 1000 ≤ X + 2000 * (i + 1 - i) - 1000; omega)) ⟨lv_ k (cht_ n t i), lv_ok hk, ?_, ?_⟩
          · rw [h53, e34_53, s40, op_os, op_vIs, if_pos b2f_, s33, op_os, op_vIs, if_pos b2f_, q1, op_os, op_vNs, q2.2.1, nI_add]
          · rw [hct]
            exact cm_sx q3 y3 (by omega) (by omega) (by omega)
          · cases f0
            · exact Or.inr ⟨rfl, rfl, rfl⟩
            · exact Or.inl ⟨rfl, Or.inl rfl⟩
  · rw [if_neg b] at h
    cases h
    rw [Bool.eq_false_iff.mpr b] at s36
    refine bad ?_
    rw [head, e34_23, s36, op_os, op_vIs, if_pos b2f_]
theorem A_all (ht : tw_ n t) (hk : 1 ≤ k ∧ k ≤ 4) : ∀ u, (A0_ w n k t u ∧ A1_ w n k t u ∧ A2_ w n k t u) ∧ (A3_ w n k t u ∧ A4_ w n k t u ∧ A5_ w n k t u) ∧ (A6_ w n k t u ∧ A7_ w n k t u ∧ A8_ w n k t u)
  | 0 => by
    refine ⟨⟨?_, ?_, ?_⟩, ⟨?_, ?_, ?_⟩, ⟨?_, ?_, ?_⟩⟩
    · intro c o i T X f0 D r _ _ _ _ _ h
      cases h
    · intro c o i T X L f0 f1 a D r _ _ _ _ _ _ _ _ h
      cases h
    · intro c o i T X f0 D r _ _ _ _ _ h
      cases h
    · intro c o i T X L f0 f1 a D r _ _ _ _ _ _ _ _ h
      cases h
    · intro c o i T X f0 D r _ _ _ _ _ h
      cases h
    · intro c o i T X L f0 f1 a D r _ _ _ _ _ _ _ _ h
      cases h
    · intro c o i T X f0 D r _ _ _ _ _ h
      cases h
    · intro c o i T X L f0 f1 a D r _ _ _ _ _ _ _ _ h
      cases h
    · intro c o i T X f0 D r _ _ _ _ _ h
      cases h
  | u + 1 => by
    obtain ⟨⟨a0, a1, a2⟩, ⟨a3, a4, a5⟩, ⟨a6, a7, a8⟩⟩ := A_all ht hk u
    exact ⟨⟨A0_s ht a2 a1, A1_s ht a2 a1, A2_s ht a4 a3⟩, ⟨A3_s ht a4 a3, A4_s ht hk a6 a5, A5_s ht hk a6 a5⟩, ⟨A6_s ht a8 a7, A7_s ht hk a7, A8_s ht hk a0 a8⟩⟩
end
