/-! READER: its small steps -/
theorem dIne_ {D : dy_} {a i b : Nat} {v : Int32} (h : b ≠ a) : (dI_ D a i v).1 b = D.1 b := up_ne (f := D.1) h
/-- the cells that reading from height T on may write -/
def rx_ (T b : Nat) : Prop := (24 ≤ b ∧ b ≤ 29) ∨ (36 ≤ b ∧ b ≤ 50) ∨ (52 + 3 * T ≤ b ∧ b ≤ 341)
theorem rx_m {T T' b : Nat} (h : T ≤ T') (z : rx_ T' b) : rx_ T b := by
  unfold rx_ at *
  omega
theorem jw_rx {T q b : Nat} (hq : T ≤ q) (hq' : q < 96) (z : jw_ (52 + 3 * q) b) : rx_ T b := by
  unfold jw_ jx_ at z
  unfold rx_
  omega
def rP_ (n k : Nat) (t : Nat → Nat) (D : dy_) (X : Nat) : Prop := tp_ D n t ∧ D.1 50 4 = nI k ∧ cm_ D 30 n1_ ∧ cm_ D 33 e1_ ∧ rsp_ D X
/-- no fault so far: at place i, T machines on the stack -/
def rS_ (n k : Nat) (t : Nat → Nat) (D : dy_) (i T X : Nat) (fl : Bool) : Prop := rP_ n k t D X ∧ D.1 50 5 = nI i ∧ D.1 50 3 = nI T ∧ D.1 50 6 = -1 ∧ D.1 50 7 = b2_ fl
/-- a fault at f -/
def rF_ (n k : Nat) (t : Nat → Nat) (D : dy_) (f X : Nat) : Prop := rP_ n k t D X ∧ (∃ T, T ≤ 96 ∧ D.1 50 3 = nI T) ∧ D.1 50 6 = nI f ∧ f ≤ n
/-- the value at height T: a machine in any case; its value, if there was room -/
def vsl_ (f0 fl : Bool) (v : Option ma_) (M : ma_) : Prop := (fl = true ∧ (f0 = true ∨ v = none)) ∨ (f0 = false ∧ fl = false ∧ v = some M)
def vst_ (k : Nat) (D : dy_) (T : Nat) (f0 fl : Bool) (v : Option ma_) : Prop := ∃ M, vok_ k M ∧ cm_ D (52 + 3 * T) M ∧ vsl_ f0 fl v M
/-- two values, one above the other -/
def v2_ (k : Nat) (D : dy_) (T : Nat) (f0 fl : Bool) (a v : Option ma_) : Prop := ∃ A V, vok_ k A ∧ vok_ k V ∧ cm_ D (52 + 3 * T) A ∧ cm_ D (52 + 3 * (T + 1)) V ∧ ((fl = true ∧ (f0 = true ∨ a = none ∨ v = none)) ∨ (f0 = false ∧ fl = false ∧ a = some A ∧ v = some V))
theorem v2_of {k T : Nat} {D D1 : dy_} {f0 f1 f2 : Bool} {a v : Option ma_} (h : vst_ k D T f0 f1 a) (g : vst_ k D1 (T + 1) f1 f2 v) (s : sx_ (rx_ (T + 1)) D D1) (hT : T < 96) : v2_ k D1 T f0 f2 a v := by
  obtain ⟨A, hA, cA, h⟩ := h
  obtain ⟨V, hV, cV, g⟩ := g
  refine ⟨A, V, hA, hV, cm_sx cA s (by unfold rx_; omega) (by unfold rx_; omega) (by unfold rx_; omega), cV, ?_⟩
  rcases g with ⟨z1, z2 | z2⟩ | ⟨z1, z2, z3⟩
  · rcases h with ⟨_, y2 | y2⟩ | ⟨y1, y2, y3⟩
    · exact Or.inl ⟨z1, Or.inl y2⟩
    · exact Or.inl ⟨z1, Or.inr (Or.inl y2)⟩
    · rw [y2] at z2
      cases z2
  · exact Or.inl ⟨z1, Or.inr (Or.inr z2)⟩
  · rcases h with ⟨y1, _⟩ | ⟨y1, y2, y3⟩
    · rw [z1] at y1
      cases y1
    · exact Or.inr ⟨y1, z2, y3, z3⟩
section
variable {w : (Nat → Int32) × Nat} {d n k : Nat} {t : Nat → Nat} {D : dy_} {i T X : Nat} {fl : Bool}
theorem rP_sx {D' : dy_} {X' : Nat} (h : rP_ n k t D X) (s : sx_ (rx_ 0) D D') (hk : D'.1 50 4 = nI k) (hr : rsp_ D' X') : rP_ n k t D' X' := by
  obtain ⟨h1, h2, h3, h4, h5⟩ := h
  refine ⟨?_, hk, cm_sx h3 s (by unfold rx_; omega) (by unfold rx_; omega) (by unfold rx_; omega), cm_sx h4 s (by unfold rx_; omega) (by unfold rx_; omega) (by unfold rx_; omega), hr⟩
  unfold tp_ at *
  rw [(s 21 (by unfold rx_; omega)).1, (s 22 (by unfold rx_; omega)).1]
  exact h1
theorem rP_I {j : Nat} {v : Int32} (h : rP_ n k t D X) (hj : j ≠ 4) : rP_ n k t (dI_ D 50 j v) X := by
  refine rP_sx h (sx_I (by unfold rx_; omega)) ?_ (rsp_fr h.2.2.2.2 (dIne_ (by omega)) (dIne_ (by omega)) (dIne_ (by omega)))
  rw [dI_at, if_neg (by omega)]
  exact h.2.1
theorem rS_p {j : Nat} (h : rS_ n k t D i T X fl) : rS_ n k t (dI_ D 50 5 (nI j)) j T X fl := by
  obtain ⟨h1, h2, h3, h4, h5⟩ := h
  refine ⟨rP_I h1 (by omega), ?_, ?_, ?_, ?_⟩
  · rw [dI_at, if_pos ⟨rfl, rfl⟩]
  · rw [dI_at, if_neg (by omega)]
    exact h3
  · rw [dI_at, if_neg (by omega)]
    exact h4
  · rw [dI_at, if_neg (by omega)]
    exact h5
theorem rS_m {X' : Nat} (h : rS_ n k t D i T X fl) (hx : X ≤ X') : rS_ n k t D i T X' fl := ⟨⟨h.1.1, h.1.2.1, h.1.2.2.1, h.1.2.2.2.1, rsp_m h.1.2.2.2.2 hx⟩, h.2⟩
theorem rF_m {f X' : Nat} (h : rF_ n k t D f X) (hx : X ≤ X') : rF_ n k t D f X' := ⟨⟨h.1.1, h.1.2.1, h.1.2.2.1, h.1.2.2.2.1, rsp_m h.1.2.2.2.2 hx⟩, h.2⟩
/-- what lies on the tape is small -/
def tw_ (n : Nat) (t : Nat → Nat) : Prop := n ≤ 500 ∧ ∀ j, j < n → t j < 256
theorem x35 {c : Nat} (ht : tw_ n t) (h : rS_ n k t D i T X fl) (hi : i ≤ n) (hc : c ≠ 0) (hc' : c < 256) : k35_0 w (d + 1) (nI c) D = some (some (.int (b2_ (decide (cht_ n t i = c)))), D) := by
  obtain ⟨h1, h2, h3, h4, h5⟩ := h
  have hn := ht.1
  rw [e35_0, if_neg (fun z => z h4), h1.1.1, h2]
  by_cases z : i < n
  · have hb := ht.2 i z
    rw [if_neg (by rw [nI_leI (by omega) (by omega)]; omega), inb_ (by omega) (by omega), nI_clamp (by omega), h1.1.2 i z]
    unfold cht_
    rw [if_pos z]
    by_cases e : t i = c
    · rw [if_neg (fun q => q (congrArg nI e)), decide_eq_true e]
      rfl
    · rw [if_pos (fun q => e ((nI_eq (by omega) (by omega)).mp q)), decide_eq_false e]
      rfl
  · rw [if_pos (by rw [nI_leI (by omega) (by omega)]; omega)]
    unfold cht_
    rw [if_neg z, decide_eq_false (fun q => hc q.symm)]
    rfl
theorem x35f {f : Nat} {x : Int32} (h : rF_ n k t D f X) (ht : tw_ n t) : k35_0 w (d + 1) x D = some (some (.int (nI 0)), D) := by
  have hn := ht.1
  have := h.2.2.2
  rw [e35_0, if_pos (fun z => (iz5_ (show f < 2 ^ 31 by omega)).mp (h.2.2.1.symm.trans z))]
theorem x37 (ht : tw_ n t) (hk : k ≤ 4) (h : rS_ n k t D i T X fl) (hi : i ≤ n) : k37_0 w (d + 2) D = some (some (.int (b2_ (decide (97 ≤ cht_ n t i ∧ cht_ n t i < 97 + k)))), D) := by
  obtain ⟨h1, h2, h3, h4, h5⟩ := h
  have hn := ht.1
  rw [e37_0, if_neg (fun z => z h4), h1.1.1, h2]
  by_cases z : i < n
  · have hb := ht.2 i z
    rw [if_pos ((nI_ltI (by omega) (by omega)).mpr z), x52 h1.1 hn z, op_os, op_vIs]
    unfold cht_
    rw [if_pos z]
    by_cases e : 97 ≤ t i
    · rw [pk_sub e, if_neg (show ¬ nI (t i - 97) < nI 0 from nI_pos (by omega)), h1.2.1]
      by_cases e2 : t i < 97 + k
      · rw [if_neg (by rw [nI_leI (by omega) (by omega)]; omega), decide_eq_true ⟨e, e2⟩]
        rfl
      · rw [if_pos (by rw [nI_leI (by omega) (by omega)]; omega), decide_eq_false (by omega)]
        rfl
    · rw [if_pos (show nI (t i) - nI 97 < nI 0 from pk_sneg (by omega) (by omega)), decide_eq_false (by omega)]
      rfl
  · rw [if_neg (by rw [nI_ltI (by omega) (by omega)]; omega)]
    unfold cht_
    rw [if_neg z, decide_eq_false (by omega)]
    rfl
theorem x37f {f : Nat} (h : rF_ n k t D f X) (ht : tw_ n t) : k37_0 w (d + 1) D = some (some (.int (nI 0)), D) := by
  have hn := ht.1
  have := h.2.2.2
  rw [e37_0, if_pos (fun z => (iz5_ (show f < 2 ^ 31 by omega)).mp (h.2.2.1.symm.trans z))]
theorem x36 (ht : tw_ n t) (hk : k ≤ 4) (h : rS_ n k t D i T X fl) (hi : i ≤ n) : k36_0 w (d + 3) D = some (some (.int (b2_ (ia_ k (cht_ n t i)))), D) := by
  rw [e36_0, x35 ht h hi (by omega) (by omega), op_os, op_vIs]
  unfold ia_
  cases c1 : decide (cht_ n t i = 40)
  · rw [if_neg (show ¬ b2_ false ≠ nI 0 from fun z => z rfl), x35 ht h hi (by omega) (by omega), op_os, op_vIs]
    cases c2 : decide (cht_ n t i = 33)
    · rw [if_neg (show ¬ b2_ false ≠ nI 0 from fun z => z rfl), x35 ht h hi (by omega) (by omega), op_os, op_vIs]
      cases c3 : decide (cht_ n t i = 46)
      · rw [if_neg (show ¬ b2_ false ≠ nI 0 from fun z => z rfl), x35 ht h hi (by omega) (by omega), op_os, op_vIs]
        cases c4 : decide (cht_ n t i = 48)
        · rw [if_neg (show ¬ b2_ false ≠ nI 0 from fun z => z rfl), x37 ht hk h hi, op_os, op_vIs]
          cases c5 : decide (97 ≤ cht_ n t i ∧ cht_ n t i < 97 + k)
          · rfl
          · rfl
        · rfl
      · rfl
    · rfl
  · rfl
theorem x36f {f : Nat} (h : rF_ n k t D f X) (ht : tw_ n t) : k36_0 w (d + 2) D = some (some (.int (nI 0)), D) := by
  rw [e36_0, x35f h ht, op_os, op_vIs, if_neg (fun z => z rfl), x35f h ht, op_os, op_vIs, if_neg (fun z => z rfl), x35f h ht, op_os, op_vIs, if_neg (fun z => z rfl), x35f h ht, op_os, op_vIs, if_neg (fun z => z rfl), x37f h ht, op_os, op_vIs, if_pos rfl]
theorem x39 (hT : T < 96) (h : D.1 50 3 = nI T) : k39_0 w (d + 1) D = some (some (.ref (52 + 3 * T)), dI_ D 50 3 (nI (T + 1))) := by
  obtain ⟨s1, s2, s3⟩ := skm_ hT
  have e1 : sh_.2.1 51 T = 52 + 3 * T := s1
  rw [e39_0, h, if_neg (by rw [nI_leI (by omega) (by omega)]; omega), nI_add, e39_19, dI_at, if_pos ⟨rfl, rfl⟩, pk_sub (by omega), Nat.add_sub_cancel, inb_ hT (by omega), nI_clamp (by omega), e1, if_neg (by omega), if_neg (by omega)]
theorem x39f {f : Nat} (h : rF_ n k t D f X) : ∃ r D', k39_0 w (d + 1) D = some (some (.ref r), D') ∧ rF_ n k t D' f X ∧ sx_ (fun b => b = 50) D D' := by
  obtain ⟨h1, ⟨T, hT, h2⟩, h3, h4⟩ := h
  by_cases z : T < 96
  · refine ⟨_, _, x39 z h2, ⟨rP_I h1 (by omega), ⟨T + 1, by omega, by rw [dI_at, if_pos ⟨rfl, rfl⟩]⟩, by rw [dI_at, if_neg (by omega)]; exact h3, h4⟩, sx_I rfl⟩
  · obtain rfl : T = 96 := by omega
    refine ⟨52 + 3 * 95, D, ?_, ⟨h1, ⟨96, hT, h2⟩, h3, h4⟩, sx_r _ _⟩
    rw [e39_0, h2, if_pos (by decide), e39_19, h2, pk_sub (by omega), inb_ (by omega) (by omega), nI_clamp (by omega), if_neg (by decide), if_neg (by decide)]
    rfl
theorem x45 (h4 : D.1 50 6 = -1) (h5 : D.1 50 7 = b2_ fl) : k45_0 w (d + 1) D = some (some (.int (b2_ (!fl))), D) := by
  rw [e45_0, if_neg (fun z => z h4), h5]
  cases fl
  · rfl
  · rfl
theorem x45f {f : Nat} (h : rF_ n k t D f X) (ht : tw_ n t) : k45_0 w (d + 1) D = some (some (.int (nI 0)), D) := by
  have hn := ht.1
  have := h.2.2.2
  rw [e45_0, if_pos (fun z => (iz5_ (show f < 2 ^ 31 by omega)).mp (h.2.2.1.symm.trans z))]
theorem rS_sx {D' : dy_} (h : rS_ n k t D i T X fl) (s : sx_ (fun b => 52 ≤ b ∧ b ≤ 341) D D') : rS_ n k t D' i T X fl := by
  obtain ⟨h1, h2, h3, h4, h5⟩ := h
  have e := (s 50 (by omega)).1
  refine ⟨rP_sx h1 (sx_w s (fun b hb => by unfold rx_; omega)) (by rw [e]; exact h1.2.1) (rsp_fr h1.2.2.2.2 (s _ (by omega)).1 (s _ (by omega)).1 (s _ (by omega)).1), by rw [e]; exact h2, by rw [e]; exact h3, by rw [e]; exact h4, by rw [e]; exact h5⟩
theorem rS_T {T' : Nat} (h : rS_ n k t D i T X fl) : rS_ n k t (dI_ D 50 3 (nI T')) i T' X fl := by
  obtain ⟨h1, h2, h3, h4, h5⟩ := h
  refine ⟨rP_I h1 (by omega), ?_, ?_, ?_, ?_⟩
  · rw [dI_at, if_neg (by omega)]
    exact h2
  · rw [dI_at, if_pos ⟨rfl, rfl⟩]
  · rw [dI_at, if_neg (by omega)]
    exact h4
  · rw [dI_at, if_neg (by omega)]
    exact h5
theorem rS_fl {g : Bool} (h : rS_ n k t D i T X fl) : rS_ n k t (dI_ D 50 7 (b2_ g)) i T X g := by
  obtain ⟨h1, h2, h3, h4, h5⟩ := h
  refine ⟨rP_I h1 (by omega), ?_, ?_, ?_, ?_⟩
  · rw [dI_at, if_neg (by omega)]
    exact h2
  · rw [dI_at, if_neg (by omega)]
    exact h3
  · rw [dI_at, if_neg (by omega)]
    exact h4
  · rw [dI_at, if_pos ⟨rfl, rfl⟩]
/-- what the workshop changes -/
theorem rS_jw {D' : dy_} {q X' : Nat} (h : rS_ n k t D i T X fl) (s : sx_ (jw_ (52 + 3 * q)) D D') (hq : q < 96) (hr : rsp_ D' X') : rS_ n k t D' i T X' fl := by
  obtain ⟨h1, h2, h3, h4, h5⟩ := h
  have e := (s 50 (by unfold jw_ jx_; omega)).1
  refine ⟨rP_sx h1 (sx_w s (fun b hb => jw_rx (Nat.zero_le q) hq hb)) (by rw [e]; exact h1.2.1) hr, by rw [e]; exact h2, by rw [e]; exact h3, by rw [e]; exact h4, by rw [e]; exact h5⟩
theorem x38 (h : rS_ n k t D i T X fl) (hT : T ≤ 96) (hi : i ≤ n) : k38_0 w (d + 1) D = some (none, dI_ D 50 6 (nI i)) ∧ rF_ n k t (dI_ D 50 6 (nI i)) i X := by
  obtain ⟨h1, h2, h3, h4, h5⟩ := h
  refine ⟨?_, rP_I h1 (by omega), ⟨T, hT, ?_⟩, ?_, hi⟩
  · rw [e38_0, if_neg (fun z => z h4), h2]
  · rw [dI_at, if_neg (by omega)]
    exact h3
  · rw [dI_at, if_pos ⟨rfl, rfl⟩]
theorem x38f {f : Nat} (h : rF_ n k t D f X) (ht : tw_ n t) : k38_0 w (d + 1) D = some (none, D) := by
  have hn := ht.1
  have := h.2.2.2
  rw [e38_0, if_pos (fun z => (iz5_ (show f < 2 ^ 31 by omega)).mp (h.2.2.1.symm.trans z))]
theorem x40 (h : rS_ n k t D i (T + 1) X fl) (hT : T + 1 < 96) {M : ma_} (hc : cm_ D (52 + 3 * T) M) (hM : vok_ k M) : ∃ D', k40_0 w (d + 2) D = some (none, D') ∧ rS_ n k t D' i (T + 2) X fl ∧ cm_ D' (52 + 3 * (T + 1)) M ∧ sx_ (rx_ (T + 1)) D D' := by
  obtain ⟨s1, s2, s3⟩ := skm_ (show T < 96 by omega)
  obtain ⟨p1, p2, p3⟩ := skm_ hT
  have e1 : sh_.2.1 51 T = 52 + 3 * T := s1
  have a0 : sx_ (fun b => b = 50) D (dI_ D 50 3 (nI (T + 2))) := sx_I rfl
  obtain ⟨D', q1, q2, q3⟩ := x14 (w := w) (d := d) (M := M) p2 s2 (by omega) (cm_sx hc a0 (by omega) (by omega) (by omega)) hM.1 (by rw [p3]; exact hM.2.1) (by rw [s3]; exact hM.2.1)
  refine ⟨D', ?_, rS_sx (rS_T h) (sx_w q3 (fun b hb => by omega)), q2, sx_t (sx_w a0 (fun b hb => by unfold rx_; omega)) (sx_w q3 (fun b hb => by unfold rx_; omega))⟩
  have h3 := h.2.2.1
  rw [e40_0, h3, if_neg (by rw [nI_ltI (by omega) (by omega)]; omega), pk_sub (by omega), Nat.add_sub_cancel, inb_ (by omega) (by omega), nI_clamp (by omega), e1, if_neg (by omega), x39 hT h3, op_os]
  show (if (sh_.1 (52 + 3 * (T + 1))).1 = 11 then _ else none) = _
  rw [(mM_ p2).1, if_pos rfl]
  show op_o (k14_0 w (d + 1) (52 + 3 * (T + 1)) (52 + 3 * T) (dI_ D 50 3 (nI (T + 2)))) none _ = _
  rw [q1]
  rfl
theorem x41 (hk : 1 ≤ k ∧ k ≤ 4) (h : rS_ n k t D i T X fl) (hT : T < 96) : ∃ D', k41_0 w (d + 4) D = some (none, D') ∧ rS_ n k t D' i (T + 1) X fl ∧ cm_ D' (52 + 3 * T) (ep_ k) ∧ sx_ (rx_ T) D D' := by
  obtain ⟨s1, s2, s3⟩ := skm_ hT
  obtain ⟨m1, m2, m3, m4, m5, m6⟩ := mM_ s2
  have h3 := h.2.2.1
  have h4 := h.1.2.1
  have e4 : (dI_ D 50 3 (nI (T + 1))).1 50 4 = nI k := by
    rw [dI_at, if_neg (by omega)]
    exact h4
  obtain ⟨D1, q1, q2, q3⟩ := m_reset (xs := w.1) (L := w.2) (d := d) (D := dI_ D 50 3 (nI (T + 1))) s2 hk (show 2 ≤ cap_ (52 + 3 * T) by omega)
  have q1' : k6_0 w (d + 3) (52 + 3 * T) (nI k) (nI 2) (dI_ D 50 3 (nI (T + 1))) = some (none, D1) := q1
  obtain ⟨c1, c2, c3, c4, c5⟩ := q2
  have hb2 : (dI_ D1 (52 + 3 * T + 2) 0 1).1 (52 + 3 * T) 2 = nI k := by
    rw [dI_at, if_neg (by omega)]
    exact c1
  have q4 : k11_0 w (d + 3) (52 + 3 * T) (nI 0) (nI 1) (dI_ D1 (52 + 3 * T + 2) 0 1) = some (none, fr_ (dI_ D1 (52 + 3 * T + 2) 0 1) (52 + 3 * T + 1) (0 * k) k (nI 1)) := m_leadAll s2 hb2 hk.2 (by omega)
  have sx1 : sx_ (fun b => 52 + 3 * T ≤ b ∧ b ≤ 52 + 3 * T + 2) (dI_ D 50 3 (nI (T + 1))) (fr_ (dI_ D1 (52 + 3 * T + 2) 0 1) (52 + 3 * T + 1) (0 * k) k (nI 1)) := fun b hb => by
    have := q3 b (by omega)
    refine ⟨?_, this.2⟩
    rw [fr_ne (by omega)]
    exact (up_ne (f := D1.1) (by omega)).trans this.1
  refine ⟨_, ?_, rS_sx (rS_T h) (sx_w sx1 (fun b hb => by omega)), ⟨?_, ?_, ?_, ?_, ?_⟩, sx_t (sx_I (by unfold rx_; omega)) (sx_w sx1 (fun b hb => by unfold rx_; omega))⟩
  · rw [e41_0, x39 hT h3, op_os]
    show (if (sh_.1 (52 + 3 * T)).1 = 11 then _ else none) = _
    rw [m1, if_pos rfl]
    show op_o (k6_0 w (d + 3) (52 + 3 * T) ((dI_ D 50 3 (nI (T + 1))).1 50 4) (nI 2) (dI_ D 50 3 (nI (T + 1)))) none _ = _
    rw [e4, q1', op_os, op_vNs, if_pos rfl, m3, if_neg (by omega), m5, if_pos rfl, inb_ (show 0 < cap_ (52 + 3 * T) by omega) (show cap_ (52 + 3 * T) < 2 ^ 31 by omega), if_pos rfl]
    show op_o (k11_0 w (d + 3) (52 + 3 * T) (nI 0) (nI 1) (dI_ D1 (52 + 3 * T + 2) 0 1)) none _ = _
    rw [q4]
    rfl
  · rw [fr_ne (by omega), dI_at, if_neg (by omega)]
    exact c1
  · rw [fr_ne (by omega), dI_at, if_neg (by omega)]
    exact c2
  · rw [fr_ne (by omega), dI_at, if_neg (by omega)]
    exact c3
  · intro p l hp hl
    have hp' : p < 2 := hp
    have hl' : l < k := hl
    show (fr_ (dI_ D1 (52 + 3 * T + 2) 0 1) (52 + 3 * T + 1) (0 * k) k (nI 1)).1 (52 + 3 * T + 1) (p * k + l) = nI 1
    rw [fr_at]
    rcases (show p = 0 ∨ p = 1 by omega) with rfl | rfl
    · rw [if_pos ⟨by omega, by omega⟩]
    · rw [if_neg (by omega), dI_at, if_neg (by omega)]
      exact c4 1 l hp hl
  · intro p hp
    have hp' : p < 2 := hp
    show (fr_ (dI_ D1 (52 + 3 * T + 2) 0 1) (52 + 3 * T + 1) (0 * k) k (nI 1)).1 (52 + 3 * T + 2) p = b2_ (decide (p = 0))
    rw [fr_ne (by omega), dI_at]
    rcases (show p = 0 ∨ p = 1 by omega) with rfl | rfl
    · rw [if_pos ⟨rfl, rfl⟩]
      rfl
    · rw [if_neg (by omega)]
      exact c5 1 hp
/-- pushLetters -/
theorem x42 (ht : tw_ n t) (hk : 1 ≤ k ∧ k ≤ 4) (h : rS_ n k t D i T X fl) (hT : T < 96) (hi : i < n) (hX : X + 1000 < 2 ^ 31) (hc : t i = 46 ∨ t i = 48 ∨ (97 ≤ t i ∧ t i < 97 + k)) : ∃ D', k42_0 w (d + 6) D = some (none, D') ∧ rS_ n k t D' i (T + 1) (X + 1000) fl ∧ cm_ D' (52 + 3 * T) (lv_ k (t i)) ∧ sx_ (rx_ T) D D' := by
  obtain ⟨s1, s2, s3⟩ := skm_ hT
  obtain ⟨m1, m2, m3, m4, m5, m6⟩ := mM_ s2
  have hn := ht.1
  have h3 := h.2.2.1
  have h4 := h.1.2.1
  have hcht : cht_ n t i = t i := if_pos hi
  have e4 : (dI_ D 50 3 (nI (T + 1))).1 50 4 = nI k := by
    rw [dI_at, if_neg (by omega)]
    exact h4
  have r0 : rS_ n k t (dI_ D 50 3 (nI (T + 1))) i (T + 1) X fl := rS_T h
  have g48 := x35 (w := w) (d := d + 4) (c := 48) ht r0 (Nat.le_of_lt hi) (by omega) (by omega)
  have g46 := x35 (w := w) (d := d + 4) (c := 46) ht r0 (Nat.le_of_lt hi) (by omega) (by omega)
  have g97 := x35 (w := w) (d := d + 4) (c := 97) ht r0 (Nat.le_of_lt hi) (by omega) (by omega)
  rw [hcht] at g48 g46 g97
  by_cases e48 : t i = 48
  · obtain ⟨D1, q1, q2, q3⟩ := m_reset (xs := w.1) (L := w.2) (d := d + 2) (D := dI_ D 50 3 (nI (T + 1))) s2 hk (show 1 ≤ cap_ (52 + 3 * T) by omega)
    have q1' : k6_0 w (d + 5) (52 + 3 * T) (nI k) (nI 1) (dI_ D 50 3 (nI (T + 1))) = some (none, D1) := q1
    have y1 : sx_ (fun b => 52 ≤ b ∧ b ≤ 341) (dI_ D 50 3 (nI (T + 1))) D1 := sx_w q3 (fun b hb => by omega)
    refine ⟨D1, ?_, rS_m (rS_sx r0 y1) (by omega), cm_em q2 ?_, sx_t (sx_I (by unfold rx_; omega)) (sx_w q3 (fun b hb => by unfold rx_; omega))⟩
    · rw [e42_0, x39 hT h3, op_os, op_vRs, g48, op_os, op_vIs, decide_eq_true e48, if_neg (by decide), m1, if_pos rfl]
      show op_o (k6_0 w (d + 5) (52 + 3 * T) ((dI_ D 50 3 (nI (T + 1))).1 50 4) (nI 1) (dI_ D 50 3 (nI (T + 1)))) none _ = _
      rw [e4, q1']
      rfl
    · unfold lv_
      rw [if_pos e48]
      refine ⟨rfl, rfl, rfl, fun p l hp hl => ?_, fun _ _ => rfl⟩
      have hp' : p < 1 := hp
      show p = 0
      omega
  -- the state that accepts
  have hc' : t i = 46 ∨ (97 ≤ t i ∧ t i < 97 + k) := by omega
  obtain ⟨tk, htk⟩ : ∃ x, tkn_ (t i) = x := ⟨_, rfl⟩
  have tk12 : tk = 1 ∨ tk = 2 := by
    rw [← htk]
    exact tkn_1 (t i)
  have hq : (tk = 1 ∧ tk * k = k) ∨ (tk = 2 ∧ tk * k = k + k) := by
    rcases tk12 with z | z
    · exact Or.inl ⟨z, by rw [z]; omega⟩
    · exact Or.inr ⟨z, by rw [z]; omega⟩
  have head : k42_0 w (d + 6) D = k42_47 w (d + 6) (52 + 3 * T) (nI tk) (dI_ D 50 3 (nI (T + 1))) := by
    rw [e42_0, x39 hT h3, op_os, op_vRs, g48, op_os, op_vIs, decide_eq_false e48, if_pos b2f_, g46, op_os, op_vIs]
    by_cases e46 : t i = 46
    · have : tk = 1 := by rw [← htk]; exact if_pos (Or.inl e46)
      rw [decide_eq_true e46, if_pos (by decide), e42_42 s2, this]
    · rw [decide_eq_false e46, if_neg (fun z => z b2f_), g97, op_os, op_vIs]
      by_cases e97 : t i = 97
      · have : tk = 1 := by rw [← htk]; exact if_pos (Or.inr e97)
        rw [decide_eq_true e97, if_neg (by decide), e42_42 s2, this]
      · have : tk = 2 := by rw [← htk]; exact if_neg (by omega)
        rw [decide_eq_false e97, if_pos b2f_, this]
  obtain ⟨D1, q1, q2, q3⟩ := m_reset (xs := w.1) (L := w.2) (d := d + 2) (D := dI_ D 50 3 (nI (T + 1))) s2 hk (show 3 ≤ cap_ (52 + 3 * T) by omega)
  have q1' : k6_0 w (d + 5) (52 + 3 * T) (nI k) (nI 3) (dI_ D 50 3 (nI (T + 1))) = some (none, D1) := q1
  obtain ⟨c1, c2, c3, c4, c5⟩ := q2
  -- where 0 leads
  let z : Nat := if t i = 46 then tk else 3 - tk
  have hz : z = if t i = 46 then tk else 3 - tk := rfl
  let D2 : dy_ := dI_ D1 (52 + 3 * T + 2) tk 1
  let D3 : dy_ := fr_ D2 (52 + 3 * T + 1) (0 * k) k (nI z)
  let D4 : dy_ := fr_ D3 (52 + 3 * T + 1) (tk * k) k (nI (3 - tk))
  have k2 : D2.1 (52 + 3 * T) 2 = nI k := by
    rw [dI_at, if_neg (by omega)]
    exact c1
  have k3 : D3.1 (52 + 3 * T) 2 = nI k := by
    rw [fr_ne (by omega)]
    exact k2
  have k4 : D4.1 (52 + 3 * T) 2 = nI k := by
    rw [fr_ne (by omega)]
    exact k3
  have l3 : k11_0 w (d + 5) (52 + 3 * T) (nI 0) (nI z) D2 = some (none, D3) := m_leadAll s2 k2 hk.2 (by omega)
  have l4 : k11_0 w (d + 5) (52 + 3 * T) (nI tk) (nI (3 - tk)) D3 = some (none, D4) := m_leadAll s2 k3 hk.2 (by omega)
  have y2 : sx_ (fun b => 52 + 3 * T ≤ b ∧ b ≤ 52 + 3 * T + 2) (dI_ D 50 3 (nI (T + 1))) D2 := fun b hb => by
    have := q3 b (by omega)
    exact ⟨(up_ne (f := D1.1) (by omega)).trans this.1, this.2⟩
  have y4 : sx_ (fun b => 52 + 3 * T ≤ b ∧ b ≤ 52 + 3 * T + 2) (dI_ D 50 3 (nI (T + 1))) D4 := fun b hb => by
    have := y2 b hb
    exact ⟨(fr_ne (by omega)).trans ((fr_ne (by omega)).trans this.1), this.2⟩
  have r2 : rS_ n k t D2 i (T + 1) X fl := rS_sx r0 (sx_w y2 (fun b hb => by omega))
  have r4 : rS_ n k t D4 i (T + 1) X fl := rS_sx r0 (sx_w y4 (fun b hb => by omega))
  have g35 := x35 (w := w) (d := d + 4) (c := 46) ht r2 (Nat.le_of_lt hi) (by omega) (by omega)
  have g37 := x37 (w := w) (d := d + 3) ht hk.2 r4 (Nat.le_of_lt hi)
  rw [hcht] at g35 g37
  have a2 : D4.1 (52 + 3 * T) 3 = nI 3 := by
    show (fr_ (fr_ D2 _ _ _ _) _ _ _ _).1 _ _ = _
    rw [fr_ne (by omega), fr_ne (by omega), dI_at, if_neg (by omega)]
    exact c2
  have a3 : D4.1 (52 + 3 * T) 4 = nI 0 := by
    show (fr_ (fr_ D2 _ _ _ _) _ _ _ _).1 _ _ = _
    rw [fr_ne (by omega), fr_ne (by omega), dI_at, if_neg (by omega)]
    exact c3
  have a4 : ∀ p l, p < 3 → l < k → D4.1 (52 + 3 * T + 1) (p * k + l) = nI (if p = 0 then z else 3 - tk) := by
    intro p l hp hl
    show (fr_ (fr_ D2 _ _ _ _) _ _ _ _).1 _ _ = _
    rw [fr_at, fr_at]
    by_cases p0 : p = 0
    · rw [p0, if_neg (by omega), if_pos ⟨by omega, by omega⟩, if_pos rfl]
    · rw [if_neg (show ¬ p = 0 from p0)]
      by_cases pt : p = tk
      · rw [pt, if_pos ⟨by omega, by omega⟩]
      · have hp3 : p = 3 - tk := by omega
        have hpk : (p = 1 ∧ p * k = k) ∨ (p = 2 ∧ p * k = k + k) := by
          rcases (show p = 1 ∨ p = 2 by omega) with q | q
          · exact Or.inl ⟨q, by rw [q]; omega⟩
          · exact Or.inr ⟨q, by rw [q]; omega⟩
        rw [if_neg (by omega), if_neg (by omega), dI_at, if_neg (by omega), ← hp3]
        exact c4 p l hp hl
  have a5 : ∀ p, p < 3 → D4.1 (52 + 3 * T + 2) p = b2_ (decide (p = tk)) := by
    intro p hp
    show (fr_ (fr_ D2 _ _ _ _) _ _ _ _).1 _ _ = _
    rw [fr_ne (by omega), fr_ne (by omega), dI_at]
    by_cases e : p = tk
    · rw [if_pos ⟨rfl, e⟩, decide_eq_true e]
      rfl
    · rw [if_neg (by omega), decide_eq_false e]
      exact c5 p hp
  -- the way up to the last part
  have mid : k42_0 w (d + 6) D = k42_84 w (d + 6) (52 + 3 * T) (nI tk) (nI (3 - tk)) (52 + 3 * T) (nI 0) (nI z) D2 := by
    rw [head, e42_47 s2, e4, q1', op_os, op_vNs, inb_ (show tk < cap_ (52 + 3 * T) by omega) (show cap_ (52 + 3 * T) < 2 ^ 31 by omega), nI_clamp (by omega), pk_sub (show tk ≤ 3 by omega)]
    show op_o (k35_0 w (d + 5) (nI 46) D2) none _ = _
    rw [g35, op_os, op_vIs]
    by_cases e : t i = 46
    · have : z = tk := by rw [hz, if_pos e]
      rw [decide_eq_true e, if_neg (by decide), this]
    · have : z = 3 - tk := by rw [hz, if_neg e]
      rw [decide_eq_false e, if_pos b2f_, this]
  have y0 : sx_ (rx_ T) D D4 := sx_t (sx_I (by unfold rx_; omega)) (sx_w y4 (fun b hb => by unfold rx_; omega))
  by_cases e : 97 ≤ t i ∧ t i < 97 + k
  · have e46 : ¬ t i = 46 := by omega
    have z2 : z = 3 - tk := by rw [hz, if_neg e46]
    have hx52 := x52 (w := w) (d := d + 4) r4.1.1 hn hi
    rw [pk_sub e.1] at hx52
    have ld : k10_0 w (d + 5) (52 + 3 * T) (nI 0) (nI (t i - 97)) (nI tk) D4 = some (none, dI_ D4 (52 + 3 * T + 1) (0 * k + (t i - 97)) (nI tk)) := m_lead s2 k4 (by rw [s3]; omega)
    have y5 : sx_ (fun b => 52 ≤ b ∧ b ≤ 341) D4 (dI_ D4 (52 + 3 * T + 1) (0 * k + (t i - 97)) (nI tk)) := sx_I (by omega)
    refine ⟨dI_ D4 (52 + 3 * T + 1) (0 * k + (t i - 97)) (nI tk), ?_, rS_m (rS_sx r4 y5) (by omega), cm_em (M := n3l_ k (t i)) ⟨?_, ?_, ?_, ?_, ?_⟩ (lvn_ hk hc'), sx_t y0 (sx_I (by unfold rx_; omega))⟩
    · rw [mid, e42_84 s2 s2, l3, op_os, op_vNs, l4, op_os, op_vNs, g37, op_os, op_vIs, decide_eq_true e, if_neg (by decide), r4.2.1, hx52, op_os, op_vIs, ld]
      rfl
    · rw [dI_at, if_neg (by omega)]
      exact k4
    · rw [dI_at, if_neg (by omega)]
      exact a2
    · rw [dI_at, if_neg (by omega)]
      exact a3
    · intro p l hp hl
      have hp' : p < 3 := hp
      have hl' : l < k := hl
      show (dI_ D4 (52 + 3 * T + 1) (0 * k + (t i - 97)) (nI tk)).1 (52 + 3 * T + 1) (p * k + l) = nI (if p = 0 ∧ (t i = 46 ∨ t i = 97 + l) then tkn_ (t i) else 3 - tkn_ (t i))
      have hm : 1 ≤ p → k ≤ p * k := fun q => by
        have := Nat.mul_le_mul_right k q
        omega
      rw [htk, dI_at]
      by_cases q : p = 0
      · rw [q]
        by_cases q2 : t i = 97 + l
        · rw [if_pos ⟨rfl, by omega⟩, if_pos ⟨rfl, Or.inr q2⟩]
        · rw [if_neg (by omega), if_neg (by omega), a4 0 l (by omega) hl', if_pos rfl, z2]
      · have := hm (by omega)
        rw [if_neg (by omega), if_neg (by omega), a4 p l hp' hl', if_neg q]
    · intro p hp
      have hp' : p < 3 := hp
      show (dI_ D4 (52 + 3 * T + 1) (0 * k + (t i - 97)) (nI tk)).1 (52 + 3 * T + 2) p = b2_ (decide (p = tkn_ (t i)))
      rw [htk, dI_at, if_neg (by omega)]
      exact a5 p hp'
  · have e46 : t i = 46 := by omega
    have z1 : z = tk := by rw [hz, if_pos e46]
    refine ⟨D4, ?_, rS_m r4 (by omega), cm_em (M := n3l_ k (t i)) ⟨k4, a2, a3, ?_, ?_⟩ (lvn_ hk hc'), y0⟩
    · rw [mid, e42_84 s2 s2, l3, op_os, op_vNs, l4, op_os, op_vNs, g37, op_os, op_vIs, decide_eq_false e, if_pos b2f_]
    · intro p l hp hl
      have hp' : p < 3 := hp
      have hl' : l < k := hl
      show D4.1 (52 + 3 * T + 1) (p * k + l) = nI (if p = 0 ∧ (t i = 46 ∨ t i = 97 + l) then tkn_ (t i) else 3 - tkn_ (t i))
      rw [htk, a4 p l hp' hl']
      by_cases q2 : p = 0
      · rw [if_pos q2, if_pos ⟨q2, Or.inl e46⟩, z1]
      · rw [if_neg q2, if_neg (fun y => q2 y.1)]
    · intro p hp
      have hp' : p < 3 := hp
      show D4.1 (52 + 3 * T + 2) p = b2_ (decide (p = tkn_ (t i)))
      rw [htk]
      exact a5 p hp'
theorem nn104_ {m : Nat} (h : m ≤ 60) : nI m ≠ -104 := fun q => absurd (show nI m < 0 by rw [q]; decide) (nI_pos (by omega))
theorem b2_i (b : Bool) : b2_ b = nI 0 ↔ b = false := by
  cases b
  · exact ⟨fun _ => rfl, fun _ => rfl⟩
  · exact ⟨fun z => absurd z (by decide), fun z => by cases z⟩
/-- change -/
theorem x43 {hw : Nat} {f0 : Bool} {v : Option ma_} (hh : hw < 8) (h : rS_ n k t D i (T + 1) X fl) (hT : T < 96) (hX : X + 1000 < 2 ^ 31) (hv : vst_ k D T f0 fl v) : ∃ D' f', k43_0 w (d + 7) (nI hw) D = some (none, D') ∧ rS_ n k t D' i (T + 1) (X + 1000) f' ∧ vst_ k D' T f0 f' (on_ hw v) ∧ sx_ (rx_ T) D D' := by
  obtain ⟨M, hM, cM, hv⟩ := hv
  obtain ⟨s1, s2, s3⟩ := skm_ hT
  have e1 : sh_.2.1 51 T = 52 + 3 * T := s1
  have e45 := x45 (w := w) (d := d + 5) h.2.2.2.1 h.2.2.2.2
  have h3 := h.2.2.1
  rcases hv with ⟨rfl, z⟩ | ⟨rfl, rfl, rfl⟩
  · refine ⟨D, true, ?_, rS_m h (by omega), ⟨M, hM, cM, Or.inl ⟨rfl, z.imp id (fun y => by rw [y]; rfl)⟩⟩, sx_r _ _⟩
    rw [e43_0, e45, op_os, op_vIs, if_pos (show b2_ (!true) = nI 0 from rfl)]
  · have hX := hX
    obtain ⟨D1, g1, g2, g3, g4⟩ := x69 (w := w) (d := d) (h := hw) hh s2 (by omega) (by omega) s2 s2 (by omega) (by omega) cM cM hM.1 hM.1 hM.2.1 hM.2.1 (by rw [s3]; exact hM.2.1) (by rw [s3]; exact hM.2.1) rfl h.1.2.2.2.1 h.1.2.2.2.2 hX
    have hd : ∀ r, k69_0 w (d + 6) (52 + 3 * T) (nI hw) (52 + 3 * T) (52 + 3 * T) D = r → k43_0 w (d + 7) (nI hw) D = op_o r none (fun p2 => op_vI p2.1 none (fun n2 => if n2 ≠ (-104) then (some (none, (dI_ p2.2 50 7 (nI 0)))) else (some (none, (dI_ p2.2 50 7 (nI 1)))))) := by
      intro r hr
      rw [e43_0, e45, op_os, op_vIs, if_neg (by decide), h3, if_neg (by rw [nI_ltI (by omega) (by omega)]; omega), pk_sub (by omega), Nat.add_sub_cancel, inb_ hT (by omega), nI_clamp (by omega), e1, if_neg (by omega), hr]
    have rJ := rS_jw h g2 hT g1
    by_cases ok : jok_ hw M M
    · obtain ⟨q1, q2⟩ := g3 ok
      refine ⟨dI_ D1 50 7 (b2_ false), false, ?_, rS_fl rJ, ⟨qm_ (jm_ hw M M), jo_ok hh hM hM (jo_t ok), cm_sx q2 (sx_I (A := fun b => b = 50) rfl) (by omega) (by omega) (by omega), Or.inr ⟨rfl, rfl, jo_t ok⟩⟩, sx_t (sx_w g2 (fun b hb => jw_rx (Nat.le_refl T) hT hb)) (sx_I (by unfold rx_; omega))⟩
      rw [hd _ q1, op_os, op_vIs, if_pos]
      · rfl
      · have := ok.2
        exact nn104_ (by omega)
    · obtain ⟨q1, q2⟩ := g4 ok
      refine ⟨dI_ D1 50 7 (b2_ true), true, ?_, rS_fl rJ, ⟨M, hM, cm_sx (cm_sx cM q2 (by unfold jx_; omega) (by unfold jx_; omega) (by unfold jx_; omega)) (sx_I (A := fun b => b = 50) rfl) (by omega) (by omega) (by omega), Or.inl ⟨rfl, Or.inr (jo_f ok)⟩⟩, sx_t (sx_w g2 (fun b hb => jw_rx (Nat.le_refl T) hT hb)) (sx_I (by unfold rx_; omega))⟩
      rw [hd _ q1]
      rfl
/-- fold -/
theorem x44 {hw : Nat} {f0 : Bool} {a v : Option ma_} (hh : hw < 8) (h : rS_ n k t D i (T + 2) X fl) (hT : T + 1 < 96) (hX : X + 1000 < 2 ^ 31) (hv : v2_ k D T f0 fl a v) : ∃ D' f', k44_0 w (d + 7) (nI hw) D = some (none, D') ∧ rS_ n k t D' i (T + 1) (X + 1000) f' ∧ vst_ k D' T f0 f' (ob_ hw a v) ∧ sx_ (rx_ T) D D' := by
  obtain ⟨A, V, hA, hV, cA, cV, hv⟩ := hv
  obtain ⟨s1, s2, s3⟩ := skm_ (show T < 96 by omega)
  obtain ⟨p1, p2, p3⟩ := skm_ hT
  have e1 : sh_.2.1 51 T = 52 + 3 * T := s1
  have e2 : sh_.2.1 51 (T + 1) = 52 + 3 * (T + 1) := p1
  have h3 := h.2.2.1
  have r0 : rS_ n k t (dI_ D 50 3 (nI (T + 1))) i (T + 1) X fl := rS_T h
  have y0 : sx_ (fun b => b = 50) D (dI_ D 50 3 (nI (T + 1))) := sx_I rfl
  have y1 : sx_ (rx_ T) D (dI_ D 50 3 (nI (T + 1))) := sx_I (by unfold rx_; omega)
  have e45 := x45 (w := w) (d := d + 5) r0.2.2.2.1 r0.2.2.2.2
  have h3' : (dI_ D 50 3 (nI (T + 1))).1 50 3 = nI (T + 1) := r0.2.2.1
  have cA := cm_sx cA y0 (by omega) (by omega) (by omega)
  have cV := cm_sx cV y0 (by omega) (by omega) (by omega)
  have top : k44_0 w (d + 7) (nI hw) D = op_o (k45_0 w (d + 6) (dI_ D 50 3 (nI (T + 1)))) none (fun p1 => op_vI p1.1 none (fun n1 => if n1 = (nI 0) then (some (none, p1.2)) else (mk_inb ((p1.2.1 50 3) - (nI 1)) 96 none (if sh_.2.1 51 ((p1.2.1 50 3) - (nI 1)).toNatClampNeg = 0 then none else mk_inb ((p1.2.1 50 3) - (nI 1)) 96 none (if sh_.2.1 51 ((p1.2.1 50 3) - (nI 1)).toNatClampNeg = 0 then none else mk_inb (p1.2.1 50 3) 96 none (if sh_.2.1 51 (p1.2.1 50 3).toNatClampNeg = 0 then none else op_o (k69_0 w (d + 6) (sh_.2.1 51 ((p1.2.1 50 3) - (nI 1)).toNatClampNeg) (nI hw) (sh_.2.1 51 ((p1.2.1 50 3) - (nI 1)).toNatClampNeg) (sh_.2.1 51 (p1.2.1 50 3).toNatClampNeg) p1.2) none (fun p2 => op_vI p2.1 none (fun n2 => if n2 ≠ (-104) then (some (none, (dI_ p2.2 50 7 (nI 0)))) else (some (none, (dI_ p2.2 50 7 (nI 1)))))))))))) := by
    rw [e44_0, h3, if_pos (by rw [nI_leI (by omega) (by omega)]; omega), pk_sub (by omega)]
    rfl
  rcases hv with ⟨rfl, z⟩ | ⟨rfl, rfl, rfl, rfl⟩
  · refine ⟨dI_ D 50 3 (nI (T + 1)), true, ?_, rS_m r0 (by omega), ⟨A, hA, cA, Or.inl ⟨rfl, ?_⟩⟩, y1⟩
    · rw [top, e45, op_os, op_vIs, if_pos (show b2_ (!true) = nI 0 from rfl)]
    · rcases z with z | z | z
      · exact Or.inl z
      · exact Or.inr (by rw [z]; rfl)
      · exact Or.inr (by rw [z]; exact ob_n2)
  · obtain ⟨D1, g1, g2, g3, g4⟩ := x69 (w := w) (d := d) (h := hw) hh s2 (by omega) (by omega) s2 p2 (by omega) (by omega) cA cV hA.1 hV.1 hA.2.1 hV.2.1 (by rw [s3]; exact hA.2.1) (by rw [p3]; exact hV.2.1) (hA.2.2.trans hV.2.2.symm) r0.1.2.2.2.1 r0.1.2.2.2.2 hX
    have hd : ∀ r, k69_0 w (d + 6) (52 + 3 * T) (nI hw) (52 + 3 * T) (52 + 3 * (T + 1)) (dI_ D 50 3 (nI (T + 1))) = r → k44_0 w (d + 7) (nI hw) D = op_o r none (fun p2 => op_vI p2.1 none (fun n2 => if n2 ≠ (-104) then (some (none, (dI_ p2.2 50 7 (nI 0)))) else (some (none, (dI_ p2.2 50 7 (nI 1)))))) := by
      intro r hr
      rw [top, e45, op_os, op_vIs, if_neg (by decide), h3', pk_sub (by omega), Nat.add_sub_cancel, inb_ (by omega) (by omega), nI_clamp (by omega), e1, if_neg (by omega), inb_ (by omega) (by omega), if_neg (by omega), inb_ hT (by omega), nI_clamp (by omega), e2, if_neg (by omega), hr]
    have rJ := rS_jw r0 g2 (by omega) g1
    have yJ : sx_ (rx_ T) D D1 := sx_t y1 (sx_w g2 (fun b hb => jw_rx (Nat.le_refl T) (by omega) hb))
    by_cases ok : jok_ hw A V
    · obtain ⟨q1, q2⟩ := g3 ok
      refine ⟨dI_ D1 50 7 (b2_ false), false, ?_, rS_fl rJ, ⟨qm_ (jm_ hw A V), jo_ok hh hA hV (jo_t ok), cm_sx q2 (sx_I (A := fun b => b = 50) rfl) (by omega) (by omega) (by omega), Or.inr ⟨rfl, rfl, jo_t ok⟩⟩, sx_t yJ (sx_I (by unfold rx_; omega))⟩
      rw [hd _ q1, op_os, op_vIs, if_pos]
      · rfl
      · have := ok.2
        exact nn104_ (by omega)
    · obtain ⟨q1, q2⟩ := g4 ok
      refine ⟨dI_ D1 50 7 (b2_ true), true, ?_, rS_fl rJ, ⟨A, hA, cm_sx (cm_sx cA q2 (by unfold jx_; omega) (by unfold jx_; omega) (by unfold jx_; omega)) (sx_I (A := fun b => b = 50) rfl) (by omega) (by omega) (by omega), Or.inl ⟨rfl, Or.inr (jo_f ok)⟩⟩, sx_t yJ (sx_I (by unfold rx_; omega))⟩
      rw [hd _ q1]
      rfl
theorem x43f {f : Nat} {x : Int32} (h : rF_ n k t D f X) (ht : tw_ n t) : k43_0 w (d + 2) x D = some (none, D) := by
  rw [e43_0, x45f h ht, op_os, op_vIs, if_pos rfl]
theorem x44f {f : Nat} {x : Int32} (h : rF_ n k t D f X) (ht : tw_ n t) : ∃ D', k44_0 w (d + 2) x D = some (none, D') ∧ rF_ n k t D' f X ∧ sx_ (fun b => b = 50) D D' := by
  obtain ⟨h1, ⟨T, hT, h2⟩, h3, h4⟩ := h
  by_cases z : 2 ≤ T
  · have r : rF_ n k t (dI_ D 50 3 (nI (T - 1))) f X := ⟨rP_I h1 (by omega), ⟨T - 1, by omega, by rw [dI_at, if_pos ⟨rfl, rfl⟩]⟩, by rw [dI_at, if_neg (by omega)]; exact h3, h4⟩
    refine ⟨_, ?_, r, sx_I rfl⟩
    rw [e44_0, h2, if_pos (by rw [nI_leI (by omega) (by omega)]; omega), pk_sub (by omega), x45f r ht, op_os, op_vIs, if_pos rfl]
  · refine ⟨D, ?_, ⟨h1, ⟨T, hT, h2⟩, h3, h4⟩, sx_r _ _⟩
    rw [e44_0, h2, if_neg (by rw [nI_leI (by omega) (by omega)]; omega)]
end
