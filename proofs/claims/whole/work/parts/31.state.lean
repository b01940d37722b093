/-! the state of both -/
abbrev sp_ : Type := (Nat → ma_) × (Nat × (Nat → Nat)) × (Nat × ma_ × (Nat → Nat → Nat))
def ok_ (S : sp_) : Prop := (∀ i, i < 6 → wm_ (S.1 i) ∧ (S.1 i).2.1 ≤ 60) ∧ (S.2.1.1 ≤ 500 ∧ ∀ j, j < S.2.1.1 → S.2.1.2 j < 256) ∧ (S.2.2.1 ≤ 400 ∧ (0 < S.2.2.1 → (wm_ S.2.2.2.1 ∧ S.2.2.2.1.2.1 ≤ 60) ∧ ∀ i p, i < S.2.2.1 → p < S.2.2.2.1.2.1 → S.2.2.2.2 i p < S.2.2.2.1.2.1))
def rs_ (D : dy_) (S : sp_) : Prop := ∀ i, i < 6 → cm_ D (3 + 3 * i) (S.1 i)
def rtp_ (D : dy_) (S : sp_) : Prop := D.1 21 1 = nI S.2.1.1 ∧ ∀ j, j < S.2.1.1 → D.1 22 j = nI (S.2.1.2 j)
def rmp_ (D : dy_) (S : sp_) : Prop := D.1 342 6 = nI S.2.2.1 ∧ (0 < S.2.2.1 → cm_ D 343 S.2.2.2.1 ∧ ∀ i p, i < S.2.2.1 → p < S.2.2.2.1.2.1 → D.1 346 (i * 60 + p) = nI (S.2.2.2.2 i p))
def rne_ (D : dy_) : Prop := cm_ D 30 (4, 1, 0, fun p _ => p, fun _ => false) ∧ cm_ D 33 (4, 1, 0, fun p _ => p, fun _ => true)
def rsp_ (D : dy_) (B : Nat) : Prop := D.1 24 4 = nI 0 ∧ ∃ t, t ≤ B ∧ D.1 41 4 = nI t ∧ ∀ c, c < 3840 → ∃ y, y ≤ t ∧ D.1 44 c = nI y
/-- the class's cells -/
def rc_ (D : dy_) (S : sp_) (B : Nat) : Prop := rs_ D S ∧ rtp_ D S ∧ rmp_ D S ∧ rne_ D ∧ rsp_ D B
def ys_ (D : dy_) (S : sp_) : Prop := ∀ i, i < 6 → rm_ D i (S.1 i)
def yt_ (D : dy_) (S : sp_) : Prop := D.1 351 7 = nI S.2.1.1 ∧ ∀ j, j < S.2.1.1 → D.1 357 j &&& nI 255 = nI (S.2.1.2 j)
def ym_ (D : dy_) (S : sp_) : Prop := D.1 351 47 = nI S.2.2.1 ∧ (0 < S.2.2.1 → (D.1 351 48 = nI (S.2.2.2.1.2.1) ∧ D.1 351 49 = nI (S.2.2.2.1.1)) ∧ (∀ i p, i < S.2.2.1 → p < S.2.2.2.1.2.1 → D.1 384 (60 * i + p) = nI (S.2.2.2.2 i p)) ∧ ∀ l p, l < S.2.2.2.1.1 → p < S.2.2.2.1.2.1 → D.1 385 (60 * l + p) = nI (S.2.2.2.1.2.2.2.1 p l))
/-- the reference's cells -/
def mr_ (D : dy_) (S : sp_) : Prop := ys_ D S ∧ yt_ D S ∧ ym_ D S
def hi_ (D D' : dy_) : Prop := ∀ b, 351 ≤ b → D'.1 b = D.1 b ∧ D'.2 b = D.2 b
def lw_ (D D' : dy_) : Prop := ∀ b, b < 351 → D'.1 b = D.1 b ∧ D'.2 b = D.2 b
theorem cm_fr {D D' : dy_} {a : Nat} {M : ma_} (h : cm_ D a M) (h0 : D'.1 a = D.1 a) (h1 : D'.1 (a + 1) = D.1 (a + 1)) (h2 : D'.1 (a + 2) = D.1 (a + 2)) : cm_ D' a M := by
  unfold cm_ at *
  rw [h0, h1, h2]
  exact h
theorem rc_lw {D D' : dy_} {S : sp_} {B : Nat} (h : rc_ D S B) (g : lw_ D D') : rc_ D' S B := by
  obtain ⟨h1, h2, h3, h4, h5⟩ := h
  have e : ∀ b, b < 351 → D'.1 b = D.1 b := fun b hb => (g b hb).1
  refine ⟨fun i hi => cm_fr (h1 i hi) (e _ (by omega)) (e _ (by omega)) (e _ (by omega)), ?_, ?_, ⟨cm_fr h4.1 (e _ (by omega)) (e _ (by omega)) (e _ (by omega)), cm_fr h4.2 (e _ (by omega)) (e _ (by omega)) (e _ (by omega))⟩, ?_⟩
  · unfold rtp_ at *
    rw [e 21 (by omega), e 22 (by omega)]
    exact h2
  · unfold rmp_ at *
    rw [e 342 (by omega), e 346 (by omega)]
    exact ⟨h3.1, fun q => ⟨cm_fr (h3.2 q).1 (e _ (by omega)) (e _ (by omega)) (e _ (by omega)), (h3.2 q).2⟩⟩
  · unfold rsp_ at *
    rw [e 24 (by omega), e 41 (by omega), e 44 (by omega)]
    exact h5
theorem mr_hi {D D' : dy_} {S : sp_} (h : mr_ D S) (g : hi_ D D') : mr_ D' S := by
  have e : ∀ b, 351 ≤ b → D'.1 b = D.1 b := fun b hb => (g b hb).1
  unfold mr_ ys_ yt_ ym_ rm_ at *
  rw [e 351 (by omega), e 352 (by omega), e 353 (by omega), e 354 (by omega), e 355 (by omega), e 356 (by omega), e 357 (by omega), e 384 (by omega), e 385 (by omega)]
  exact h
theorem rsp_m {D : dy_} {B B' : Nat} (h : rsp_ D B) (hb : B ≤ B') : rsp_ D B' := by
  obtain ⟨h0, t, h1, h2⟩ := h
  exact ⟨h0, t, by omega, h2⟩
theorem rc_m {D : dy_} {S : sp_} {B B' : Nat} (h : rc_ D S B) (hb : B ≤ B') : rc_ D S B' := ⟨h.1, h.2.1, h.2.2.1, h.2.2.2.1, rsp_m h.2.2.2.2 hb⟩
/-- one call of both: the same answer, the same state -/
def bo_ (S : sp_) (B : Nat) (C R : dy_ → rd_) : Prop := ∀ D, rc_ D S B → mr_ D S → ∃ v D1 D2 S', C D = some (some v, D1) ∧ R D1 = some (some v, D2) ∧ ok_ S' ∧ rc_ D2 S' (B + 4000000) ∧ mr_ D2 S'
theorem bo_i {S : sp_} {B : Nat} {C R : dy_ → rd_} (v : Value) (S' : sp_) (hS : ok_ S') (hC : ∀ D, rc_ D S B → ∃ D1, C D = some (some v, D1) ∧ rc_ D1 S' (B + 4000000) ∧ hi_ D D1) (hR : ∀ D, mr_ D S → ∃ D2, R D = some (some v, D2) ∧ mr_ D2 S' ∧ lw_ D D2) : bo_ S B C R := by
  intro D h g
  obtain ⟨D1, e1, r1, f1⟩ := hC D h
  obtain ⟨D2, e2, r2, f2⟩ := hR D1 (mr_hi g f1)
  exact ⟨v, D1, D2, S', e1, e2, hS, rc_lw r1 f2, r2⟩
/-- the field of throws is nobody's business -/
theorem mr_0 {D : dy_} {S : sp_} {v : Int32} (h : mr_ D S) : mr_ (dI_ D 351 0 v) S := by
  unfold mr_ ys_ yt_ ym_ rm_ at *
  simp (disch := omega) only [nI_add, pk_mul, nI_clamp, nI_leI, nI_ltI, nI_eq, inb_, iz1_, iz2_, iz3_, iz4_, iz5_, reduceIte, if_pos, if_neg, op_os, op_vIs, op_vLs, op_vRs, op_vNs, dI_at, dL_at, dI_2, dL_1, Nat.reduceEqDiff, Nat.reduceAdd, Nat.reduceMul, false_and, and_false, true_and, and_true, ne_eq, not_true_eq_false, not_false_eq_true, b2_z, b2_o, b2_n, b2_01, nar_b, nar_0, nar_1, Bool.false_eq_true, Bool.true_eq_false]
  exact h
theorem lw_I {D : dy_} {a i : Nat} {v : Int32} (ha : 351 ≤ a) : lw_ D (dI_ D a i v) := fun b hb => ⟨up_ne (f := D.1) (by omega), rfl⟩
theorem hi_I {D : dy_} {a i : Nat} {v : Int32} (ha : a < 351) : hi_ D (dI_ D a i v) := fun b hb => ⟨up_ne (f := D.1) (by omega), rfl⟩
theorem lw_t {D D' D'' : dy_} (h : lw_ D D') (g : lw_ D' D'') : lw_ D D'' := fun b hb => ⟨(g b hb).1.trans (h b hb).1, (g b hb).2.trans (h b hb).2⟩
theorem hi_t {D D' D'' : dy_} (h : hi_ D D') (g : hi_ D' D'') : hi_ D D'' := fun b hb => ⟨(g b hb).1.trans (h b hb).1, (g b hb).2.trans (h b hb).2⟩
theorem lw_r (D : dy_) : lw_ D D := fun _ _ => ⟨rfl, rfl⟩
theorem hi_r (D : dy_) : hi_ D D := fun _ _ => ⟨rfl, rfl⟩
theorem bo_o {S : sp_} {B : Nat} {C R : dy_ → rd_} (v : Value) (hS : ok_ S) (hC : ∀ D, rc_ D S B → C D = some (some v, D)) (hR : ∀ D, mr_ D S → R D = some (some v, dI_ D 351 0 (nI 0))) : bo_ S B C R :=
  bo_i v S hS (fun D h => ⟨D, hC D h, rc_m h (by omega), hi_r D⟩) (fun D h => ⟨_, hR D h, mr_0 h, lw_I (by omega)⟩)
/-! slots -/
theorem sl1_ {i : Nat} (h : i < 6) : sh_.2.1 2 i = 3 + 3 * i := (sl_ h).1
theorem sl2_ {i : Nat} (h : i < 6) : sh_.1 (3 + 3 * i) = (11, 5) := (mM_ (sl_ h).2).1
theorem sl3_ {i : Nat} (h : i < 6) : sh_.2.1 (3 + 3 * i) 1 = 3 + 3 * i + 2 := (mM_ (sl_ h).2).2.2.1
theorem sl4_ {i : Nat} (h : i < 6) : cap_ (3 + 3 * i) = 60 := (show ∀ i ∈ List.range 6, cap_ (3 + 3 * i) = 60 from by decide +kernel) i (List.mem_range.mpr h)
theorem sl5_ {i : Nat} (h : i < 6) : sh_.1 (3 + 3 * i + 2) = (2, 60) := by rw [(mM_ (sl_ h).2).2.2.2.2.1, sl4_ h]
theorem sl6_ {i : Nat} (h : i < 6) : sh_.2.1 (3 + 3 * i) 0 = 3 + 3 * i + 1 := (mM_ (sl_ h).2).2.1
theorem sl7_ {i : Nat} (h : i < 6) : sh_.1 (3 + 3 * i + 1) = (1, 240) := by rw [(mM_ (sl_ h).2).2.2.2.1, sl4_ h]
theorem bf_ {b : Bool} (h : ¬ b = true) : b = false := by cases b; rfl; exact absurd rfl h
/-- x is a number below n -/
def ls_ (n : Nat) (x : Int32) : Bool := decide ¬ (x < 0 ∨ nI n ≤ x)
theorem ls_t {n : Nat} {x : Int32} (hn : n < 2 ^ 31) (h : ls_ n x = true) : ∃ j : Nat, x = nI j ∧ j < n := by
  have h' := of_decide_eq_true h
  rcases pk_ix x hn with q | q | ⟨j, hj, e⟩
  · exact absurd (Or.inl q) h'
  · exact absurd (Or.inr q) h'
  · exact ⟨j, e, hj⟩
theorem ls_n {n j : Nat} (h : j < n) (hn : n < 2 ^ 31) : ls_ n (nI j) = true := by
  refine decide_eq_true ?_
  rintro (q | q)
  · exact nI_pos (by omega) q
  · exact nI_ge h hn q
theorem x111n {w : (Nat → Int32) × Nat} {d : Nat} {D : dy_} {n : Nat} (h1 : 1 ≤ n) (hn : n < 2 ^ 31) (x : Int32) : k111_0 w (d + 1) x.toInt64 (lN 0) (nI n - nI 1).toInt64 D = some (some (.int (b2_ (ls_ n x))), D) := by
  rw [lt64 (by omega), x111, pk_sub h1]
  have : (x < nI 0 ∨ nI (n - 1) < x) ↔ (x < 0 ∨ nI n ≤ x) := by
    rcases pk_ix x hn with q | q | ⟨j, hj, rfl⟩
    · exact ⟨fun _ => Or.inl q, fun _ => Or.inl q⟩
    · exact ⟨fun _ => Or.inr q, fun _ => Or.inr (Int32.lt_of_lt_of_le (nI_lt (by omega) (by omega)) q)⟩
    · constructor
      · rintro (q | q)
        · exact Or.inl q
        · exact absurd ((nI_ltI (by omega) (by omega)).mp q) (by omega)
      · rintro (q | q)
        · exact Or.inl q
        · exact absurd ((nI_leI (by omega) (by omega)).mp q) (by omega)
  rw [show decide (¬ (x < nI 0 ∨ nI (n - 1) < x)) = ls_ n x from decide_eq_decide.mpr (not_congr this)]
theorem ls6 (x : Int32) : decide (¬ (x < 0 ∨ 5 < x)) = ls_ 6 x := by
  refine decide_eq_decide.mpr (not_congr (or_congr Iff.rfl ?_))
  show (5 : Int32) < x ↔ (6 : Int32) ≤ x
  rw [Int32.le_iff_toInt_le, Int32.lt_iff_toInt_lt]
  show (5 : Int) < _ ↔ (6 : Int) ≤ _
  omega
theorem x114s {w : (Nat → Int32) × Nat} {d : Nat} {D : dy_} (x : Int32) : k114_0 w (d + 2) x D = some (some (.int (b2_ (ls_ 6 x))), D) := by rw [x114, ls6]
theorem x106s {w : (Nat → Int32) × Nat} {d : Nat} {D : dy_} (x : Int32) : k106_0 w (d + 1) x D = some (some (.int (b2_ (ls_ 6 x))), D) := by rw [x106, ls6]
/-- machine a of the class is M -/
theorem cx9 {w : (Nat → Int32) × Nat} {d : Nat} {D : dy_} {a : Nat} {M : ma_} (ha : a ∈ ml_) (h : cm_ D a M) (hn : M.2.1 ≤ cap_ a) (hk : M.1 ≤ 4) {p l : Nat} (hp : p < M.2.1) (hl : l < M.1) : k9_0 w (d + 1) a (nI p) (nI l) D = some (some (.int (nI (M.2.2.2.1 p l))), D) := by
  have h1 : p * M.1 + l < cap_ a * 4 := Nat.lt_of_lt_of_le (mul_in hp hl) (Nat.mul_le_mul hn hk)
  rw [← h.2.2.2.1 p l hp hl]
  exact m_next ha (k := M.1) h.1 (by omega)
theorem cx7 {w : (Nat → Int32) × Nat} {d : Nat} {D : dy_} {a : Nat} {M : ma_} (ha : a ∈ ml_) (h : cm_ D a M) (hn : M.2.1 < 2 ^ 31) (x : Int32) : k7_0 w (d + 1) a x D = some (some (.int (b2_ (ls_ (M.2.1) x))), D) := by
  unfold ls_
  rw [← b2_if]
  exact m_hasState ha h.2.1 hn x
theorem cx8 {w : (Nat → Int32) × Nat} {d : Nat} {D : dy_} {a : Nat} {M : ma_} (ha : a ∈ ml_) (h : cm_ D a M) (x : Int32) : k8_0 w (d + 1) a x D = some (some (.int (b2_ (ls_ (M.1) x))), D) := by
  unfold ls_
  rw [← b2_if]
  exact m_hasLetter ha h.1 x
/-- s is a slot, p a state of it -/
def vs_ (S : sp_) (s p : Int32) : Bool := ls_ 6 s && ls_ ((S.1 s.toNatClampNeg).2.1) p
theorem vs_t {S : sp_} {s p : Int32} (hS : ok_ S) (h : vs_ S s p = true) : ∃ i q : Nat, s = nI i ∧ p = nI q ∧ i < 6 ∧ q < (S.1 i).2.1 := by
  obtain ⟨h1, h2⟩ := Bool.and_eq_true_iff.mp h
  obtain ⟨i, rfl, hi⟩ := ls_t (by omega) h1
  rw [nI_clamp (by omega)] at h2
  have := (hS.1 i hi).2
  obtain ⟨q, rfl, hq⟩ := ls_t (by omega) h2
  exact ⟨i, q, rfl, rfl, hi, hq⟩
