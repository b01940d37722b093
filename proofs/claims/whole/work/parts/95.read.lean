/-! READ -/
/-- what read answers -/
def aov_ : Option ma_ → Int32
  | none => -104
  | some M => nI (M.2.1)
def ans_ (n : Nat) : po_ → Int32
  | .inl f => -1000 - nI f
  | .inr p => if p.1 < n then -1000 - nI p.1 else aov_ p.2
theorem an_le {f : Nat} (h : f ≤ 500) : (-1000 : Int32) - nI f ≤ nI 0 := (show ∀ f ∈ List.range 501, (-1000 : Int32) - nI f ≤ nI 0 from by decide +kernel) f (List.mem_range.mpr (by omega))
section
variable {w : (Nat → Int32) × Nat} {d n k : Nat} {t : Nat → Nat} {D : dy_} {S : sp_} {B : Nat}
/-- Reader.evaluate -/
theorem x29 {u : Nat} {r : po_} (ht : tw_ n t) (hk : 1 ≤ k ∧ k ≤ 4) (hp : tp_ D n t) (h30 : cm_ D 30 n1_) (h33 : cm_ D 33 e1_) (hs : rsp_ D B) (hB : B + 2000 * (n + 2) < 2 ^ 31) (h : pzr_ n k t u 0 0 0 none = some r) : ∃ D', k29_0 w (d + 199) (nI k) D = some (some (.int (ans_ n r)), D') ∧ sx_ (rx_ 0) D D' ∧ rsp_ D' (B + 2000 * (n + 2)) ∧ ∀ j M, r = .inr (j, some M) → ¬ j < n → vok_ k M ∧ cm_ D' 52 M := by
  have hn := ht.1
  have mo := pzr_mono u 0 0 0 none r (Nat.zero_le n) h
  -- the beginning
  have y0 : sx_ (fun b => b = 50) D (dI_ (dI_ (dI_ (dI_ (dI_ D 50 4 (nI k)) 50 3 (nI 0)) 50 5 (nI 0)) 50 6 (-1)) 50 7 (nI 0)) := sx_t (sx_t (sx_t (sx_t (sx_I rfl) (sx_I rfl)) (sx_I rfl)) (sx_I rfl)) (sx_I rfl)
  have r0 : rS_ n k t (dI_ (dI_ (dI_ (dI_ (dI_ D 50 4 (nI k)) 50 3 (nI 0)) 50 5 (nI 0)) 50 6 (-1)) 50 7 (nI 0)) 0 0 B false := by
    refine ⟨⟨?_, ?_, cm_sx h30 y0 (by omega) (by omega) (by omega), cm_sx h33 y0 (by omega) (by omega) (by omega), rsp_fr hs (y0 41 (by omega)).1 (y0 44 (by omega)).1 (y0 24 (by omega)).1⟩, ?_, ?_, ?_, ?_⟩
    · unfold tp_ at *
      rw [(y0 21 (by omega)).1, (y0 22 (by omega)).1]
      exact hp
    · simp (disch := omega) only [nI_add, pk_mul, nI_clamp, nI_leI, nI_ltI, nI_eq, inb_, iz1_, iz2_, iz3_, iz4_, iz5_, reduceIte, if_pos, if_neg, op_os, op_vIs, op_vLs, op_vRs, op_vNs, dI_at, dL_at, dI_2, dL_1, Nat.reduceEqDiff, Nat.reduceAdd, Nat.reduceMul, false_and, and_false, true_and, and_true, ne_eq, not_true_eq_false, not_false_eq_true, b2_z, b2_o, b2_n, b2_01, nar_b, nar_0, nar_1, Bool.false_eq_true, Bool.true_eq_false]
    · simp (disch := omega) only [nI_add, pk_mul, nI_clamp, nI_leI, nI_ltI, nI_eq, inb_, iz1_, iz2_, iz3_, iz4_, iz5_, reduceIte, if_pos, if_neg, op_os, op_vIs, op_vLs, op_vRs, op_vNs, dI_at, dL_at, dI_2, dL_1, Nat.reduceEqDiff, Nat.reduceAdd, Nat.reduceMul, false_and, and_false, true_and, and_true, ne_eq, not_true_eq_false, not_false_eq_true, b2_z, b2_o, b2_n, b2_01, nar_b, nar_0, nar_1, Bool.false_eq_true, Bool.true_eq_false]
    · simp (disch := omega) only [nI_add, pk_mul, nI_clamp, nI_leI, nI_ltI, nI_eq, inb_, iz1_, iz2_, iz3_, iz4_, iz5_, reduceIte, if_pos, if_neg, op_os, op_vIs, op_vLs, op_vRs, op_vNs, dI_at, dL_at, dI_2, dL_1, Nat.reduceEqDiff, Nat.reduceAdd, Nat.reduceMul, false_and, and_false, true_and, and_true, ne_eq, not_true_eq_false, not_false_eq_true, b2_z, b2_o, b2_n, b2_01, nar_b, nar_0, nar_1, Bool.false_eq_true, Bool.true_eq_false]
    · simp (disch := omega) only [nI_add, pk_mul, nI_clamp, nI_leI, nI_ltI, nI_eq, inb_, iz1_, iz2_, iz3_, iz4_, iz5_, reduceIte, if_pos, if_neg, op_os, op_vIs, op_vLs, op_vRs, op_vNs, dI_at, dL_at, dI_2, dL_1, Nat.reduceEqDiff, Nat.reduceAdd, Nat.reduceMul, false_and, and_false, true_and, and_true, ne_eq, not_true_eq_false, not_false_eq_true, b2_z, b2_o, b2_n, b2_01, nar_b, nar_0, nar_1, Bool.false_eq_true, Bool.true_eq_false]
    · simp (disch := omega) only [nI_add, pk_mul, nI_clamp, nI_leI, nI_ltI, nI_eq, inb_, iz1_, iz2_, iz3_, iz4_, iz5_, reduceIte, if_pos, if_neg, op_os, op_vIs, op_vLs, op_vRs, op_vNs, dI_at, dL_at, dI_2, dL_1, Nat.reduceEqDiff, Nat.reduceAdd, Nat.reduceMul, false_and, and_false, true_and, and_true, ne_eq, not_true_eq_false, not_false_eq_true, b2_z, b2_o, b2_n, b2_01, nar_b, nar_0, nar_1, Bool.false_eq_true, Bool.true_eq_false]
  obtain ⟨D1, q1, q2, q3, q4⟩ := (A_all (w := w) ht hk u).1.1 (d + 34) 0 0 0 B false _ r (by omega) (Nat.zero_le n) (by omega) hB r0 h
  have q1' : k30_0 w (d + 198) (nI 0) (dI_ (dI_ (dI_ (dI_ (dI_ D 50 4 (nI k)) 50 3 (nI 0)) 50 5 (nI 0)) 50 6 (-1)) 50 7 (nI 0)) = some (none, D1) := by
    rw [← q1]
    rfl
  have y1 : sx_ (rx_ 0) D D1 := sx_t (sx_w y0 (fun b hb => by unfold rx_; omega)) q2
  have top : k29_0 w (d + 199) (nI k) D = if D1.1 50 6 ≠ -1 then k29_60 w (d + 199) D1 else (if D1.1 21 1 ≤ D1.1 50 5 then k29_60 w (d + 199) D1 else k29_60 w (d + 199) (dI_ D1 50 6 (D1.1 50 5))) := by
    rw [e29_0, q1', op_os, op_vNs]
  cases r with
  | inl f =>
    have F := q3 f rfl
    have hf := F.2.2.2
    refine ⟨D1, ?_, y1, F.1.2.2.2.2, fun j M e => (by cases e)⟩
    rw [top, F.2.2.1, if_pos (nI_n1 (by omega)), e29_60, F.2.2.1, if_neg (nI_n1 (by omega))]
    rfl
  | inr p =>
    obtain ⟨j, v⟩ := p
    have mo' : 0 ≤ j ∧ j ≤ n ∧ _ := mo
    obtain ⟨fl, R, V⟩ := q4 j v rfl
    have h6 := R.2.2.2.1
    have h5 := R.2.1
    have h21 : D1.1 21 1 = nI n := R.1.1.1
    have hr := rsp_m R.1.2.2.2.2 (show B + 2000 * (j - 0) ≤ B + 2000 * (n + 2) by omega)
    by_cases z : j < n
    · refine ⟨dI_ D1 50 6 (nI j), ?_, sx_t y1 (sx_I (by unfold rx_; omega)), rsp_fr hr (dIne_ (by omega)) (dIne_ (by omega)) (dIne_ (by omega)), fun j' M e hj => ?_⟩
      · have e6 : (dI_ D1 50 6 (nI j)).1 50 6 = nI j := by
          rw [dI_at, if_pos ⟨rfl, rfl⟩]
        rw [top, h6, if_neg (fun q => q rfl), h21, h5, if_neg (by rw [nI_leI (by omega) (by omega)]; omega), e29_60, e6, if_neg (nI_n1 (by omega))]
        show _ = some (some (Value.int (if j < n then -1000 - nI j else aov_ v)), _)
        rw [if_pos z]
      · cases e
        exact absurd z hj
    · have e51 : sh_.2.1 51 (nI 0).toNatClampNeg = 52 := by decide +kernel
      have s52 : (sh_.1 52).1 = 11 := by decide +kernel
      have top2 : k29_0 w (d + 199) (nI k) D = if D1.1 50 7 = nI 0 then some (some (.int (D1.1 52 3)), D1) else some (some (.int (-104)), D1) := by
        rw [top, h6, if_neg (fun q => q rfl), h21, h5, if_pos (by rw [nI_leI (by omega) (by omega)]; omega), e29_60, h6, if_pos rfl, inb_ (by omega) (by omega), e51, if_neg (show ¬ (52 = 0) by omega), s52, if_pos (show 11 = 11 from rfl)]
      have ea : ans_ n (.inr (j, v)) = aov_ v := by
        show (if j < n then -1000 - nI j else aov_ v) = _
        rw [if_neg z]
      obtain ⟨M, hM, cM, hv⟩ := V
      have h7 := R.2.2.2.2
      refine ⟨D1, ?_, y1, hr, fun j' M' e hj => ?_⟩
      · rw [top2, h7, ea]
        rcases hv with ⟨z1, z2 | z2⟩ | ⟨z1, z2, z3⟩
        · cases z2
        · rw [z1, z2, if_neg (by decide)]
          rfl
        · rw [z2, z3, if_pos b2f_]
          show some (some (Value.int (D1.1 52 3)), D1) = some (some (Value.int (nI (M.2.1))), D1)
          rw [show D1.1 52 3 = nI (M.2.1) from cM.2.1]
      · cases e
        rcases hv with ⟨z1, z2 | z2⟩ | ⟨z1, z2, z3⟩
        · cases z2
        · cases z2
        · cases z3
          exact ⟨hM, cM⟩
/-! the reference's run -/
theorem gz_mr {m : Nat} {D' : dy_} (hS : ok_ S) (h : mr_ D S) (g : gz_ m D D') (hm : 6 ≤ m) : mr_ D' S := by
  obtain ⟨g1, g2, g3⟩ := h
  refine ⟨fun i hi => g.2.2.2 i _ (by omega) ⟨(hS.1 i hi).2, (hS.1 i hi).1.1.2⟩ (g1 i hi), ?_, ?_⟩
  · unfold yt_ at *
    rw [g.1 7 (by omega), g.2.1 357 (by omega)]
    exact g2
  · unfold ym_ at *
    rw [g.1 47 (by omega), g.1 48 (by omega), g.1 49 (by omega), g.2.1 384 (by omega), g.2.1 385 (by omega)]
    exact g3
theorem gz_lw {m : Nat} {D' : dy_} (g : gz_ m D D') : lw_ D D' := fun b hb => ⟨g.2.1 b (by omega), g.2.2.1 b hb⟩
/-- control cells are nobody's business -/
theorem mr_c {a i : Nat} {v : Int32} (h : mr_ D S) (ha : (a = 351 ∧ (i = 35 ∨ i = 36 ∨ i = 37 ∨ i = 38 ∨ i = 43)) ∨ (376 ≤ a ∧ a ≤ 380)) : mr_ (dI_ D a i v) S := by
  obtain ⟨g1, g2, g3⟩ := h
  have e7 : ∀ j, j = 7 ∨ j = 47 ∨ j = 48 ∨ j = 49 → (dI_ D a i v).1 351 j = D.1 351 j := fun j hj => by rw [dI_at, if_neg (by omega)]
  refine ⟨fun m hm => rm_I (g1 m hm) (by omega), ?_, ?_⟩
  · unfold yt_ at *
    rw [e7 7 (by omega), dIne_ (show 357 ≠ a by omega)]
    exact g2
  · unfold ym_ at *
    rw [e7 47 (by omega), e7 48 (by omega), e7 49 (by omega), dIne_ (show 384 ≠ a by omega), dIne_ (show 385 ≠ a by omega)]
    exact g3
theorem x163r {i1 : Int32} (ht : tw_ n t) (hk : 1 ≤ k ∧ k ≤ 4) : ∀ (c i : Nat) (s : zs_) (r : Option zs_) (D : dy_), c + i = n → zn_ k t c i s r → zr_ k D s → (∀ j, j < n → D.1 357 j &&& nI 255 = nI (t j)) → ∃ D', k163_89 w (d + 11) i1 (nI n) (nI i) D = k163_124 w (d + 11) i1 D' ∧ lof_ 0 D D' ∧ (∀ s', r = some s' → zr_ k D' s') ∧ (r = none → D'.1 351 36 = nI 0)
  | 0, i, s, r, D, hc, h, hz, hy => by
    have hn := ht.1
    cases h
    refine ⟨D, ?_, lof_r _ _, fun s' e => (by cases e; exact hz), fun e => (by cases e)⟩
    rw [e163_89, if_pos (by rw [nI_leI (by omega) (by omega)]; omega)]
  | c + 1, i, s, r, D, hc, h, hz, hy => by
    have hn := ht.1
    have hi : i < n := by omega
    obtain ⟨hg, h⟩ := h
    obtain ⟨D1, a1, a2, a3, a4⟩ := x162 (w := w) (d := d) hk (ht.2 i hi) hg hz
    have h36 : D.1 351 36 = nI 1 := hz.1.1.2.1
    have head : k163_89 w (d + 11) i1 (nI n) (nI i) D = k163_89 w (d + 11) i1 (nI n) (nI (i + 1)) D1 := by
      rw [e163_89, if_neg (by rw [nI_leI (by omega) (by omega)]; omega), h36, if_neg (by decide), inb_ (by omega) (by omega), nI_clamp (by omega), hy i hi, a1, op_os, op_vNs, nI_add]
    rcases h with ⟨e, er⟩ | ⟨s1, e, h⟩
    · have d36 := a4 e
      refine ⟨D1, ?_, a2, fun s' e' => (by rw [er] at e'; cases e'), fun _ => d36⟩
      rw [head, e163_89]
      by_cases z : nI n ≤ nI (i + 1)
      · rw [if_pos z]
      · rw [if_neg z, d36, if_pos rfl]
    · obtain ⟨D', b1, b2, b3, b4⟩ := x163r ht hk c (i + 1) s1 r D1 (by omega) h (a3 s1 e) (fun j hj => by rw [a2.1.2.1 357 (by omega)]; exact hy j hj)
      exact ⟨D', head.trans b1, lof_t a2 b2, b3, b4⟩
/-- the run of a text without a fault, from the first character to the answer -/
theorem x163e {i u : Nat} {v : Option ma_} (ht : tw_ n t) (hk : 1 ≤ k ∧ k ≤ 4) (hi : i < 6) (h : pzr_ n k t u 0 0 0 none = some (.inr (n, v))) (hz : zr_ k D ((none, none, none), none, 0, [])) (hy : ∀ j, j < n → D.1 357 j &&& nI 255 = nI (t j)) (hS : ok_ S) (hm : mr_ D S) : (v = none → ∃ D', k163_89 w (d + 11) (nI i) (nI n) (nI 0) D = some (some (.int (-104)), D') ∧ mr_ D' S ∧ lw_ D D') ∧ ∀ M, v = some M → ∃ D', k163_89 w (d + 11) (nI i) (nI n) (nI 0) D = some (some (.int (nI (M.2.1))), D') ∧ mr_ D' (us_ S i M) ∧ lw_ D D' ∧ vok_ k M := by
  have q := zr_all hk.2 h
  -- out of room
  have dead : ∀ E, k163_89 w (d + 11) (nI i) (nI n) (nI 0) D = k163_124 w (d + 11) (nI i) E → lof_ 0 D E → E.1 351 36 = nI 0 → ∃ D', k163_89 w (d + 11) (nI i) (nI n) (nI 0) D = some (some (.int (-104)), D') ∧ mr_ D' S ∧ lw_ D D' := by
    intro E e1 e2 e3
    refine ⟨E, ?_, lof_mr e2 hS hm, lof_lw e2⟩
    rw [e1, e163_124, e3, if_pos rfl, e163_135, e3, if_neg (fun z => z rfl)]
  rcases q with ⟨hv, q⟩ | ⟨s', q, O, A, R, C, rfl, ho⟩
  · obtain ⟨E, b1, b2, b3, b4⟩ := x163r (w := w) (d := d) (i1 := nI i) ht hk (n - 0) 0 _ _ D (by omega) q.2 hz hy
    exact ⟨fun _ => dead E b1 b2 (b4 rfl), fun M e => (by rw [hv] at e; cases e)⟩
  · obtain ⟨E, b1, b2, b3, b4⟩ := x163r (w := w) (d := d) (i1 := nI i) ht hk (n - 0) 0 _ _ D (by omega) q.2 hz hy
    have zE := b3 _ rfl
    have h36 : E.1 351 36 = nI 1 := zE.1.1.2.1
    obtain ⟨G, c1, c2, c3, c4⟩ := x160 (w := w) (d := d + 1) (f := 0) hk (by omega) zE.1
    have head : k163_89 w (d + 11) (nI i) (nI n) (nI 0) D = k163_135 w (d + 11) (nI i) G := by
      rw [b1, e163_124, h36, if_neg (by decide), c1, op_os, op_vNs]
    have lG : lof_ 0 D G := lof_t b2 c2
    refine ⟨fun e => ?_, fun M e => ?_⟩
    · have d36 := (c4 (ho.trans e)).1
      refine ⟨G, ?_, lof_mr lG hS hm, lof_lw lG⟩
      rw [head, e163_135, d36, if_neg (fun z => z rfl)]
    · have tz := c3 M (ho.trans e)
      have hM := tz.2.2.2.2.1 M rfl
      obtain ⟨D', f1, f2, f3⟩ := x154 (w := w) (d := d + 9) (D := G) (a := 6) (b := i) (by omega) (by omega) (by omega)
      have r1 := f3 M hM.1.2.1 hM.1.1.1.2 hM.2
      refine ⟨D', ?_, mr_om hS (lof_mr lG hS hm) r1 f2, lw_t (lof_lw lG) (lw_om f2), hM.1⟩
      rw [head, e163_135, tz.1.2.1, if_pos (by decide), x153, op_os, op_vIs]
      show op_o (k154_0 w (d + 10) (nI 6) (nI i) G) none _ = _
      rw [f1, op_os, op_vNs, inb_ (show i < 110 by omega) (by omega), nI_clamp (by omega), r1.2.1]
theorem bo_read (hS : ok_ S) (hB : B + 4000000 < 2 ^ 31) (s k : Int32) : bo_ S B (fun D => k93_0 w (d + 200) s k D) (fun D => k163_0 w (d + 200) s k D) := by
  have r1 : ∀ D, k111_0 w (d + 199) k.toInt64 (lN 1) (lN 4) D = some (some (.int (b2_ (decide ¬ (k < nI 1 ∨ nI 4 < k)))), D) := by
    intro D
    rw [lt64 (n := 1) (by omega), lt64 (n := 4) (by omega), x111]
  have r2 : ∀ D, k107_0 w (d + 199) k D = some (some (.int (b2_ (decide ¬ (k < nI 1 ∨ nI 4 < k)))), D) := fun D => x107 k
  by_cases c1 : ls_ 6 s = true
  · obtain ⟨i, rfl, hi⟩ := ls_t (by omega) c1
    by_cases c2 : decide (¬ (k < nI 1 ∨ nI 4 < k)) = true
    · obtain ⟨k, rfl, hk⟩ := ls1 (by omega) k c2
      -- the parse
      have ht : tw_ S.2.1.1 S.2.1.2 := hS.2.1
      have hn := ht.1
      have hBn : B + 2000 * (S.2.1.1 + 2) < 2 ^ 31 := Nat.lt_of_le_of_lt (Nat.add_le_add_left (show 2000 * (S.2.1.1 + 2) ≤ 4000000 by omega) B) hB
      obtain ⟨r, hr⟩ : ∃ r, pzr_ S.2.1.1 k S.2.1.2 (10 * S.2.1.1 + 9) 0 0 0 none = some r := by
        have := pzr_some (n := S.2.1.1) (k := k) (t := S.2.1.2) (10 * S.2.1.1 + 9) 0 0 0 none (by omega) (Nat.zero_le _) (show 10 * (S.2.1.1 - 0) + 9 ≤ 10 * S.2.1.1 + 9 by omega)
        cases e : pzr_ S.2.1.1 k S.2.1.2 (10 * S.2.1.1 + 9) 0 0 0 none with
        | none => exact absurd e this
        | some r => exact ⟨r, rfl⟩
      have mo := pzr_mono (10 * S.2.1.1 + 9) 0 0 0 none r (Nat.zero_le _) hr
      have hS0 : ok_ (ut_ S 0 S.2.1.2) := ut_ok hS (by omega) (fun j hj => absurd hj (by omega))
      -- the class up to the answer
      have cls : ∀ D, rc_ D S B → ∃ D1, (∀ x, ans_ S.2.1.1 r = x → k93_0 w (d + 200) (nI i) (nI k) D = if x ≤ nI 0 then some (some (.int x), dI_ D1 21 1 (nI 0)) else op_o (k14_0 w (d + 199) (3 + 3 * i) 52 (dI_ D1 21 1 (nI 0))) none (fun p5 => op_vN p5.1 none (some (some (.int x), p5.2)))) ∧ rc_ (dI_ D1 21 1 (nI 0)) (ut_ S 0 S.2.1.2) (B + 2000 * (S.2.1.1 + 2)) ∧ hi_ D (dI_ D1 21 1 (nI 0)) ∧ ∀ j M, r = .inr (j, some M) → ¬ j < S.2.1.1 → vok_ k M ∧ cm_ D1 52 M := by
        intro D hD
        obtain ⟨D1, a1, a2, a3, a4⟩ := x29 (w := w) (d := d) ht hk hD.2.1 hD.2.2.2.1.1 hD.2.2.2.1.2 hD.2.2.2.2 hBn hr
        refine ⟨D1, fun x hx => ?_, rc_ut (rc_wk hD (fun b hb => (a2 b (fun z => hb (by unfold rx_ at z; omega))).1) a3) ⟨by rw [dI_at, if_pos ⟨rfl, rfl⟩]; rfl, fun j hj => absurd hj (by show ¬ j < 0; omega)⟩ (fun c h1 h2 => dIne_ h1), fun b hb => ⟨(dIne_ (by omega)).trans (a2 b (by unfold rx_; omega)).1, (a2 b (by unfold rx_; omega)).2⟩, a4⟩
        have e28 : ∀ E, k28_0 w (d + 199) E = some (some (.ref 52), E) := by
          intro E
          have e51 : sh_.2.1 51 (nI 0).toNatClampNeg = 52 := by decide +kernel
          rw [e28_0, inb_ (by omega) (by omega), e51, if_neg (by omega), if_neg (by omega)]
        rw [e93_0, x106s, c1, op_os, op_vIs, if_neg (by decide), r2, c2, op_os, op_vIs, if_pos (by decide), a1, op_os, op_vIs, hx]
        by_cases z : x ≤ nI 0
        · rw [if_pos z, if_pos z]
        · rw [if_neg z, if_neg z, inb_ hi (by omega), nI_clamp (by omega), sl1_ hi, if_neg (by omega), e28, op_os, op_vRs, sl2_ hi, if_pos rfl]
      -- the reference up to the run
      have rfr : ∀ D, mr_ D S → ∃ D1, mr_ D1 S ∧ lw_ D D1 ∧ yp_ D1 S.2.1.1 S.2.1.2 ∧ k163_0 w (d + 200) (nI i) (nI k) D = if wvr_ (flt_ S.2.1.1 r) = -1 then (op_o (k156_0 w (d + 199) (nI 104) (-1) (dI_ (dI_ (dI_ (dI_ (dI_ D1 351 7 (nI 0)) 351 35 (nI k)) 351 36 (nI 1)) 351 37 (nI 0)) 351 38 (nI 0))) none (fun p4 => op_vN p4.1 none (op_o (k157_0 w (d + 199) p4.2) none (fun p5 => op_vN p5.1 none (k163_89 w (d + 200) (nI i) (D1.1 351 7) (nI 0) p5.2))))) else (some (some (.int ((-1000) - wvr_ (flt_ S.2.1.1 r))), (dI_ D1 351 7 (nI 0)))) := by
        intro D hD
        have h' := mr_0 (v := nI 0) hD
        obtain ⟨D1, a1, a2⟩ := x151 (w := w) (d := d + 196) ht hk S.2.1.1 0 [] false (dI_ D 351 0 (nI 0)) (by omega) (by show 0 ≤ 30; omega) trivial h'.2.1
        have ew : wr_ k S.2.1.2 S.2.1.1 0 [] false = flt_ S.2.1.1 r := by
          rw [← wqr_all hk.2 hr]
          rfl
        rw [ew] at a1
        have e151 : k151_0 w (d + 199) (nI k) (dI_ D 351 0 (nI 0)) = some (some (.int (wvr_ (flt_ S.2.1.1 r))), D1) := by
          rw [e151_0]
          exact a1
        have l1 : lof_ 0 (dI_ D 351 0 (nI 0)) D1 := ⟨⟨fun j _ => by rw [(a2 351 (by omega)).1], fun b hb => (a2 b (by omega)).1, fun b hb => (a2 b (by omega)).2⟩, fun g hg => absurd hg (by omega), fun g _ => by rw [(a2 377 (by omega)).1], fun m M _ _ q => rm_fr q fun c hc => (a2 c (by omega)).1⟩
        have m1 := lof_mr l1 hS h'
        refine ⟨D1, m1, lw_t (lw_I (by omega)) (lof_lw l1), m1.2.1, ?_⟩
        rw [e163_0, x114s, c1, op_os, op_vIs, if_neg (by decide), r1, c2, op_os, op_vIs, if_pos (by decide), e151, op_os, op_vIs]
      have m7 : ∀ D1, mr_ D1 S → mr_ (dI_ D1 351 7 (nI 0)) (ut_ S 0 S.2.1.2) := fun D1 h => mr_ut h ⟨by rw [dI_at, if_pos ⟨rfl, rfl⟩]; rfl, fun j hj => absurd hj (by show ¬ j < 0; omega)⟩ (fun c h1 h2 h3 => dIne_ h1) (fun j h1 h2 => by rw [dI_at, if_neg (by omega)])
      cases hf : flt_ S.2.1.1 r with
      | some f =>
        -- a fault
        have hf5 : f ≤ 500 ∧ ans_ S.2.1.1 r = -1000 - nI f := by
          cases r with
          | inl f' =>
            have e : some f' = some f := hf
            cases e
            have : f ≤ S.2.1.1 := mo
            exact ⟨by omega, rfl⟩
          | inr p =>
            have e : (if p.1 < S.2.1.1 then some p.1 else none) = some f := hf
            by_cases z : p.1 < S.2.1.1
            · rw [if_pos z] at e
              cases e
              refine ⟨by omega, ?_⟩
              show (if p.1 < S.2.1.1 then -1000 - nI p.1 else aov_ p.2) = _
              rw [if_pos z]
            · rw [if_neg z] at e
              cases e
        refine bo_i (.int (-1000 - nI f)) (ut_ S 0 S.2.1.2) hS0 (fun D hD => ?_) (fun D hD => ?_)
        · obtain ⟨D1, a1, a2, a3, a4⟩ := cls D hD
          refine ⟨_, ?_, rc_m a2 (by omega), a3⟩
          rw [a1 _ hf5.2, if_pos (an_le hf5.1)]
        · obtain ⟨D1, b1, b2, b3, b4⟩ := rfr D hD
          refine ⟨dI_ D1 351 7 (nI 0), ?_, m7 D1 b1, lw_t b2 (lw_I (by omega))⟩
          rw [b4, hf, if_neg (show ¬ wvr_ (some f) = -1 from nI_n1 (by omega))]
          rfl
      | none =>
        -- no fault: the whole text is read
        obtain ⟨v, rfl⟩ : ∃ v, r = .inr (S.2.1.1, v) := by
          cases r with
          | inl f =>
            have e : some f = none := hf
            cases e
          | inr p =>
            have e : (if p.1 < S.2.1.1 then some p.1 else none) = none := hf
            have mo' : 0 ≤ p.1 ∧ p.1 ≤ S.2.1.1 ∧ _ := mo
            by_cases z : p.1 < S.2.1.1
            · rw [if_pos z] at e
              cases e
            · obtain ⟨j, v⟩ := p
              obtain rfl : j = S.2.1.1 := by
                have := mo'.2.1
                have z' : ¬ j < S.2.1.1 := z
                omega
              exact ⟨v, rfl⟩
        have ea : ans_ S.2.1.1 (.inr (S.2.1.1, v)) = aov_ v := by
          show (if S.2.1.1 < S.2.1.1 then -1000 - nI S.2.1.1 else aov_ v) = _
          rw [if_neg (Nat.lt_irrefl _)]
        -- the reference's run
        have run : ∀ D, mr_ D S → ∃ E, zr_ k E ((none, none, none), none, 0, []) ∧ (∀ j, j < S.2.1.1 → E.1 357 j &&& nI 255 = nI (S.2.1.2 j)) ∧ mr_ E (ut_ S 0 S.2.1.2) ∧ lw_ D E ∧ k163_0 w (d + 200) (nI i) (nI k) D = k163_89 w (d + 200) (nI i) (nI S.2.1.1) (nI 0) E := by
          intro D hD
          obtain ⟨D1, b1, b2, b3, b4⟩ := rfr D hD
          rw [hf, if_pos (show wvr_ none = -1 from rfl)] at b4
          have m2 := mr_c (v := nI 0) (mr_c (v := nI 0) (mr_c (v := nI 1) (mr_c (v := nI k) (m7 D1 b1) (show (351 = 351 ∧ (35 = 35 ∨ 35 = 36 ∨ 35 = 37 ∨ 35 = 38 ∨ 35 = 43)) ∨ (376 ≤ 351 ∧ 351 ≤ 380) by omega)) (show (351 = 351 ∧ (36 = 35 ∨ 36 = 36 ∨ 36 = 37 ∨ 36 = 38 ∨ 36 = 43)) ∨ (376 ≤ 351 ∧ 351 ≤ 380) by omega)) (show (351 = 351 ∧ (37 = 35 ∨ 37 = 36 ∨ 37 = 37 ∨ 37 = 38 ∨ 37 = 43)) ∨ (376 ≤ 351 ∧ 351 ≤ 380) by omega)) (show (351 = 351 ∧ (38 = 35 ∨ 38 = 36 ∨ 38 = 37 ∨ 38 = 38 ∨ 38 = 43)) ∨ (376 ≤ 351 ∧ 351 ≤ 380) by omega)
          obtain ⟨E1, u1, u2, u3, u4⟩ := x156e (w := w) (d := d + 195) (m := 104) (k := k) (D := dI_ (dI_ (dI_ (dI_ (dI_ D1 351 7 (nI 0)) 351 35 (nI k)) 351 36 (nI 1)) 351 37 (nI 0)) 351 38 (nI 0)) (by omega) hk (by simp (disch := omega) only [nI_add, pk_mul, nI_clamp, nI_leI, nI_ltI, nI_eq, inb_, iz1_, iz2_, iz3_, iz4_, iz5_, reduceIte, if_pos, if_neg, op_os, op_vIs, op_vLs, op_vRs, op_vNs, dI_at, dL_at, dI_2, dL_1, Nat.reduceEqDiff, Nat.reduceAdd, Nat.reduceMul, false_and, and_false, true_and, and_true, ne_eq, not_true_eq_false, not_false_eq_true, b2_z, b2_o, b2_n, b2_01, nar_b, nar_0, nar_1, Bool.false_eq_true, Bool.true_eq_false])
          have e35 : E1.1 351 35 = nI k := (u2.1 35 (by omega)).trans (by simp (disch := omega) only [nI_add, pk_mul, nI_clamp, nI_leI, nI_ltI, nI_eq, inb_, iz1_, iz2_, iz3_, iz4_, iz5_, reduceIte, if_pos, if_neg, op_os, op_vIs, op_vLs, op_vRs, op_vNs, dI_at, dL_at, dI_2, dL_1, Nat.reduceEqDiff, Nat.reduceAdd, Nat.reduceMul, false_and, and_false, true_and, and_true, ne_eq, not_true_eq_false, not_false_eq_true, b2_z, b2_o, b2_n, b2_01, nar_b, nar_0, nar_1, Bool.false_eq_true, Bool.true_eq_false])
          have e36 : E1.1 351 36 = nI 1 := u3.trans (by simp (disch := omega) only [nI_add, pk_mul, nI_clamp, nI_leI, nI_ltI, nI_eq, inb_, iz1_, iz2_, iz3_, iz4_, iz5_, reduceIte, if_pos, if_neg, op_os, op_vIs, op_vLs, op_vRs, op_vNs, dI_at, dL_at, dI_2, dL_1, Nat.reduceEqDiff, Nat.reduceAdd, Nat.reduceMul, false_and, and_false, true_and, and_true, ne_eq, not_true_eq_false, not_false_eq_true, b2_z, b2_o, b2_n, b2_01, nar_b, nar_0, nar_1, Bool.false_eq_true, Bool.true_eq_false])
          have e37 : E1.1 351 37 = nI 0 := (u2.1 37 (by omega)).trans (by simp (disch := omega) only [nI_add, pk_mul, nI_clamp, nI_leI, nI_ltI, nI_eq, inb_, iz1_, iz2_, iz3_, iz4_, iz5_, reduceIte, if_pos, if_neg, op_os, op_vIs, op_vLs, op_vRs, op_vNs, dI_at, dL_at, dI_2, dL_1, Nat.reduceEqDiff, Nat.reduceAdd, Nat.reduceMul, false_and, and_false, true_and, and_true, ne_eq, not_true_eq_false, not_false_eq_true, b2_z, b2_o, b2_n, b2_01, nar_b, nar_0, nar_1, Bool.false_eq_true, Bool.true_eq_false])
          have e38 : E1.1 351 38 = nI 0 := (u2.1 38 (by omega)).trans (by simp (disch := omega) only [nI_add, pk_mul, nI_clamp, nI_leI, nI_ltI, nI_eq, inb_, iz1_, iz2_, iz3_, iz4_, iz5_, reduceIte, if_pos, if_neg, op_os, op_vIs, op_vLs, op_vRs, op_vNs, dI_at, dL_at, dI_2, dL_1, Nat.reduceEqDiff, Nat.reduceAdd, Nat.reduceMul, false_and, and_false, true_and, and_true, ne_eq, not_true_eq_false, not_false_eq_true, b2_z, b2_o, b2_n, b2_01, nar_b, nar_0, nar_1, Bool.false_eq_true, Bool.true_eq_false])
          have m3 := gz_mr hS0 m2 u2 (by omega)
          have e357 : E1.1 357 = D1.1 357 := (u2.2.1 357 (by omega)).trans ((dIne_ (by omega)).trans ((dIne_ (by omega)).trans ((dIne_ (by omega)).trans ((dIne_ (by omega)).trans (dIne_ (by omega))))))
          refine ⟨dI_ (dI_ (dI_ (dI_ (dI_ (dI_ (dI_ E1 378 0 (b2_ false)) 379 0 (b2_ false)) 380 0 (b2_ false)) 377 0 (nI 0)) 351 38 (nI 0)) 351 37 (nI (0 + 1))) 351 43 (nI 0), ⟨⟨⟨?_, ?_, ?_, ?_, ?_⟩, hvz_n, ?_, ⟨⟨?_, ?_, ?_⟩, hvz_n, hvz_n, hvz_n⟩⟩, trivial, by show 0 ≤ 30; omega, by show 0 ≤ 30; omega, Or.inl rfl⟩, fun j hj => ?_, ?_, ?_, ?_⟩
          · simp (disch := omega) only [nI_add, pk_mul, nI_clamp, nI_leI, nI_ltI, nI_eq, inb_, iz1_, iz2_, iz3_, iz4_, iz5_, reduceIte, if_pos, if_neg, op_os, op_vIs, op_vLs, op_vRs, op_vNs, dI_at, dL_at, dI_2, dL_1, Nat.reduceEqDiff, Nat.reduceAdd, Nat.reduceMul, false_and, and_false, true_and, and_true, ne_eq, not_true_eq_false, not_false_eq_true, b2_z, b2_o, b2_n, b2_01, nar_b, nar_0, nar_1, Bool.false_eq_true, Bool.true_eq_false, e35]
          · simp (disch := omega) only [nI_add, pk_mul, nI_clamp, nI_leI, nI_ltI, nI_eq, inb_, iz1_, iz2_, iz3_, iz4_, iz5_, reduceIte, if_pos, if_neg, op_os, op_vIs, op_vLs, op_vRs, op_vNs, dI_at, dL_at, dI_2, dL_1, Nat.reduceEqDiff, Nat.reduceAdd, Nat.reduceMul, false_and, and_false, true_and, and_true, ne_eq, not_true_eq_false, not_false_eq_true, b2_z, b2_o, b2_n, b2_01, nar_b, nar_0, nar_1, Bool.false_eq_true, Bool.true_eq_false, e36]
          · simp (disch := omega) only [nI_add, pk_mul, nI_clamp, nI_leI, nI_ltI, nI_eq, inb_, iz1_, iz2_, iz3_, iz4_, iz5_, reduceIte, if_pos, if_neg, op_os, op_vIs, op_vLs, op_vRs, op_vNs, dI_at, dL_at, dI_2, dL_1, Nat.reduceEqDiff, Nat.reduceAdd, Nat.reduceMul, false_and, and_false, true_and, and_true, ne_eq, not_true_eq_false, not_false_eq_true, b2_z, b2_o, b2_n, b2_01, nar_b, nar_0, nar_1, Bool.false_eq_true, Bool.true_eq_false]
            rfl
          · simp (disch := omega) only [nI_add, pk_mul, nI_clamp, nI_leI, nI_ltI, nI_eq, inb_, iz1_, iz2_, iz3_, iz4_, iz5_, reduceIte, if_pos, if_neg, op_os, op_vIs, op_vLs, op_vRs, op_vNs, dI_at, dL_at, dI_2, dL_1, Nat.reduceEqDiff, Nat.reduceAdd, Nat.reduceMul, false_and, and_false, true_and, and_true, ne_eq, not_true_eq_false, not_false_eq_true, b2_z, b2_o, b2_n, b2_01, nar_b, nar_0, nar_1, Bool.false_eq_true, Bool.true_eq_false]
          · simp (disch := omega) only [nI_add, pk_mul, nI_clamp, nI_leI, nI_ltI, nI_eq, inb_, iz1_, iz2_, iz3_, iz4_, iz5_, reduceIte, if_pos, if_neg, op_os, op_vIs, op_vLs, op_vRs, op_vNs, dI_at, dL_at, dI_2, dL_1, Nat.reduceEqDiff, Nat.reduceAdd, Nat.reduceMul, false_and, and_false, true_and, and_true, ne_eq, not_true_eq_false, not_false_eq_true, b2_z, b2_o, b2_n, b2_01, nar_b, nar_0, nar_1, Bool.false_eq_true, Bool.true_eq_false]
            rfl
          · exact rm_I (rm_I (rm_I (rm_I (rm_I (rm_I (rm_I u4 (by omega)) (by omega)) (by omega)) (by omega)) (by omega)) (by omega)) (by omega)
          · show _ = b2_ false
            rw [show ([] : List (f3_ × Nat)).length = 0 from rfl]
            simp (disch := omega) only [nI_add, pk_mul, nI_clamp, nI_leI, nI_ltI, nI_eq, inb_, iz1_, iz2_, iz3_, iz4_, iz5_, reduceIte, if_pos, if_neg, op_os, op_vIs, op_vLs, op_vRs, op_vNs, dI_at, dL_at, dI_2, dL_1, Nat.reduceEqDiff, Nat.reduceAdd, Nat.reduceMul, false_and, and_false, true_and, and_true, ne_eq, not_true_eq_false, not_false_eq_true, b2_z, b2_o, b2_n, b2_01, nar_b, nar_0, nar_1, Bool.false_eq_true, Bool.true_eq_false]
          · show _ = b2_ false
            rw [show ([] : List (f3_ × Nat)).length = 0 from rfl]
            simp (disch := omega) only [nI_add, pk_mul, nI_clamp, nI_leI, nI_ltI, nI_eq, inb_, iz1_, iz2_, iz3_, iz4_, iz5_, reduceIte, if_pos, if_neg, op_os, op_vIs, op_vLs, op_vRs, op_vNs, dI_at, dL_at, dI_2, dL_1, Nat.reduceEqDiff, Nat.reduceAdd, Nat.reduceMul, false_and, and_false, true_and, and_true, ne_eq, not_true_eq_false, not_false_eq_true, b2_z, b2_o, b2_n, b2_01, nar_b, nar_0, nar_1, Bool.false_eq_true, Bool.true_eq_false]
          · show _ = b2_ false
            rw [show ([] : List (f3_ × Nat)).length = 0 from rfl]
            simp (disch := omega) only [nI_add, pk_mul, nI_clamp, nI_leI, nI_ltI, nI_eq, inb_, iz1_, iz2_, iz3_, iz4_, iz5_, reduceIte, if_pos, if_neg, op_os, op_vIs, op_vLs, op_vRs, op_vNs, dI_at, dL_at, dI_2, dL_1, Nat.reduceEqDiff, Nat.reduceAdd, Nat.reduceMul, false_and, and_false, true_and, and_true, ne_eq, not_true_eq_false, not_false_eq_true, b2_z, b2_o, b2_n, b2_01, nar_b, nar_0, nar_1, Bool.false_eq_true, Bool.true_eq_false]
          · simp (disch := omega) only [nI_add, pk_mul, nI_clamp, nI_leI, nI_ltI, nI_eq, inb_, iz1_, iz2_, iz3_, iz4_, iz5_, reduceIte, if_pos, if_neg, op_os, op_vIs, op_vLs, op_vRs, op_vNs, dI_at, dL_at, dI_2, dL_1, Nat.reduceEqDiff, Nat.reduceAdd, Nat.reduceMul, false_and, and_false, true_and, and_true, ne_eq, not_true_eq_false, not_false_eq_true, b2_z, b2_o, b2_n, b2_01, nar_b, nar_0, nar_1, Bool.false_eq_true, Bool.true_eq_false]
            rw [e357]
            exact b3.2 j hj
          · exact mr_c (mr_c (mr_c (mr_c (mr_c (mr_c (mr_c m3 (by omega)) (by omega)) (by omega)) (by omega)) (by omega)) (by omega)) (by omega)
          · exact lw_t b2 (lw_t (lw_t (lw_t (lw_t (lw_t (lw_I (by omega)) (lw_I (by omega))) (lw_I (by omega))) (lw_I (by omega))) (lw_I (by omega))) (lw_t (gz_lw u2) (lw_t (lw_t (lw_t (lw_t (lw_t (lw_t (lw_I (by omega)) (lw_I (by omega))) (lw_I (by omega))) (lw_I (by omega))) (lw_I (by omega))) (lw_I (by omega))) (lw_I (by omega)))))
          · rw [b4, u1, op_os, op_vNs, x157 (w := w) (d := d + 198) (g := 0) (q := 0) (by omega) e37 e38, op_os, op_vNs, b3.1]
        cases v with
        | none =>
          refine bo_i (.int (-104)) (ut_ S 0 S.2.1.2) hS0 (fun D hD => ?_) (fun D hD => ?_)
          · obtain ⟨D1, a1, a2, a3, a4⟩ := cls D hD
            refine ⟨_, ?_, rc_m a2 (by omega), a3⟩
            rw [a1 _ ea, if_pos (by decide)]
            rfl
          · obtain ⟨E, z1, z2, z3, z4, z5⟩ := run D hD
            obtain ⟨D', f1, f2, f3⟩ := (x163e (w := w) (d := d + 189) ht hk hi hr z1 z2 hS0 z3).1 rfl
            exact ⟨D', z5.trans f1, f2, lw_t z4 f3⟩
        | some M =>
          have hM : vok_ k M ∨ ¬ vok_ k M := Classical.em _
          -- the machine is good: the reference's run says so
          have good : (∃ D, mr_ D S) → vok_ k M := by
            rintro ⟨D, hD⟩
            obtain ⟨E, z1, z2, z3, z4, z5⟩ := run D hD
            obtain ⟨D', f1, f2, f3, f4⟩ := (x163e (w := w) (d := d + 189) ht hk hi hr z1 z2 hS0 z3).2 M rfl
            exact f4
          intro D hDc hDr
          have vM := good ⟨D, hDr⟩
          have hw := vM.1.2.1
          refine bo_i (.int (nI (M.2.1))) (us_ (ut_ S 0 S.2.1.2) i M) (us_ok hS0 vM.1 vM.2.1) (fun D hD => ?_) (fun D hD => ?_) D hDc hDr
          · obtain ⟨D1, a1, a2, a3, a4⟩ := cls D hD
            have c52 := (a4 S.2.1.1 M rfl (Nat.lt_irrefl _)).2
            have y2 : sx_ (fun b => b = 21) D1 (dI_ D1 21 1 (nI 0)) := sx_I rfl
            obtain ⟨p1, p2, p3⟩ := skm_ (show 0 < 96 by omega)
            obtain ⟨D', g1, g2, g3⟩ := x14 (w := w) (d := d + 198) (M := M) (a := 3 + 3 * i) (b := 52) (sl_ hi).2 p2 (by omega) (cm_sx c52 y2 (by omega) (by omega) (by omega)) vM.1 (by rw [sl4_ hi]; exact vM.2.1) (by rw [p3]; exact vM.2.1)
            refine ⟨D', ?_, rc_us (rc_m a2 (show B + 2000 * (S.2.1.1 + 2) ≤ B + 4000000 by omega)) hi g2 (fun b hb => (g3 b (fun z => hb (Or.inl (by omega)))).1) (rsp_m (rsp_fr a2.2.2.2.2 (g3 41 (by omega)).1 (g3 44 (by omega)).1 (g3 24 (by omega)).1) (by omega)), hi_t a3 (fun b hb => g3 b (by omega))⟩
            have vn := vM.2.1
            rw [a1 _ ea, if_neg (by show ¬ nI (M.2.1) ≤ nI 0; rw [nI_leI (by omega) (by omega)]; omega), g1]
            rfl
          · obtain ⟨E, z1, z2, z3, z4, z5⟩ := run D hD
            obtain ⟨D', f1, f2, f3, f4⟩ := (x163e (w := w) (d := d + 189) ht hk hi hr z1 z2 hS0 z3).2 M rfl
            exact ⟨D', z5.trans f1, f2, lw_t z4 f3⟩
    · refine bo_o (.int (-102)) hS (fun D hD => ?_) (fun D hD => ?_)
      · rw [e93_0, x106s, c1, op_os, op_vIs, if_neg (by decide), r2, bf_ c2]
        rfl
      · rw [e163_0, x114s, c1, op_os, op_vIs, if_neg (by decide), r1, bf_ c2]
        rfl
  · refine bo_o (.int (-102)) hS (fun D hD => ?_) (fun D hD => ?_)
    · rw [e93_0, x106s, bf_ c1]
      rfl
    · rw [e163_0, x114s, bf_ c1]
      rfl
end
