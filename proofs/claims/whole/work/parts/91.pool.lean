/-! THE REFERENCE'S pool of machines -/
/-- what stays but for machine t of the pool and what is used inside a call -/
def gz_ (t : Nat) (D D' : dy_) : Prop := (∀ j, j = 7 ∨ j = 35 ∨ j = 37 ∨ j = 38 ∨ j = 43 ∨ j = 47 ∨ j = 48 ∨ j = 49 → D'.1 351 j = D.1 351 j) ∧ (∀ b, b < 351 ∨ b = 357 ∨ 376 ≤ b → D'.1 b = D.1 b) ∧ (∀ b, b < 351 → D'.2 b = D.2 b) ∧ ∀ (m : Nat) (M : ma_), m ≠ t → M.2.1 ≤ 60 ∧ M.1 ≤ 4 → rm_ D m M → rm_ D' m M
theorem gz_r (t : Nat) (D : dy_) : gz_ t D D := ⟨fun _ _ => rfl, fun _ _ => rfl, fun _ _ => rfl, fun _ _ _ _ h => h⟩
theorem gz_t {t : Nat} {D D' D'' : dy_} (h : gz_ t D D') (g : gz_ t D' D'') : gz_ t D D'' := ⟨fun j hj => (g.1 j hj).trans (h.1 j hj), fun b hb => (g.2.1 b hb).trans (h.2.1 b hb), fun b hb => (g.2.2.1 b hb).trans (h.2.2.1 b hb), fun m M hm hM r => g.2.2.2 m M hm hM (h.2.2.2 m M hm hM r)⟩
theorem gz_rw {t : Nat} {D D' : dy_} (h : rw_ D D') : gz_ t D D' := ⟨fun j hj => h.2.1 j (by unfold wf8_; omega), fun b hb => h.1 b (by omega), fun b hb => h.2.2 b (by omega), fun m M _ _ r => rm_rw r h⟩
theorem gz_om {t : Nat} {D D' : dy_} (h : om_ t D D') : gz_ t D D' := ⟨fun j hj => h.2.2.1 j (by omega), fun b hb => h.2.1 b (by omega), fun b _ => by rw [h.1], fun m M hm hM r => rm_om hM r h hm⟩
theorem rm_I {D : dy_} {a i m : Nat} {v : Int32} {M : ma_} (h : rm_ D m M) (ha : a < 352 ∨ 356 < a) : rm_ (dI_ D a i v) m M := rm_fr h fun c hc => dIne_ (by omega)
theorem gz_36 {t : Nat} {D : dy_} {v : Int32} : gz_ t D (dI_ D 351 36 v) := ⟨fun j hj => by rw [dI_at, if_neg (by omega)], fun b hb => dIne_ (by omega), fun _ _ => rfl, fun m M _ _ r => rm_I r (by omega)⟩
section
variable {w : (Nat → Int32) × Nat} {d k : Nat} {D : dy_}
/-- copy -/
theorem x154 {a b : Nat} (ha : a < 110) (hb : b < 110) (hab : a ≠ b) : ∃ D', k154_0 w (d + 1) (nI a) (nI b) D = some (none, D') ∧ om_ b D D' ∧ ∀ M : ma_, M.2.1 ≤ 60 → M.1 ≤ 4 → rm_ D a M → rm_ D' b M := by
  have h0 : k154_0 w (d + 1) (nI a) (nI b) D = k154_38 w (d + 1) (nI a) (nI b) (nI 0) (dI_ (dI_ (dI_ D 352 b (D.1 352 a)) 353 b (D.1 353 a)) 354 b (D.1 354 a)) := by
    rw [e154_0]
    simp (disch := omega) only [nI_add, pk_mul, nI_clamp, nI_leI, nI_ltI, nI_eq, inb_, iz1_, iz2_, iz3_, iz4_, iz5_, reduceIte, if_pos, if_neg, op_os, op_vIs, op_vLs, op_vRs, op_vNs, dI_at, dL_at, dI_2, dL_1, Nat.reduceEqDiff, Nat.reduceAdd, Nat.reduceMul, false_and, and_false, true_and, and_true, ne_eq, not_true_eq_false, not_false_eq_true, b2_z, b2_o, b2_n, b2_01, nar_b, nar_0, nar_1, Bool.false_eq_true, Bool.true_eq_false]
  have o0 : om_ b D (dI_ (dI_ (dI_ D 352 b (D.1 352 a)) 353 b (D.1 353 a)) 354 b (D.1 354 a)) := om_t (om_t (om_I (by omega)) (om_I (by omega))) (om_I (by omega))
  have z2 : (dI_ (dI_ (dI_ D 352 b (D.1 352 a)) 353 b (D.1 353 a)) 354 b (D.1 354 a)).1 352 b = D.1 352 a := by
    simp (disch := omega) only [nI_add, pk_mul, nI_clamp, nI_leI, nI_ltI, nI_eq, inb_, iz1_, iz2_, iz3_, iz4_, iz5_, reduceIte, if_pos, if_neg, op_os, op_vIs, op_vLs, op_vRs, op_vNs, dI_at, dL_at, dI_2, dL_1, Nat.reduceEqDiff, Nat.reduceAdd, Nat.reduceMul, false_and, and_false, true_and, and_true, ne_eq, not_true_eq_false, not_false_eq_true, b2_z, b2_o, b2_n, b2_01, nar_b, nar_0, nar_1, Bool.false_eq_true, Bool.true_eq_false]
  have z3 : (dI_ (dI_ (dI_ D 352 b (D.1 352 a)) 353 b (D.1 353 a)) 354 b (D.1 354 a)).1 353 b = D.1 353 a := by
    simp (disch := omega) only [nI_add, pk_mul, nI_clamp, nI_leI, nI_ltI, nI_eq, inb_, iz1_, iz2_, iz3_, iz4_, iz5_, reduceIte, if_pos, if_neg, op_os, op_vIs, op_vLs, op_vRs, op_vNs, dI_at, dL_at, dI_2, dL_1, Nat.reduceEqDiff, Nat.reduceAdd, Nat.reduceMul, false_and, and_false, true_and, and_true, ne_eq, not_true_eq_false, not_false_eq_true, b2_z, b2_o, b2_n, b2_01, nar_b, nar_0, nar_1, Bool.false_eq_true, Bool.true_eq_false]
  have z4 : (dI_ (dI_ (dI_ D 352 b (D.1 352 a)) 353 b (D.1 353 a)) 354 b (D.1 354 a)).1 354 b = D.1 354 a := by
    simp (disch := omega) only [nI_add, pk_mul, nI_clamp, nI_leI, nI_ltI, nI_eq, inb_, iz1_, iz2_, iz3_, iz4_, iz5_, reduceIte, if_pos, if_neg, op_os, op_vIs, op_vLs, op_vRs, op_vNs, dI_at, dL_at, dI_2, dL_1, Nat.reduceEqDiff, Nat.reduceAdd, Nat.reduceMul, false_and, and_false, true_and, and_true, ne_eq, not_true_eq_false, not_false_eq_true, b2_z, b2_o, b2_n, b2_01, nar_b, nar_0, nar_1, Bool.false_eq_true, Bool.true_eq_false]
  obtain ⟨D1, e1, i1, i2, i3⟩ := lp_ (fun i E => k154_38 w (d + 1) (nI a) (nI b) (nI i) E) (fun i E => om_ b D E ∧ (E.1 352 b = D.1 352 a ∧ E.1 353 b = D.1 353 a ∧ E.1 354 b = D.1 354 a) ∧ ∀ x, x < i → E.1 355 (240 * b + x) = D.1 355 (240 * a + x)) 240 (fun i E hi h => by
    obtain ⟨h1, h2, h3⟩ := h
    have ea : E.1 355 (240 * a + i) = D.1 355 (240 * a + i) := h1.2.2.2.2.1 _ (by omega)
    refine ⟨dI_ E 355 (240 * b + i) (D.1 355 (240 * a + i)), ?_, om_t h1 (om_I (by omega)), ?_, fun x hx => ?_⟩
    · show k154_38 w (d + 1) (nI a) (nI b) (nI i) E = k154_38 w (d + 1) (nI a) (nI b) (nI (i + 1)) (dI_ E 355 (240 * b + i) (D.1 355 (240 * a + i)))
      rw [e154_38]
      simp (disch := omega) only [nI_add, pk_mul, nI_clamp, nI_leI, nI_ltI, nI_eq, inb_, iz1_, iz2_, iz3_, iz4_, iz5_, reduceIte, if_pos, if_neg, op_os, op_vIs, op_vLs, op_vRs, op_vNs, dI_at, dL_at, dI_2, dL_1, Nat.reduceEqDiff, Nat.reduceAdd, Nat.reduceMul, false_and, and_false, true_and, and_true, ne_eq, not_true_eq_false, not_false_eq_true, b2_z, b2_o, b2_n, b2_01, nar_b, nar_0, nar_1, Bool.false_eq_true, Bool.true_eq_false, ea]
    · simp (disch := omega) only [nI_add, pk_mul, nI_clamp, nI_leI, nI_ltI, nI_eq, inb_, iz1_, iz2_, iz3_, iz4_, iz5_, reduceIte, if_pos, if_neg, op_os, op_vIs, op_vLs, op_vRs, op_vNs, dI_at, dL_at, dI_2, dL_1, Nat.reduceEqDiff, Nat.reduceAdd, Nat.reduceMul, false_and, and_false, true_and, and_true, ne_eq, not_true_eq_false, not_false_eq_true, b2_z, b2_o, b2_n, b2_01, nar_b, nar_0, nar_1, Bool.false_eq_true, Bool.true_eq_false, h2]
    · rw [dI_at]
      by_cases q : x = i
      · rw [if_pos ⟨rfl, by omega⟩, q]
      · rw [if_neg (by omega)]
        exact h3 x (by omega)) (s := dI_ (dI_ (dI_ D 352 b (D.1 352 a)) 353 b (D.1 353 a)) 354 b (D.1 354 a)) ⟨o0, ⟨z2, z3, z4⟩, fun x hx => absurd hx (by omega)⟩
  have e2 : k154_38 w (d + 1) (nI a) (nI b) (nI 240) D1 = k154_77 w (d + 1) (nI a) (nI b) (nI 0) D1 := by
    rw [e154_38, if_pos (by decide)]
  obtain ⟨D2, f1, j1, j2, j3, j4⟩ := lp_ (fun i E => k154_77 w (d + 1) (nI a) (nI b) (nI i) E) (fun i E => om_ b D E ∧ (E.1 352 b = D.1 352 a ∧ E.1 353 b = D.1 353 a ∧ E.1 354 b = D.1 354 a) ∧ (∀ x, x < 240 → E.1 355 (240 * b + x) = D.1 355 (240 * a + x)) ∧ ∀ x, x < i → E.1 356 (60 * b + x) = vp_nar .boolean (D.1 356 (60 * a + x))) 60 (fun i E hi h => by
    obtain ⟨h1, h2, h3, h4⟩ := h
    have ea : E.1 356 (60 * a + i) = D.1 356 (60 * a + i) := h1.2.2.2.2.2 _ (by omega)
    refine ⟨dI_ E 356 (60 * b + i) (vp_nar .boolean (D.1 356 (60 * a + i))), ?_, om_t h1 (om_I (by omega)), ?_, fun x hx => ?_, fun x hx => ?_⟩
    · show k154_77 w (d + 1) (nI a) (nI b) (nI i) E = k154_77 w (d + 1) (nI a) (nI b) (nI (i + 1)) (dI_ E 356 (60 * b + i) (vp_nar .boolean (D.1 356 (60 * a + i))))
      rw [e154_77]
      simp (disch := omega) only [nI_add, pk_mul, nI_clamp, nI_leI, nI_ltI, nI_eq, inb_, iz1_, iz2_, iz3_, iz4_, iz5_, reduceIte, if_pos, if_neg, op_os, op_vIs, op_vLs, op_vRs, op_vNs, dI_at, dL_at, dI_2, dL_1, Nat.reduceEqDiff, Nat.reduceAdd, Nat.reduceMul, false_and, and_false, true_and, and_true, ne_eq, not_true_eq_false, not_false_eq_true, b2_z, b2_o, b2_n, b2_01, nar_b, nar_0, nar_1, Bool.false_eq_true, Bool.true_eq_false, ea]
    · simp (disch := omega) only [nI_add, pk_mul, nI_clamp, nI_leI, nI_ltI, nI_eq, inb_, iz1_, iz2_, iz3_, iz4_, iz5_, reduceIte, if_pos, if_neg, op_os, op_vIs, op_vLs, op_vRs, op_vNs, dI_at, dL_at, dI_2, dL_1, Nat.reduceEqDiff, Nat.reduceAdd, Nat.reduceMul, false_and, and_false, true_and, and_true, ne_eq, not_true_eq_false, not_false_eq_true, b2_z, b2_o, b2_n, b2_01, nar_b, nar_0, nar_1, Bool.false_eq_true, Bool.true_eq_false, h2]
    · rw [dI_at, if_neg (by omega)]
      exact h3 x hx
    · rw [dI_at]
      by_cases q : x = i
      · rw [if_pos ⟨rfl, by omega⟩, q]
      · rw [if_neg (by omega)]
        exact h4 x (by omega)) (s := D1) ⟨i1, i2, i3, fun x hx => absurd hx (by omega)⟩
  refine ⟨D2, ?_, j1, fun M hn hk r => ?_⟩
  · rw [h0]
    refine (show _ = _ from e1).trans (e2.trans ((show _ = _ from f1).trans ?_))
    show k154_77 w (d + 1) (nI a) (nI b) (nI 60) D2 = _
    rw [e154_77, if_pos (by decide)]
  · obtain ⟨r1, r2, r3, r4, r5⟩ := r
    refine ⟨j2.1.trans r1, j2.2.1.trans r2, j2.2.2.trans r3, fun p l hp hl => ?_, fun p hp => ?_⟩
    · have := j3 (4 * p + l) (by omega)
      rw [show 4 * (60 * b + p) + l = 240 * b + (4 * p + l) by omega, this, show 240 * a + (4 * p + l) = 4 * (60 * a + p) + l by omega]
      exact r4 p l hp hl
    · rw [j4 p (by omega), r5 p hp, nar_b]
/-- joinIn -/
theorem x155 {t h a b : Nat} {A B : ma_} (hh : h < 8) (ht : t < 110) (ha : a < 110) (hb : b < 110) (h36 : D.1 351 36 = nI 1) (hA : vok_ k A) (hB : vok_ k B) (rA : rm_ D a A) (rB : rm_ D b B) : ∃ D', k155_0 w (d + 6) (nI t) (nI h) (nI a) (nI b) D = some (none, D') ∧ gz_ t D D' ∧ (∀ M, jo_ h A B = some M → D'.1 351 36 = nI 1 ∧ vok_ k M ∧ rm_ D' t M) ∧ (jo_ h A B = none → D'.1 351 36 = nI 0) := by
  have q := x144 (w := w) (d := d) (t := t) (n := b) (h := h) (i4 := nI b) hh ht ha (fun _ => ⟨hb, rfl, rB⟩) rA hA.1 hB.1 hA.2.1 hB.2.1 (hA.2.2.trans hB.2.2.symm)
  by_cases ok : jok_ h A B
  · obtain ⟨D1, D2, q1, q2, q3, q4⟩ := q.1 ok
    refine ⟨dI_ D2 351 36 (nI 1), ?_, gz_t (gz_t (gz_rw q3) (gz_om q4)) gz_36, fun M e => ?_, fun e => ?_⟩
    · rw [e155_0, h36, if_neg (by decide), q1, op_os, op_vIs, if_neg (by decide)]
    · have e' := e
      rw [jo_t ok] at e
      cases e
      exact ⟨by rw [dI_at, if_pos ⟨rfl, rfl⟩], jo_ok hh hA hB e', rm_I q2 (by omega)⟩
    · rw [jo_t ok] at e
      cases e
  · obtain ⟨D2, q1, q2⟩ := q.2 ok
    refine ⟨dI_ D2 351 36 (nI 0), ?_, gz_t (gz_rw q2) gz_36, fun M e => ?_, fun e => ?_⟩
    · rw [e155_0, h36, if_neg (by decide), q1, op_os, op_vIs, if_pos b2f_]
    · rw [jo_f ok] at e
      cases e
    · rw [dI_at, if_pos ⟨rfl, rfl⟩]
/-- joinIn, where there is no room any more -/
theorem x155d {x y z v : Int32} (h36 : D.1 351 36 = nI 0) : k155_0 w (d + 1) x y z v D = some (none, dI_ D 351 36 (nI 0)) := by
  rw [e155_0, h36, if_pos rfl]
/-- simple, by what it lays -/
theorem x156g {m : Nat} {x : Int32} {f : Nat → Nat → Nat} {g : Nat → Bool} {Q : ma_} (hm : m < 110) (hk : 1 ≤ k ∧ k ≤ 4) (h35 : D.1 351 35 = nI k) (hf3 : ∀ p l, f p l < 3) (hg : ∀ p, p < 3 → ∀ E, k156_15 w (d + 4) (nI m) x (nI p) E = k156_58 w (d + 4) (nI m) x (nI p) 359 (nI p) (b2_ (g p)) E) (hf : ∀ p l, p < 3 → l < k → ∀ E, E.1 351 35 = nI k → k156_62 w (d + 4) (nI m) x (nI p) (nI l) E = k156_116 w (d + 4) (nI m) x (nI p) (nI l) 358 (nI (4 * p + l)) (nI (f p l)) E) (hQ : em_ (qm_ (lfm_ (k, 3, 0, f, g))) Q) : ∃ D', k156_0 w (d + 4) (nI m) x D = some (none, D') ∧ gz_ m D D' ∧ D'.1 351 36 = D.1 351 36 ∧ rm_ D' m Q := by
  have w3 : wm_ ((k, 3, 0, f, g) : ma_) := m3_w hk hf3
  have wl := lfm_wm w3 (show 3 ≤ 60 by omega)
  have h0 : k156_0 w (d + 4) (nI m) x D = k156_15 w (d + 4) (nI m) x (nI 0) (dI_ (dI_ D 351 9 (nI 3)) 351 8 (nI k)) := by
    rw [e156_0]
    simp (disch := omega) only [nI_add, pk_mul, nI_clamp, nI_leI, nI_ltI, nI_eq, inb_, iz1_, iz2_, iz3_, iz4_, iz5_, reduceIte, if_pos, if_neg, op_os, op_vIs, op_vLs, op_vRs, op_vNs, dI_at, dL_at, dI_2, dL_1, Nat.reduceEqDiff, Nat.reduceAdd, Nat.reduceMul, false_and, and_false, true_and, and_true, ne_eq, not_true_eq_false, not_false_eq_true, b2_z, b2_o, b2_n, b2_01, nar_b, nar_0, nar_1, Bool.false_eq_true, Bool.true_eq_false, h35]
  have s358 : (sh_.1 358).1 = 1 ∧ 12 ≤ (sh_.1 358).2 ∧ (sh_.1 358).2 < 2 ^ 31 := by decide +kernel
  have s359 : (sh_.1 359).1 = 2 ∧ 3 ≤ (sh_.1 359).2 ∧ (sh_.1 359).2 < 2 ^ 31 := by decide +kernel
  -- what is laid after p states and l letters of the next
  obtain ⟨D1, e1, i1, i2, i3, i4⟩ := lp_ (fun p E => k156_15 w (d + 4) (nI m) x (nI p) E) (fun p E => rw_ D E ∧ (E.1 351 8 = nI k ∧ E.1 351 9 = nI 3) ∧ (∀ i l, i < p → l < k → E.1 358 (4 * i + l) = nI (f i l)) ∧ ∀ i, i < p → E.1 359 i = b2_ (g i)) 3 (fun p E hp h => by
    obtain ⟨h1, h2, h3, h4⟩ := h
    have a1 : k156_15 w (d + 4) (nI m) x (nI p) E = k156_62 w (d + 4) (nI m) x (nI p) (nI 0) (dI_ E 359 p (b2_ (g p))) := by
      rw [hg p hp, e156_58, if_pos s359.1, inb_ (by omega) s359.2.2, nI_clamp (by omega), nar_b]
    obtain ⟨E1, b1, c1, c2, c3, c4⟩ := lp_ (fun l F => k156_62 w (d + 4) (nI m) x (nI p) (nI l) F) (fun l F => rw_ D F ∧ (F.1 351 8 = nI k ∧ F.1 351 9 = nI 3) ∧ (∀ i l', (i < p ∧ l' < k) ∨ (i = p ∧ l' < l) → F.1 358 (4 * i + l') = nI (f i l')) ∧ ∀ i, i < p + 1 → F.1 359 i = b2_ (g i)) k (fun l F hl h => by
      obtain ⟨g1, g2, g3, g4⟩ := h
      refine ⟨dI_ F 358 (4 * p + l) (nI (f p l)), ?_, rw_1 g1 (by omega), ?_, fun i l' hil => ?_, fun i hi => ?_⟩
      · show k156_62 w (d + 4) (nI m) x (nI p) (nI l) F = k156_62 w (d + 4) (nI m) x (nI p) (nI (l + 1)) (dI_ F 358 (4 * p + l) (nI (f p l)))
        rw [hf p l hp hl F ((g1.2.1 35 (by unfold wf8_; omega)).trans h35), e156_116, if_pos s358.1, inb_ (by omega) s358.2.2, nI_clamp (by omega), nI_add]
      · rw [dI_at, if_neg (by omega), dI_at, if_neg (by omega)]
        exact g2
      · rw [dI_at]
        by_cases z : i = p ∧ l' = l
        · rw [if_pos ⟨rfl, by omega⟩, z.1, z.2]
        · rw [if_neg (by omega)]
          exact g3 i l' (by omega)
      · rw [dI_at, if_neg (by omega)]
        exact g4 i hi) (s := dI_ E 359 p (b2_ (g p))) ⟨rw_1 h1 (by omega), by rw [dI_at, if_neg (by omega), dI_at, if_neg (by omega)]; exact h2, fun i l' hil => by rw [dI_at, if_neg (by omega)]; exact h3 i l' (by omega) (by omega), fun i hi => by
        rw [dI_at]
        by_cases z : i = p
        · rw [if_pos ⟨rfl, z⟩, z]
        · rw [if_neg (by omega)]
          exact h4 i (by omega)⟩
    refine ⟨E1, ?_, c1, c2, fun i l hi hl => c3 i l (by omega), c4⟩
    refine a1.trans ((show _ = _ from b1).trans ?_)
    show k156_62 w (d + 4) (nI m) x (nI p) (nI k) E1 = k156_15 w (d + 4) (nI m) x (nI (p + 1)) E1
    rw [e156_62, (c1.2.1 35 (by unfold wf8_; omega)).trans h35, if_pos (by rw [nI_leI (by omega) (by omega)]; omega), nI_add]) (s := dI_ (dI_ D 351 9 (nI 3)) 351 8 (nI k)) ⟨rw_1 (rw_1 (rw_r D) (by unfold wf8_; omega)) (by unfold wf8_; omega), by simp (disch := omega) only [nI_add, pk_mul, nI_clamp, nI_leI, nI_ltI, nI_eq, inb_, iz1_, iz2_, iz3_, iz4_, iz5_, reduceIte, if_pos, if_neg, op_os, op_vIs, op_vLs, op_vRs, op_vNs, dI_at, dL_at, dI_2, dL_1, Nat.reduceEqDiff, Nat.reduceAdd, Nat.reduceMul, false_and, and_false, true_and, and_true, ne_eq, not_true_eq_false, not_false_eq_true, b2_z, b2_o, b2_n, b2_01, nar_b, nar_0, nar_1, Bool.false_eq_true, Bool.true_eq_false], fun i l hi => absurd hi (by omega), fun i hi => absurd hi (by omega)⟩
  have bg1 : bg_ D1 (k, 3, 0, f, g) := ⟨i2.1, i2.2, i3, i4⟩
  obtain ⟨D2, u1, u2, u3⟩ := x123 (w := w) (d := d + 2) hm bg1 w3 rfl (show 3 ≤ 60 by omega)
  obtain ⟨D3, v1, v2, v3⟩ := x122 (w := w) (d := d + 1) hm u2 w3 (show 3 ≤ 60 by omega)
  obtain ⟨D4, y1, y2, y3⟩ := x127 (w := w) (d := d) wl.1 v2 (lfm_io w3 (show 3 ≤ 60 by omega)) (by have : (lfm_ (k, 3, 0, f, g)).2.1 ≤ 3 := wl.2; omega)
  obtain ⟨D5, z1, z2, z3⟩ := x123 (w := w) (d := d + 2) hm y2 (qm_wm wl.1) rfl (lfm_nn w3 (show 3 ≤ 60 by omega))
  refine ⟨D5, ?_, gz_t (gz_t (gz_t (gz_t (gz_rw i1) (gz_om u3)) (gz_rw v3)) (gz_rw y3)) (gz_om z3), ?_, rm_em z2 hQ⟩
  · rw [h0]
    refine (show _ = _ from e1).trans ?_
    show k156_15 w (d + 4) (nI m) x (nI 3) D1 = _
    rw [e156_15, if_pos (by decide), u1, op_os, op_vIs, v1, op_os, op_vNs, y1, op_os, op_vNs, z1]
    rfl
  · rw [z3.2.2.1 36 (by omega), y3.2.1 36 (by unfold wf8_; omega), v3.2.1 36 (by unfold wf8_; omega), u3.2.2.1 36 (by omega), i1.2.1 36 (by unfold wf8_; omega)]
/-- simple: the word without letters -/
theorem x156e {m : Nat} (hm : m < 110) (hk : 1 ≤ k ∧ k ≤ 4) (h35 : D.1 351 35 = nI k) : ∃ D', k156_0 w (d + 4) (nI m) (-1) D = some (none, D') ∧ gz_ m D D' ∧ D'.1 351 36 = D.1 351 36 ∧ rm_ D' m (ep_ k) := by
  refine x156g (f := fun _ _ => 2) (g := fun p => decide (p = 0)) hm hk h35 (fun _ _ => by omega) (fun p hp E => ?_) (fun p l hp hl E hE => ?_) (el1_ hk)
  · rw [e156_15, if_neg (by rw [nI_leI (by omega) (by omega)]; omega), if_neg (fun z => z rfl)]
    by_cases z : p = 0
    · rw [z, if_neg (fun q => q rfl)]
      rfl
    · rw [if_pos (by rw [ne_eq, nI_eq (by omega) (by omega)]; exact z), decide_eq_false z]
      rfl
  · rw [e156_62, hE, if_neg (by rw [nI_leI (by omega) (by omega)]; omega)]
    by_cases z : p = 0
    · rw [z, if_neg (fun q => q rfl), if_pos rfl, e156_115, pk_mul, nI_add]
    · rw [if_pos (by rw [ne_eq, nI_eq (by omega) (by omega)]; exact z), e156_115, pk_mul, nI_add]
theorem nI_n1 {c : Nat} (h : c < 2 ^ 31) : nI c ≠ -1 := fun z => (iz5_ h).mp z
/-- simple: a letter, any, nothing -/
theorem x156 {m c : Nat} (hm : m < 110) (hk : 1 ≤ k ∧ k ≤ 4) (hc : ipl_ k c = true) (h35 : D.1 351 35 = nI k) : ∃ D', k156_0 w (d + 4) (nI m) (nI c) D = some (none, D') ∧ gz_ m D D' ∧ D'.1 351 36 = D.1 351 36 ∧ rm_ D' m (lv_ k c) := by
  have hc' : c = 46 ∨ c = 48 ∨ (97 ≤ c ∧ c < 97 + k) := of_decide_eq_true hc
  by_cases z48 : c = 48
  · subst z48
    refine x156g (f := fun p _ => if p = 0 then 1 else 2) (g := fun _ => false) hm hk h35 (fun p _ => ?_) (fun p hp E => ?_) (fun p l hp hl E hE => ?_) ?_
    · show (if p = 0 then 1 else 2) < 3
      by_cases z : p = 0
      · rw [if_pos z]
        omega
      · rw [if_neg z]
        omega
    · rw [e156_15, if_neg (by rw [nI_leI (by omega) (by omega)]; omega), if_pos (by decide)]
      by_cases z : p = 1
      · rw [z, if_neg (fun q => q rfl), if_pos rfl, e156_57]
        rfl
      · rw [if_pos (by rw [ne_eq, nI_eq (by omega) (by omega)]; exact z), e156_57]
        rfl
    · rw [e156_62, hE, if_neg (by rw [nI_leI (by omega) (by omega)]; omega)]
      by_cases z : p = 0
      · rw [z, if_neg (fun q => q rfl), if_neg (by decide), if_neg (by decide), if_pos rfl, e156_111, pk_mul, nI_add]
        rfl
      · rw [if_pos (by rw [ne_eq, nI_eq (by omega) (by omega)]; exact z), e156_115, pk_mul, nI_add, if_neg z]
    · unfold lv_
      rw [if_pos rfl]
      exact zl2_ hk
  · refine x156g (f := fun p l => if p = 0 ∧ (c = 46 ∨ c = 97 + l) then 1 else 2) (g := fun p => decide (p = 1)) hm hk h35 (fun p l => ?_) (fun p hp E => ?_) (fun p l hp hl E hE => ?_) ?_
    · show (if p = 0 ∧ (c = 46 ∨ c = 97 + l) then 1 else 2) < 3
      by_cases z : p = 0 ∧ (c = 46 ∨ c = 97 + l)
      · rw [if_pos z]
        omega
      · rw [if_neg z]
        omega
    · rw [e156_15, if_neg (by rw [nI_leI (by omega) (by omega)]; omega), if_pos (nI_n1 (by omega))]
      by_cases z : p = 1
      · rw [z, if_neg (fun q => q rfl), if_neg (by rw [nI_eq (by omega) (by omega)]; exact z48)]
        rfl
      · rw [if_pos (by rw [ne_eq, nI_eq (by omega) (by omega)]; exact z), e156_57, decide_eq_false z]
        rfl
    · rw [e156_62, hE, if_neg (by rw [nI_leI (by omega) (by omega)]; omega)]
      by_cases z : p = 0
      · rw [z, if_neg (fun q => q rfl), if_neg (nI_n1 (by omega))]
        by_cases y : c = 46
        · rw [y, if_pos rfl, e156_111, pk_mul, nI_add, if_pos ⟨rfl, Or.inl rfl⟩]
        · rw [if_neg (by rw [nI_eq (by omega) (by omega)]; exact y), if_neg (by rw [nI_eq (by omega) (by omega)]; exact z48), nI_add]
          by_cases x : c = 97 + l
          · rw [if_neg (fun q => q (by rw [x])), e156_111, pk_mul, nI_add, if_pos ⟨rfl, Or.inr x⟩]
          · rw [if_pos (by rw [ne_eq, nI_eq (by omega) (by omega)]; exact x), e156_115, pk_mul, nI_add, if_neg (by omega)]
      · rw [if_pos (by rw [ne_eq, nI_eq (by omega) (by omega)]; exact z), e156_115, pk_mul, nI_add, if_neg (by omega)]
    · unfold lv_
      rw [if_neg z48]
      exact em_r _
end
