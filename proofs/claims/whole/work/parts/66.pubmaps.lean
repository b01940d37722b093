/-! mappings and maps, the calls -/
/-- the mappings set anew -/
def ump_ (S : sp_) (c : Nat) (Q : ma_) (f : Nat → Nat → Nat) : sp_ := (S.1, S.2.1, (c, Q, f))
theorem ump_ok {S : sp_} {c : Nat} {Q : ma_} {f : Nat → Nat → Nat} (hS : ok_ S) (hc : c ≤ 400) (h : 0 < c → (wm_ Q ∧ Q.2.1 ≤ 60) ∧ ∀ i p, i < c → p < Q.2.1 → f i p < Q.2.1) : ok_ (ump_ S c Q f) := ⟨hS.1, hS.2.1, hc, h⟩
theorem rc_mp {D D' : dy_} {S : sp_} {B B' c : Nat} {Q : ma_} {f : Nat → Nat → Nat} (h : rc_ D S B) (hm : rmp_ D' (ump_ S c Q f)) (hk : ∀ b, ¬ ((24 ≤ b ∧ b ≤ 29) ∨ 36 ≤ b) → D'.1 b = D.1 b) (hs : rsp_ D' B') : rc_ D' (ump_ S c Q f) B' := by
  obtain ⟨h1, h2, h3, h4, h5⟩ := h
  refine ⟨fun j hj => cm_fr (h1 j hj) (hk _ (by omega)) (hk _ (by omega)) (hk _ (by omega)), ?_, hm, ⟨cm_fr h4.1 (hk _ (by omega)) (hk _ (by omega)) (hk _ (by omega)), cm_fr h4.2 (hk _ (by omega)) (hk _ (by omega)) (hk _ (by omega))⟩, hs⟩
  unfold rtp_ at *
  rw [hk 21 (by omega), hk 22 (by omega)]
  exact h2
theorem mr_mp {D D' : dy_} {S : sp_} {c : Nat} {Q : ma_} {f : Nat → Nat → Nat} (h : mr_ D S) (hm : ym_ D' (ump_ S c Q f)) (hk : ∀ b, 351 < b ∧ b < 358 → D'.1 b = D.1 b) (h7 : D'.1 351 7 = D.1 351 7) : mr_ D' (ump_ S c Q f) := by
  obtain ⟨h1, h2, h3⟩ := h
  refine ⟨fun i hi => rm_fr (h1 i hi) fun c hc => hk c (by omega), ?_, hm⟩
  unfold yt_ at *
  rw [hk 357 (by omega), h7]
  exact h2
/-- what the reference changes for the mappings -/
def mA_ (b : Nat) : Prop := b = 384 ∨ b = 385
def mF_ (j : Nat) : Prop := j = 47 ∨ j = 48 ∨ j = 49
def ms5_ (Q : ma_) (D : dy_) (c : Nat) (E : dy_) : Prop := E.1 351 47 = nI c ∧ (E.1 351 48 = nI (Q.2.1) ∧ E.1 351 49 = nI (Q.1) ∧ E.1 351 9 = nI (Q.2.1)) ∧ (∀ j, j < c → ∀ p, p < Q.2.1 → E.1 384 (60 * j + p) = nI (ro_ (mpf_ Q j) p)) ∧ (∀ l p, l < Q.1 → p < Q.2.1 → E.1 385 (60 * l + p) = nI (Q.2.2.2.1 p l)) ∧ fx_ mA_ mF_ D E
section PMAPS
variable {w : (Nat → Int32) × Nat} {d : Nat} {D : dy_} {Q : ma_} {S : sp_} {B0 : Nat}
/-- isSame -/
theorem x176 {i j : Nat} {r r' : List Nat} (hn : Q.2.1 ≤ 60) (h48 : D.1 351 48 = nI (Q.2.1)) (hi : i ≤ 400) (hj : j ≤ 400) (hr : dmp_ Q r) (hr' : dmp_ Q r') (h1 : ∀ p, p < Q.2.1 → D.1 384 (60 * i + p) = nI (ro_ r p)) (h2 : ∀ p, p < Q.2.1 → D.1 384 (60 * j + p) = nI (ro_ r' p)) : k176_0 w (d + 1) (nI i) (nI j) D = some (some (.int (b2_ (decide (r = r')))), D) := by
  have key : ∀ u p (x : Bool), p + u = Q.2.1 → (x = true ↔ ∀ y, y < p → ro_ r y = ro_ r' y) → k176_5 w (d + 1) (nI i) (nI j) (b2_ x) (nI p) D = some (some (.int (b2_ (decide (r = r')))), D) := by
    intro u
    induction u with
    | zero =>
      intro p x hp hx
      obtain rfl : p = Q.2.1 := by omega
      have hxe : x = decide (r = r') := by
        cases x with
        | true => rw [decide_eq_true (ro_ext hr.1 hr'.1 (hx.mp rfl))]
        | false =>
          rw [decide_eq_false]
          intro e
          have := hx.mpr (fun y _ => by rw [e])
          cases this
      rw [e176_5, ← hxe]
      simp (disch := omega) only [nI_add, pk_mul, nI_clamp, nI_leI, nI_ltI, nI_eq, inb_, iz1_, iz2_, iz3_, iz4_, iz5_, reduceIte, if_pos, if_neg, op_os, op_vIs, op_vLs, op_vRs, op_vNs, dI_at, dL_at, dI_2, dL_1, Nat.reduceEqDiff, Nat.reduceAdd, Nat.reduceMul, false_and, and_false, true_and, and_true, ne_eq, not_true_eq_false, not_false_eq_true, b2_z, b2_o, b2_n, b2_01, nar_b, nar_0, nar_1, Bool.false_eq_true, Bool.true_eq_false, h48, Nat.le_refl]
    | succ u ih =>
      intro p x hp hx
      have b1 := hr.2 p (by omega)
      have b2 := hr'.2 p (by omega)
      rw [e176_5]
      cases x with
      | false =>
        simp (disch := omega) only [nI_add, pk_mul, nI_clamp, nI_leI, nI_ltI, nI_eq, inb_, iz1_, iz2_, iz3_, iz4_, iz5_, reduceIte, if_pos, if_neg, op_os, op_vIs, op_vLs, op_vRs, op_vNs, dI_at, dL_at, dI_2, dL_1, Nat.reduceEqDiff, Nat.reduceAdd, Nat.reduceMul, false_and, and_false, true_and, and_true, ne_eq, not_true_eq_false, not_false_eq_true, b2_z, b2_o, b2_n, b2_01, nar_b, nar_0, nar_1, Bool.false_eq_true, Bool.true_eq_false, h48, e176_49, e176_50]
        refine ih (p + 1) false (by omega) ⟨fun z => (by cases z), fun z => ?_⟩
        exact hx.mpr fun y hy => z y (by omega)
      | true =>
        by_cases z : ro_ r p = ro_ r' p
        · simp (disch := omega) only [nI_add, pk_mul, nI_clamp, nI_leI, nI_ltI, nI_eq, inb_, iz1_, iz2_, iz3_, iz4_, iz5_, reduceIte, if_pos, if_neg, op_os, op_vIs, op_vLs, op_vRs, op_vNs, dI_at, dL_at, dI_2, dL_1, Nat.reduceEqDiff, Nat.reduceAdd, Nat.reduceMul, false_and, and_false, true_and, and_true, ne_eq, not_true_eq_false, not_false_eq_true, b2_z, b2_o, b2_n, b2_01, nar_b, nar_0, nar_1, Bool.false_eq_true, Bool.true_eq_false, h48, h1 p (show p < Q.2.1 by omega), h2 p (show p < Q.2.1 by omega), z, e176_50]
          refine ih (p + 1) true (by omega) ⟨fun _ y hy => ?_, fun _ => rfl⟩
          by_cases v : y = p
          · rw [v]; exact z
          · exact hx.mp rfl y (by omega)
        · simp (disch := omega) only [nI_add, pk_mul, nI_clamp, nI_leI, nI_ltI, nI_eq, inb_, iz1_, iz2_, iz3_, iz4_, iz5_, reduceIte, if_pos, if_neg, op_os, op_vIs, op_vLs, op_vRs, op_vNs, dI_at, dL_at, dI_2, dL_1, Nat.reduceEqDiff, Nat.reduceAdd, Nat.reduceMul, false_and, and_false, true_and, and_true, ne_eq, not_true_eq_false, not_false_eq_true, b2_z, b2_o, b2_n, b2_01, nar_b, nar_0, nar_1, Bool.false_eq_true, Bool.true_eq_false, h48, h1 p (show p < Q.2.1 by omega), h2 p (show p < Q.2.1 by omega), e176_49, e176_50]
          exact ih (p + 1) false (by omega) ⟨fun v => (by cases v), fun v => absurd (v p (by omega)) z⟩
  rw [e176_0]
  exact key (Q.2.1) 0 true (by omega) ⟨fun _ y hy => absurd hy (by omega), fun _ => rfl⟩
/-- whether a row is new -/
theorem x177s {i l c : Nat} {r : List Nat} (hn : Q.2.1 ≤ 60) (hc : c ≤ 400) (h47 : D.1 351 47 = nI c) (h48 : D.1 351 48 = nI (Q.2.1)) (hr : dmp_ Q r) (hf : ∀ j, j < c → dmp_ Q (mpf_ Q j)) (h1 : ∀ j, j < c → ∀ p, p < Q.2.1 → D.1 384 (60 * j + p) = nI (ro_ (mpf_ Q j) p)) (h2 : ∀ p, p < Q.2.1 → D.1 384 (60 * c + p) = nI (ro_ r p)) : (∀ j, j < c → mpf_ Q j = r → k177_202 w (d + 2) (nI i) (nI l) (nI 1) (nI 0) D = k177_242 w (d + 2) (nI i) (nI l) (nI 0) D) ∧ ((∀ j, j < c → mpf_ Q j ≠ r) → k177_202 w (d + 2) (nI i) (nI l) (nI 1) (nI 0) D = k177_242 w (d + 2) (nI i) (nI l) (nI 1) D) := by
  have key : ∀ u j, j + u = c → (∀ x, x < j → mpf_ Q x ≠ r) → (∀ x, x < c → mpf_ Q x = r → k177_202 w (d + 2) (nI i) (nI l) (nI 1) (nI j) D = k177_242 w (d + 2) (nI i) (nI l) (nI 0) D) ∧ ((∀ x, x < c → mpf_ Q x ≠ r) → k177_202 w (d + 2) (nI i) (nI l) (nI 1) (nI j) D = k177_242 w (d + 2) (nI i) (nI l) (nI 1) D) := by
    intro u
    induction u with
    | zero =>
      intro j hj hx
      obtain rfl : j = c := by omega
      refine ⟨fun x h1 h2 => absurd h2 (hx x h1), fun _ => ?_⟩
      rw [e177_202]
      simp (disch := omega) only [nI_add, pk_mul, nI_clamp, nI_leI, nI_ltI, nI_eq, inb_, iz1_, iz2_, iz3_, iz4_, iz5_, reduceIte, if_pos, if_neg, op_os, op_vIs, op_vLs, op_vRs, op_vNs, dI_at, dL_at, dI_2, dL_1, Nat.reduceEqDiff, Nat.reduceAdd, Nat.reduceMul, false_and, and_false, true_and, and_true, ne_eq, not_true_eq_false, not_false_eq_true, b2_z, b2_o, b2_n, b2_01, nar_b, nar_0, nar_1, Bool.false_eq_true, Bool.true_eq_false, h47, Nat.le_refl]
    | succ u ih =>
      intro j hj hx
      have hs := x176 (w := w) (d := d) hn h48 (show j ≤ 400 by omega) hc (hf j (by omega)) hr (h1 j (by omega)) h2
      by_cases z : mpf_ Q j = r
      · rw [decide_eq_true z] at hs
        have st : k177_202 w (d + 2) (nI i) (nI l) (nI 1) (nI j) D = k177_242 w (d + 2) (nI i) (nI l) (nI 0) D := by
          rw [e177_202]
          simp (disch := omega) only [nI_add, pk_mul, nI_clamp, nI_leI, nI_ltI, nI_eq, inb_, iz1_, iz2_, iz3_, iz4_, iz5_, reduceIte, if_pos, if_neg, op_os, op_vIs, op_vLs, op_vRs, op_vNs, dI_at, dL_at, dI_2, dL_1, Nat.reduceEqDiff, Nat.reduceAdd, Nat.reduceMul, false_and, and_false, true_and, and_true, ne_eq, not_true_eq_false, not_false_eq_true, b2_z, b2_o, b2_n, b2_01, nar_b, nar_0, nar_1, Bool.false_eq_true, Bool.true_eq_false, h47, hs, e177_234]
          rw [e177_202]
          simp (disch := omega) only [nI_add, pk_mul, nI_clamp, nI_leI, nI_ltI, nI_eq, inb_, iz1_, iz2_, iz3_, iz4_, iz5_, reduceIte, op_os, op_vIs, op_vLs, op_vRs, op_vNs, dI_at, dL_at, dI_2, dL_1, Nat.reduceEqDiff, Nat.reduceAdd, Nat.reduceMul, false_and, and_false, true_and, and_true, ne_eq, not_true_eq_false, not_false_eq_true, b2_z, b2_o, b2_n, b2_01, nar_b, nar_0, nar_1, Bool.false_eq_true, Bool.true_eq_false, h47]
          by_cases y : c ≤ j + 1
          · rw [if_pos y]
          · rw [if_neg y]
        exact ⟨fun _ _ _ => st, fun y => absurd z (y j (by omega))⟩
      · rw [decide_eq_false z] at hs
        have st : k177_202 w (d + 2) (nI i) (nI l) (nI 1) (nI j) D = k177_202 w (d + 2) (nI i) (nI l) (nI 1) (nI (j + 1)) D := by
          rw [e177_202]
          simp (disch := omega) only [nI_add, pk_mul, nI_clamp, nI_leI, nI_ltI, nI_eq, inb_, iz1_, iz2_, iz3_, iz4_, iz5_, reduceIte, if_pos, if_neg, op_os, op_vIs, op_vLs, op_vRs, op_vNs, dI_at, dL_at, dI_2, dL_1, Nat.reduceEqDiff, Nat.reduceAdd, Nat.reduceMul, false_and, and_false, true_and, and_true, ne_eq, not_true_eq_false, not_false_eq_true, b2_z, b2_o, b2_n, b2_01, nar_b, nar_0, nar_1, Bool.false_eq_true, Bool.true_eq_false, h47, hs, e177_234]
        rw [st]
        exact ih (j + 1) (by omega) (fun x hx' => by
          by_cases y : x = j
          · rw [y]; exact z
          · exact hx x (by omega))
  exact key c 0 (by omega) (fun x hx => absurd hx (by omega))
/-- the reference's search -/
theorem x177 (hQ : wm_ Q) (hb : bg_ D Q) (hn : Q.2.1 ≤ 60) : (mpn_ Q ≤ 400 → ∃ D', k177_42 w (d + 3) (nI 0) (dI_ (dI_ D 351 48 (nI (Q.2.1))) 351 49 (nI (Q.1))) = some (some (.int (nI (mpn_ Q))), D') ∧ ms5_ Q D (mpn_ Q) D') ∧ (400 < mpn_ Q → ∃ D', k177_42 w (d + 3) (nI 0) (dI_ (dI_ D 351 48 (nI (Q.2.1))) 351 49 (nI (Q.1))) = some (some (.int (-104)), D') ∧ D'.1 351 47 = nI 0 ∧ fx_ mA_ mF_ D D') := by
  have hk := hQ.1
  generalize hE0 : dI_ (dI_ D 351 48 (nI (Q.2.1))) 351 49 (nI (Q.1)) = E0
  have f0 : fx_ mA_ mF_ D E0 := by
    rw [← hE0]
    refine fx_1 (fx_1 (fx_r _ _ D) ?_) ?_ <;> exact Or.inl ⟨rfl, by unfold mF_; omega⟩
  have g0 : E0.1 351 48 = nI (Q.2.1) ∧ E0.1 351 49 = nI (Q.1) ∧ E0.1 351 9 = nI (Q.2.1) := by
    rw [← hE0]
    exact ⟨by simp (disch := omega) only [nI_add, pk_mul, nI_clamp, nI_leI, nI_ltI, nI_eq, inb_, iz1_, iz2_, iz3_, iz4_, iz5_, reduceIte, if_pos, if_neg, op_os, op_vIs, op_vLs, op_vRs, op_vNs, dI_at, dL_at, dI_2, dL_1, Nat.reduceEqDiff, Nat.reduceAdd, Nat.reduceMul, false_and, and_false, true_and, and_true, ne_eq, not_true_eq_false, not_false_eq_true, b2_z, b2_o, b2_n, b2_01, nar_b, nar_0, nar_1, Bool.false_eq_true, Bool.true_eq_false], by simp (disch := omega) only [nI_add, pk_mul, nI_clamp, nI_leI, nI_ltI, nI_eq, inb_, iz1_, iz2_, iz3_, iz4_, iz5_, reduceIte, if_pos, if_neg, op_os, op_vIs, op_vLs, op_vRs, op_vNs, dI_at, dL_at, dI_2, dL_1, Nat.reduceEqDiff, Nat.reduceAdd, Nat.reduceMul, false_and, and_false, true_and, and_true, ne_eq, not_true_eq_false, not_false_eq_true, b2_z, b2_o, b2_n, b2_01, nar_b, nar_0, nar_1, Bool.false_eq_true, Bool.true_eq_false], by simp (disch := omega) only [nI_add, pk_mul, nI_clamp, nI_leI, nI_ltI, nI_eq, inb_, iz1_, iz2_, iz3_, iz4_, iz5_, reduceIte, if_pos, if_neg, op_os, op_vIs, op_vLs, op_vRs, op_vNs, dI_at, dL_at, dI_2, dL_1, Nat.reduceEqDiff, Nat.reduceAdd, Nat.reduceMul, false_and, and_false, true_and, and_true, ne_eq, not_true_eq_false, not_false_eq_true, b2_z, b2_o, b2_n, b2_01, nar_b, nar_0, nar_1, Bool.false_eq_true, Bool.true_eq_false]; exact hb.2.1⟩
  obtain ⟨E1, a1, a2, a3⟩ := lp_ (fun l (E : dy_) => k177_42 w (d + 3) (nI l) E) (fun l E => (∀ l' p, l' < l → p < Q.2.1 → E.1 385 (60 * l' + p) = nI (Q.2.2.2.1 p l')) ∧ fx_ (fun b => b = 385) (fun _ => False) E0 E) (Q.1) (s := E0) (by
    rintro l E hl ⟨t1, t2⟩
    obtain ⟨E', c1, c2, c3⟩ := lp_ (fun p (F : dy_) => k177_52 w (d + 3) (nI l) (nI p) F) (fun p F => (∀ l' p', (l' < l ∨ l' = l ∧ p' < p) → p' < Q.2.1 → F.1 385 (60 * l' + p') = nI (Q.2.2.2.1 p' l')) ∧ fx_ (fun b => b = 385) (fun _ => False) E0 F) (Q.2.1) (s := E) (by
      rintro p F hp ⟨u1, u2⟩
      have hF : F.1 358 (4 * p + l) = nI (Q.2.2.2.1 p l) := by
        rw [u2.1 358 (by omega) (by omega), f0.1 358 (by omega) (by unfold mA_; omega)]
        exact hb.2.2.1 p l hp hl
      refine ⟨dI_ F 385 (60 * l + p) (nI (Q.2.2.2.1 p l)), ?_, fun l' p' hl' hp' => ?_, fx_1 u2 (by omega)⟩
      · show k177_52 w (d + 3) (nI l) (nI p) F = _
        rw [e177_52]
        simp (disch := omega) only [nI_add, pk_mul, nI_clamp, nI_leI, nI_ltI, nI_eq, inb_, iz1_, iz2_, iz3_, iz4_, iz5_, reduceIte, if_pos, if_neg, op_os, op_vIs, op_vLs, op_vRs, op_vNs, dI_at, dL_at, dI_2, dL_1, Nat.reduceEqDiff, Nat.reduceAdd, Nat.reduceMul, false_and, and_false, true_and, and_true, ne_eq, not_true_eq_false, not_false_eq_true, b2_z, b2_o, b2_n, b2_01, nar_b, nar_0, nar_1, Bool.false_eq_true, Bool.true_eq_false, u2.2.1 9 id, g0.2.2, hF]
      · simp (disch := omega) only [nI_add, pk_mul, nI_clamp, nI_leI, nI_ltI, nI_eq, inb_, iz1_, iz2_, iz3_, iz4_, iz5_, reduceIte, op_os, op_vIs, op_vLs, op_vRs, op_vNs, dI_at, dL_at, dI_2, dL_1, Nat.reduceEqDiff, Nat.reduceAdd, Nat.reduceMul, false_and, and_false, true_and, and_true, ne_eq, not_true_eq_false, not_false_eq_true, b2_z, b2_o, b2_n, b2_01, nar_b, nar_0, nar_1, Bool.false_eq_true, Bool.true_eq_false]
        by_cases y : 60 * l' + p' = 60 * l + p
        · rw [if_pos y, show l' = l by omega, show p' = p by omega]
        · rw [if_neg y]
          exact u1 l' p' (by omega) hp') ⟨fun l' p' hl' hp' => t1 l' p' (by omega) hp', t2⟩
    refine ⟨E', ?_, fun l' p hl' hp => c2 l' p (by omega) hp, c3⟩
    show k177_42 w (d + 3) (nI l) E = _
    rw [e177_42]
    simp (disch := omega) only [nI_add, pk_mul, nI_clamp, nI_leI, nI_ltI, nI_eq, inb_, iz1_, iz2_, iz3_, iz4_, iz5_, reduceIte, if_pos, if_neg, op_os, op_vIs, op_vLs, op_vRs, op_vNs, dI_at, dL_at, dI_2, dL_1, Nat.reduceEqDiff, Nat.reduceAdd, Nat.reduceMul, false_and, and_false, true_and, and_true, ne_eq, not_true_eq_false, not_false_eq_true, b2_z, b2_o, b2_n, b2_01, nar_b, nar_0, nar_1, Bool.false_eq_true, Bool.true_eq_false, t2.2.1 49 id, g0.2.1]
    refine Eq.trans (show _ = k177_52 w (d + 3) (nI l) (nI (Q.2.1)) E' from c1) ?_
    rw [e177_52]
    simp (disch := omega) only [nI_add, pk_mul, nI_clamp, nI_leI, nI_ltI, nI_eq, inb_, iz1_, iz2_, iz3_, iz4_, iz5_, reduceIte, if_pos, if_neg, op_os, op_vIs, op_vLs, op_vRs, op_vNs, dI_at, dL_at, dI_2, dL_1, Nat.reduceEqDiff, Nat.reduceAdd, Nat.reduceMul, false_and, and_false, true_and, and_true, ne_eq, not_true_eq_false, not_false_eq_true, b2_z, b2_o, b2_n, b2_01, nar_b, nar_0, nar_1, Bool.false_eq_true, Bool.true_eq_false, c3.2.1 9 id, g0.2.2, Nat.le_refl]) ⟨fun l' p hl' => absurd hl' (by omega), fx_r _ _ E0⟩
  generalize hE2 : dI_ E1 351 47 (nI 1) = E2
  have f2 : fx_ mA_ mF_ D E2 := by
    rw [← hE2]
    exact fx_1 (fx_t f0 (fx_w a3 (fun b hb => by unfold mA_; omega) (fun j hj => hj.elim))) (Or.inl ⟨rfl, by unfold mF_; omega⟩)
  have g2 : E2.1 351 48 = nI (Q.2.1) ∧ E2.1 351 49 = nI (Q.1) ∧ E2.1 351 9 = nI (Q.2.1) := by
    rw [← hE2]
    exact ⟨by simp (disch := omega) only [nI_add, pk_mul, nI_clamp, nI_leI, nI_ltI, nI_eq, inb_, iz1_, iz2_, iz3_, iz4_, iz5_, reduceIte, if_pos, if_neg, op_os, op_vIs, op_vLs, op_vRs, op_vNs, dI_at, dL_at, dI_2, dL_1, Nat.reduceEqDiff, Nat.reduceAdd, Nat.reduceMul, false_and, and_false, true_and, and_true, ne_eq, not_true_eq_false, not_false_eq_true, b2_z, b2_o, b2_n, b2_01, nar_b, nar_0, nar_1, Bool.false_eq_true, Bool.true_eq_false]; rw [a3.2.1 48 id]; exact g0.1, by simp (disch := omega) only [nI_add, pk_mul, nI_clamp, nI_leI, nI_ltI, nI_eq, inb_, iz1_, iz2_, iz3_, iz4_, iz5_, reduceIte, if_pos, if_neg, op_os, op_vIs, op_vLs, op_vRs, op_vNs, dI_at, dL_at, dI_2, dL_1, Nat.reduceEqDiff, Nat.reduceAdd, Nat.reduceMul, false_and, and_false, true_and, and_true, ne_eq, not_true_eq_false, not_false_eq_true, b2_z, b2_o, b2_n, b2_01, nar_b, nar_0, nar_1, Bool.false_eq_true, Bool.true_eq_false]; rw [a3.2.1 49 id]; exact g0.2.1, by simp (disch := omega) only [nI_add, pk_mul, nI_clamp, nI_leI, nI_ltI, nI_eq, inb_, iz1_, iz2_, iz3_, iz4_, iz5_, reduceIte, if_pos, if_neg, op_os, op_vIs, op_vLs, op_vRs, op_vNs, dI_at, dL_at, dI_2, dL_1, Nat.reduceEqDiff, Nat.reduceAdd, Nat.reduceMul, false_and, and_false, true_and, and_true, ne_eq, not_true_eq_false, not_false_eq_true, b2_z, b2_o, b2_n, b2_01, nar_b, nar_0, nar_1, Bool.false_eq_true, Bool.true_eq_false]; rw [a3.2.1 9 id]; exact g0.2.2⟩
  obtain ⟨E3, b1, b2, b3⟩ := lp_ (fun p (E : dy_) => k177_100 w (d + 3) (nI p) E) (fun p E => (∀ q, q < p → E.1 384 q = nI q) ∧ fx_ (fun b => b = 384) (fun _ => False) E2 E) (Q.2.1) (s := E2) (by
    rintro p E hp ⟨t1, t2⟩
    refine ⟨dI_ E 384 p (nI p), ?_, fun q hq => ?_, fx_1 t2 (by omega)⟩
    · show k177_100 w (d + 3) (nI p) E = _
      rw [e177_100]
      simp (disch := omega) only [nI_add, pk_mul, nI_clamp, nI_leI, nI_ltI, nI_eq, inb_, iz1_, iz2_, iz3_, iz4_, iz5_, reduceIte, if_pos, if_neg, op_os, op_vIs, op_vLs, op_vRs, op_vNs, dI_at, dL_at, dI_2, dL_1, Nat.reduceEqDiff, Nat.reduceAdd, Nat.reduceMul, false_and, and_false, true_and, and_true, ne_eq, not_true_eq_false, not_false_eq_true, b2_z, b2_o, b2_n, b2_01, nar_b, nar_0, nar_1, Bool.false_eq_true, Bool.true_eq_false, t2.2.1 9 id, g2.2.2]
    · simp (disch := omega) only [nI_add, pk_mul, nI_clamp, nI_leI, nI_ltI, nI_eq, inb_, iz1_, iz2_, iz3_, iz4_, iz5_, reduceIte, op_os, op_vIs, op_vLs, op_vRs, op_vNs, dI_at, dL_at, dI_2, dL_1, Nat.reduceEqDiff, Nat.reduceAdd, Nat.reduceMul, false_and, and_false, true_and, and_true, ne_eq, not_true_eq_false, not_false_eq_true, b2_z, b2_o, b2_n, b2_01, nar_b, nar_0, nar_1, Bool.false_eq_true, Bool.true_eq_false]
      by_cases y : q = p
      · rw [if_pos y, y]
      · rw [if_neg y]
        exact t1 q (by omega)) ⟨fun q hq => absurd hq (by omega), fx_r _ _ E2⟩
  have hx0 : mpf_ Q 0 = xmp_ Q := kf_0 (gmp_ Q) (Q.1) (xmp_ Q)
  have r1 : ms5_ Q D 1 E3 := by
    refine ⟨?_, ⟨by rw [b3.2.1 48 id]; exact g2.1, by rw [b3.2.1 49 id]; exact g2.2.1, by rw [b3.2.1 9 id]; exact g2.2.2⟩, fun j hj p hp => ?_, fun l p hl hp => ?_, fx_t f2 (fx_w b3 (fun b hb => by unfold mA_; omega) (fun j hj => hj.elim))⟩
    · rw [b3.2.1 47 id, ← hE2]
      simp (disch := omega) only [nI_add, pk_mul, nI_clamp, nI_leI, nI_ltI, nI_eq, inb_, iz1_, iz2_, iz3_, iz4_, iz5_, reduceIte, if_pos, if_neg, op_os, op_vIs, op_vLs, op_vRs, op_vNs, dI_at, dL_at, dI_2, dL_1, Nat.reduceEqDiff, Nat.reduceAdd, Nat.reduceMul, false_and, and_false, true_and, and_true, ne_eq, not_true_eq_false, not_false_eq_true, b2_z, b2_o, b2_n, b2_01, nar_b, nar_0, nar_1, Bool.false_eq_true, Bool.true_eq_false]
    · rw [show j = 0 by omega, hx0, ro_x hp, show 60 * 0 + p = p by omega]
      exact b2 p hp
    · rw [b3.1 385 (by omega) (by omega), ← hE2]
      simp (disch := omega) only [nI_add, pk_mul, nI_clamp, nI_leI, nI_ltI, nI_eq, inb_, iz1_, iz2_, iz3_, iz4_, iz5_, reduceIte, if_pos, if_neg, op_os, op_vIs, op_vLs, op_vRs, op_vNs, dI_at, dL_at, dI_2, dL_1, Nat.reduceEqDiff, Nat.reduceAdd, Nat.reduceMul, false_and, and_false, true_and, and_true, ne_eq, not_true_eq_false, not_false_eq_true, b2_z, b2_o, b2_n, b2_01, nar_b, nar_0, nar_1, Bool.false_eq_true, Bool.true_eq_false]
      exact a2 l p hl hp
  have z := z40 hQ (fun i E => k177_123 w (d + 3) (nI i) E) (fun i l E => k177_133 w (d + 3) (nI i) (nI l) E) (ms5_ Q D) (fun E => E.1 351 47 = nI 0 ∧ fx_ mA_ mF_ D E) (by
      rintro i l E c ⟨t1, t2, t3, t4, t5⟩ hi hc4 hl hf
      have hfi := hf i hi
      obtain ⟨E', c1, c2, c3, c4⟩ := lp_ (fun p (F : dy_) => k177_144 w (d + 3) (nI i) (nI l) (nI p) F) (fun p F => (∀ q, q < p → F.1 384 (60 * c + q) = nI (ro_ (gmp_ Q (mpf_ Q i) l) q)) ∧ (∀ j, j < c → ∀ q, q < Q.2.1 → F.1 384 (60 * j + q) = nI (ro_ (mpf_ Q j) q)) ∧ fx_ (fun b => b = 384) (fun _ => False) E F) (Q.2.1) (s := E) (by
        rintro p F hp ⟨u1, u2, u3⟩
        have hb1 := hfi.2 p hp
        have h385 : F.1 385 (60 * l + ro_ (mpf_ Q i) p) = nI (Q.2.2.2.1 (ro_ (mpf_ Q i) p) l) := by
          rw [u3.1 385 (by omega) (by omega)]
          exact t4 l _ hl hb1
        refine ⟨dI_ F 384 (60 * c + p) (nI (ro_ (gmp_ Q (mpf_ Q i) l) p)), ?_, fun q hq => ?_, fun j hj q hq => ?_, fx_1 u3 (by omega)⟩
        · show k177_144 w (d + 3) (nI i) (nI l) (nI p) F = _
          rw [e177_144, ro_g hfi.1 hp]
          simp (disch := omega) only [nI_add, pk_mul, nI_clamp, nI_leI, nI_ltI, nI_eq, inb_, iz1_, iz2_, iz3_, iz4_, iz5_, reduceIte, if_pos, if_neg, op_os, op_vIs, op_vLs, op_vRs, op_vNs, dI_at, dL_at, dI_2, dL_1, Nat.reduceEqDiff, Nat.reduceAdd, Nat.reduceMul, false_and, and_false, true_and, and_true, ne_eq, not_true_eq_false, not_false_eq_true, b2_z, b2_o, b2_n, b2_01, nar_b, nar_0, nar_1, Bool.false_eq_true, Bool.true_eq_false, u3.2.1 9 id, t2.2.2, u2 i hi p hp, h385, u3.2.1 47 id, t1]
        · simp (disch := omega) only [nI_add, pk_mul, nI_clamp, nI_leI, nI_ltI, nI_eq, inb_, iz1_, iz2_, iz3_, iz4_, iz5_, reduceIte, op_os, op_vIs, op_vLs, op_vRs, op_vNs, dI_at, dL_at, dI_2, dL_1, Nat.reduceEqDiff, Nat.reduceAdd, Nat.reduceMul, false_and, and_false, true_and, and_true, ne_eq, not_true_eq_false, not_false_eq_true, b2_z, b2_o, b2_n, b2_01, nar_b, nar_0, nar_1, Bool.false_eq_true, Bool.true_eq_false]
          by_cases y : q = p
          · rw [if_pos (by omega), y]
          · rw [if_neg (by omega)]
            exact u1 q (by omega)
        · simp (disch := omega) only [nI_add, pk_mul, nI_clamp, nI_leI, nI_ltI, nI_eq, inb_, iz1_, iz2_, iz3_, iz4_, iz5_, reduceIte, if_pos, if_neg, op_os, op_vIs, op_vLs, op_vRs, op_vNs, dI_at, dL_at, dI_2, dL_1, Nat.reduceEqDiff, Nat.reduceAdd, Nat.reduceMul, false_and, and_false, true_and, and_true, ne_eq, not_true_eq_false, not_false_eq_true, b2_z, b2_o, b2_n, b2_01, nar_b, nar_0, nar_1, Bool.false_eq_true, Bool.true_eq_false]
          exact u2 j hj q hq) ⟨fun q hq => absurd hq (by omega), t3, fx_r _ _ E⟩
      have h47 : E'.1 351 47 = nI c := by rw [c4.2.1 47 id]; exact t1
      have fE' : fx_ mA_ mF_ D E' := fx_t t5 (fx_w c4 (fun b hb => by unfold mA_; omega) (fun j hj => hj.elim))
      have st : k177_133 w (d + 3) (nI i) (nI l) E = k177_202 w (d + 3) (nI i) (nI l) (nI 1) (nI 0) E' := by
        rw [e177_133]
        simp (disch := omega) only [nI_add, pk_mul, nI_clamp, nI_leI, nI_ltI, nI_eq, inb_, iz1_, iz2_, iz3_, iz4_, iz5_, reduceIte, if_pos, if_neg, op_os, op_vIs, op_vLs, op_vRs, op_vNs, dI_at, dL_at, dI_2, dL_1, Nat.reduceEqDiff, Nat.reduceAdd, Nat.reduceMul, false_and, and_false, true_and, and_true, ne_eq, not_true_eq_false, not_false_eq_true, b2_z, b2_o, b2_n, b2_01, nar_b, nar_0, nar_1, Bool.false_eq_true, Bool.true_eq_false, t2.2.1]
        refine Eq.trans (show _ = k177_144 w (d + 3) (nI i) (nI l) (nI (Q.2.1)) E' from c1) ?_
        rw [e177_144]
        simp (disch := omega) only [nI_add, pk_mul, nI_clamp, nI_leI, nI_ltI, nI_eq, inb_, iz1_, iz2_, iz3_, iz4_, iz5_, reduceIte, if_pos, if_neg, op_os, op_vIs, op_vLs, op_vRs, op_vNs, dI_at, dL_at, dI_2, dL_1, Nat.reduceEqDiff, Nat.reduceAdd, Nat.reduceMul, false_and, and_false, true_and, and_true, ne_eq, not_true_eq_false, not_false_eq_true, b2_z, b2_o, b2_n, b2_01, nar_b, nar_0, nar_1, Bool.false_eq_true, Bool.true_eq_false, c4.2.1 9 id, t2.2.2, Nat.le_refl]
      obtain ⟨s1, s2⟩ := x177s (w := w) (d := d + 1) (i := i) (l := l) hn hc4 h47 (show E'.1 351 48 = nI (Q.2.1) by rw [c4.2.1 48 id]; exact t2.1) (dmp_g hQ _ l hfi hl) hf c3 c2
      have keep : ∀ c', (∀ j, j < c' → ∀ q, q < Q.2.1 → E'.1 384 (60 * j + q) = nI (ro_ (mpf_ Q j) q)) → ms5_ Q D c' (dI_ E' 351 47 (nI c')) := fun c' hh => by
        refine ⟨by simp (disch := omega) only [nI_add, pk_mul, nI_clamp, nI_leI, nI_ltI, nI_eq, inb_, iz1_, iz2_, iz3_, iz4_, iz5_, reduceIte, if_pos, if_neg, op_os, op_vIs, op_vLs, op_vRs, op_vNs, dI_at, dL_at, dI_2, dL_1, Nat.reduceEqDiff, Nat.reduceAdd, Nat.reduceMul, false_and, and_false, true_and, and_true, ne_eq, not_true_eq_false, not_false_eq_true, b2_z, b2_o, b2_n, b2_01, nar_b, nar_0, nar_1, Bool.false_eq_true, Bool.true_eq_false], ⟨by simp (disch := omega) only [nI_add, pk_mul, nI_clamp, nI_leI, nI_ltI, nI_eq, inb_, iz1_, iz2_, iz3_, iz4_, iz5_, reduceIte, if_pos, if_neg, op_os, op_vIs, op_vLs, op_vRs, op_vNs, dI_at, dL_at, dI_2, dL_1, Nat.reduceEqDiff, Nat.reduceAdd, Nat.reduceMul, false_and, and_false, true_and, and_true, ne_eq, not_true_eq_false, not_false_eq_true, b2_z, b2_o, b2_n, b2_01, nar_b, nar_0, nar_1, Bool.false_eq_true, Bool.true_eq_false]; rw [c4.2.1 48 id]; exact t2.1, by simp (disch := omega) only [nI_add, pk_mul, nI_clamp, nI_leI, nI_ltI, nI_eq, inb_, iz1_, iz2_, iz3_, iz4_, iz5_, reduceIte, if_pos, if_neg, op_os, op_vIs, op_vLs, op_vRs, op_vNs, dI_at, dL_at, dI_2, dL_1, Nat.reduceEqDiff, Nat.reduceAdd, Nat.reduceMul, false_and, and_false, true_and, and_true, ne_eq, not_true_eq_false, not_false_eq_true, b2_z, b2_o, b2_n, b2_01, nar_b, nar_0, nar_1, Bool.false_eq_true, Bool.true_eq_false]; rw [c4.2.1 49 id]; exact t2.2.1, by simp (disch := omega) only [nI_add, pk_mul, nI_clamp, nI_leI, nI_ltI, nI_eq, inb_, iz1_, iz2_, iz3_, iz4_, iz5_, reduceIte, if_pos, if_neg, op_os, op_vIs, op_vLs, op_vRs, op_vNs, dI_at, dL_at, dI_2, dL_1, Nat.reduceEqDiff, Nat.reduceAdd, Nat.reduceMul, false_and, and_false, true_and, and_true, ne_eq, not_true_eq_false, not_false_eq_true, b2_z, b2_o, b2_n, b2_01, nar_b, nar_0, nar_1, Bool.false_eq_true, Bool.true_eq_false]; rw [c4.2.1 9 id]; exact t2.2.2⟩, fun j hj q hq => by simp (disch := omega) only [nI_add, pk_mul, nI_clamp, nI_leI, nI_ltI, nI_eq, inb_, iz1_, iz2_, iz3_, iz4_, iz5_, reduceIte, if_pos, if_neg, op_os, op_vIs, op_vLs, op_vRs, op_vNs, dI_at, dL_at, dI_2, dL_1, Nat.reduceEqDiff, Nat.reduceAdd, Nat.reduceMul, false_and, and_false, true_and, and_true, ne_eq, not_true_eq_false, not_false_eq_true, b2_z, b2_o, b2_n, b2_01, nar_b, nar_0, nar_1, Bool.false_eq_true, Bool.true_eq_false]; exact hh j hj q hq, fun l p hl hp => by simp (disch := omega) only [nI_add, pk_mul, nI_clamp, nI_leI, nI_ltI, nI_eq, inb_, iz1_, iz2_, iz3_, iz4_, iz5_, reduceIte, if_pos, if_neg, op_os, op_vIs, op_vLs, op_vRs, op_vNs, dI_at, dL_at, dI_2, dL_1, Nat.reduceEqDiff, Nat.reduceAdd, Nat.reduceMul, false_and, and_false, true_and, and_true, ne_eq, not_true_eq_false, not_false_eq_true, b2_z, b2_o, b2_n, b2_01, nar_b, nar_0, nar_1, Bool.false_eq_true, Bool.true_eq_false]; rw [c4.1 385 (by omega) (by omega)]; exact t4 l p hl hp, fx_1 fE' (Or.inl ⟨rfl, by unfold mF_; omega⟩)⟩
      refine ⟨fun j hj e => ⟨dI_ E' 351 47 (nI c), ?_, keep c c3⟩, fun hne => ⟨fun hlt e => ⟨dI_ E' 351 47 (nI (c + 1)), ?_, keep (c + 1) fun j hj q hq => ?_⟩, fun e => ⟨dI_ E' 351 47 (nI 0), ?_, by simp (disch := omega) only [nI_add, pk_mul, nI_clamp, nI_leI, nI_ltI, nI_eq, inb_, iz1_, iz2_, iz3_, iz4_, iz5_, reduceIte, if_pos, if_neg, op_os, op_vIs, op_vLs, op_vRs, op_vNs, dI_at, dL_at, dI_2, dL_1, Nat.reduceEqDiff, Nat.reduceAdd, Nat.reduceMul, false_and, and_false, true_and, and_true, ne_eq, not_true_eq_false, not_false_eq_true, b2_z, b2_o, b2_n, b2_01, nar_b, nar_0, nar_1, Bool.false_eq_true, Bool.true_eq_false], fx_1 fE' (Or.inl ⟨rfl, by unfold mF_; omega⟩)⟩⟩⟩
      · show k177_133 w (d + 3) (nI i) (nI l) E = _
        rw [st, s1 j hj e, e177_242]
        simp (disch := omega) only [nI_add, pk_mul, nI_clamp, nI_leI, nI_ltI, nI_eq, inb_, iz1_, iz2_, iz3_, iz4_, iz5_, reduceIte, if_pos, if_neg, op_os, op_vIs, op_vLs, op_vRs, op_vNs, dI_at, dL_at, dI_2, dL_1, Nat.reduceEqDiff, Nat.reduceAdd, Nat.reduceMul, false_and, and_false, true_and, and_true, ne_eq, not_true_eq_false, not_false_eq_true, b2_z, b2_o, b2_n, b2_01, nar_b, nar_0, nar_1, Bool.false_eq_true, Bool.true_eq_false, e177_265, h47, e177_284]
      · show k177_133 w (d + 3) (nI i) (nI l) E = _
        rw [st, s2 hne, e177_242]
        simp (disch := omega) only [nI_add, pk_mul, nI_clamp, nI_leI, nI_ltI, nI_eq, inb_, iz1_, iz2_, iz3_, iz4_, iz5_, reduceIte, if_pos, if_neg, op_os, op_vIs, op_vLs, op_vRs, op_vNs, dI_at, dL_at, dI_2, dL_1, Nat.reduceEqDiff, Nat.reduceAdd, Nat.reduceMul, false_and, and_false, true_and, and_true, ne_eq, not_true_eq_false, not_false_eq_true, b2_z, b2_o, b2_n, b2_01, nar_b, nar_0, nar_1, Bool.false_eq_true, Bool.true_eq_false, e177_265, h47, e177_284]
      · by_cases y : j = c
        · rw [y, e]; exact c2 q hq
        · exact c3 j (by omega) q hq
      · show k177_133 w (d + 3) (nI i) (nI l) E = _
        rw [st, s2 hne, e177_242]
        simp (disch := omega) only [nI_add, pk_mul, nI_clamp, nI_leI, nI_ltI, nI_eq, inb_, iz1_, iz2_, iz3_, iz4_, iz5_, reduceIte, if_pos, if_neg, op_os, op_vIs, op_vLs, op_vRs, op_vNs, dI_at, dL_at, dI_2, dL_1, Nat.reduceEqDiff, Nat.reduceAdd, Nat.reduceMul, false_and, and_false, true_and, and_true, ne_eq, not_true_eq_false, not_false_eq_true, b2_z, b2_o, b2_n, b2_01, nar_b, nar_0, nar_1, Bool.false_eq_true, Bool.true_eq_false, h47, e]) (by
      rintro i E c ⟨t1, t2, t3, t4, t5⟩ hi
      show k177_133 w (d + 3) (nI i) (nI (Q.1)) E = k177_123 w (d + 3) (nI (i + 1)) E
      rw [e177_133]
      simp (disch := omega) only [nI_add, pk_mul, nI_clamp, nI_leI, nI_ltI, nI_eq, inb_, iz1_, iz2_, iz3_, iz4_, iz5_, reduceIte, if_pos, if_neg, op_os, op_vIs, op_vLs, op_vRs, op_vNs, dI_at, dL_at, dI_2, dL_1, Nat.reduceEqDiff, Nat.reduceAdd, Nat.reduceMul, false_and, and_false, true_and, and_true, ne_eq, not_true_eq_false, not_false_eq_true, b2_z, b2_o, b2_n, b2_01, nar_b, nar_0, nar_1, Bool.false_eq_true, Bool.true_eq_false, t2.2.1, Nat.le_refl]) (by
      rintro i E c ⟨t1, t2, t3, t4, t5⟩ hi hc4
      show k177_123 w (d + 3) (nI i) E = k177_133 w (d + 3) (nI i) (nI 0) E
      rw [e177_123]
      simp (disch := omega) only [nI_add, pk_mul, nI_clamp, nI_leI, nI_ltI, nI_eq, inb_, iz1_, iz2_, iz3_, iz4_, iz5_, reduceIte, if_pos, if_neg, op_os, op_vIs, op_vLs, op_vRs, op_vNs, dI_at, dL_at, dI_2, dL_1, Nat.reduceEqDiff, Nat.reduceAdd, Nat.reduceMul, false_and, and_false, true_and, and_true, ne_eq, not_true_eq_false, not_false_eq_true, b2_z, b2_o, b2_n, b2_01, nar_b, nar_0, nar_1, Bool.false_eq_true, Bool.true_eq_false, t1]) (by
      rintro i E c ⟨t1, t2, t3, t4, t5⟩ hi hi2 hc4
      show k177_123 w (d + 3) (nI i) E = _
      rw [e177_123]
      simp (disch := omega) only [nI_add, pk_mul, nI_clamp, nI_leI, nI_ltI, nI_eq, inb_, iz1_, iz2_, iz3_, iz4_, iz5_, reduceIte, if_pos, if_neg, op_os, op_vIs, op_vLs, op_vRs, op_vNs, dI_at, dL_at, dI_2, dL_1, Nat.reduceEqDiff, Nat.reduceAdd, Nat.reduceMul, false_and, and_false, true_and, and_true, ne_eq, not_true_eq_false, not_false_eq_true, b2_z, b2_o, b2_n, b2_01, nar_b, nar_0, nar_1, Bool.false_eq_true, Bool.true_eq_false, t1]) r1
  have st : k177_42 w (d + 3) (nI 0) E0 = k177_123 w (d + 3) (nI 0) E3 := by
    refine Eq.trans (show _ = k177_42 w (d + 3) (nI (Q.1)) E1 from a1) ?_
    rw [e177_42]
    simp (disch := omega) only [nI_add, pk_mul, nI_clamp, nI_leI, nI_ltI, nI_eq, inb_, iz1_, iz2_, iz3_, iz4_, iz5_, reduceIte, if_pos, if_neg, op_os, op_vIs, op_vLs, op_vRs, op_vNs, dI_at, dL_at, dI_2, dL_1, Nat.reduceEqDiff, Nat.reduceAdd, Nat.reduceMul, false_and, and_false, true_and, and_true, ne_eq, not_true_eq_false, not_false_eq_true, b2_z, b2_o, b2_n, b2_01, nar_b, nar_0, nar_1, Bool.false_eq_true, Bool.true_eq_false, a3.2.1 49 id, g0.2.1, Nat.le_refl]
    rw [hE2]
    refine Eq.trans (show _ = k177_100 w (d + 3) (nI (Q.2.1)) E3 from b1) ?_
    rw [e177_100]
    simp (disch := omega) only [nI_add, pk_mul, nI_clamp, nI_leI, nI_ltI, nI_eq, inb_, iz1_, iz2_, iz3_, iz4_, iz5_, reduceIte, if_pos, if_neg, op_os, op_vIs, op_vLs, op_vRs, op_vNs, dI_at, dL_at, dI_2, dL_1, Nat.reduceEqDiff, Nat.reduceAdd, Nat.reduceMul, false_and, and_false, true_and, and_true, ne_eq, not_true_eq_false, not_false_eq_true, b2_z, b2_o, b2_n, b2_01, nar_b, nar_0, nar_1, Bool.false_eq_true, Bool.true_eq_false, b3.2.1 9 id, g2.2.2, Nat.le_refl]
  rw [st]
  exact z
theorem bo_mappings (hS : ok_ S) (hB : B0 + 4000000 < 2 ^ 31) (s : Int32) : bo_ S B0 (fun D => k102_0 w (d + 200) s D) (fun D => k177_0 w (d + 200) s D) := by
  by_cases c1 : ls_ 6 s = true
  · obtain ⟨i, rfl, hi⟩ := ls_t (by omega) c1
    obtain ⟨hM, hn⟩ := hS.1 i hi
    have hl := lfm_wm hM hn
    have hio := lfm_io hM hn
    have hnn := lfm_nn hM hn
    have hQ := qm_wm hl.1
    have hk := hM.1
    generalize hQe : qm_ (lfm_ (S.1 i)) = Q at hQ
    have hnQ : Q.2.1 ≤ 60 := by rw [← hQe]; exact hnn
    have cls : ∀ D, rc_ D S B0 → ∃ D1, k65_0 w (d + 199) (3 + 3 * i) 343 D = some (none, D1) ∧ cm_ D1 343 Q ∧ rsp_ D1 (B0 + 1000) ∧ sx_ (jw_ 343) D D1 := fun D hD => by
      obtain ⟨D1, e1, e2, e3, e4, e5⟩ := x65 (w := w) (d := d + 194) (sl_ hi).2 (by omega) ml_343 (by decide) (by rw [cap_343]; omega) (hD.1 i hi) hM hn (by rw [sl4_ hi]; exact hn) hD.2.2.2.1.1 hD.2.2.2.2 (by omega)
      rw [hQe] at e2
      exact ⟨D1, e1, e2, e4, e5⟩
    have ref : ∀ D, mr_ D S → ∃ D1 D2, k122_0 w (d + 199) (nI i) (dI_ D 351 0 (nI 0)) = some (none, D1) ∧ k127_0 w (d + 199) D1 = some (none, D2) ∧ bg_ D2 Q ∧ rw_ (dI_ D 351 0 (nI 0)) D2 := fun D hD => by
      have h' := mr_0 (v := nI 0) hD
      obtain ⟨D1, e1, e2, e3⟩ := x122 (w := w) (d := d + 197) (show i < 110 by omega) (h'.1 i hi) hM hn
      obtain ⟨D2, f1, f2, f3⟩ := x127 (w := w) (d := d + 196) hl.1 e2 hio (by omega)
      rw [hQe] at f2
      exact ⟨D1, D2, e1, f1, f2, rw_t e3 f3⟩
    have cst : ∀ D D1 (hD : rc_ D S B0), k65_0 w (d + 199) (3 + 3 * i) 343 D = some (none, D1) → k102_0 w (d + 200) (nI i) D = op_o (k16_0 w (d + 199) D1) none (fun p3 => op_vI p3.1 none (fun n3 => some (some (.int n3), p3.2))) := fun D D1 hD e => by
      rw [e102_0, x106s, c1]
      simp (disch := omega) only [nI_add, pk_mul, nI_clamp, nI_leI, nI_ltI, nI_eq, inb_, iz1_, iz2_, iz3_, iz4_, iz5_, reduceIte, if_pos, if_neg, op_os, op_vIs, op_vLs, op_vRs, op_vNs, dI_at, dL_at, dI_2, dL_1, Nat.reduceEqDiff, Nat.reduceAdd, Nat.reduceMul, false_and, and_false, true_and, and_true, ne_eq, not_true_eq_false, not_false_eq_true, b2_z, b2_o, b2_n, b2_01, nar_b, nar_0, nar_1, Bool.false_eq_true, Bool.true_eq_false, sl1_, e]
    have rst : ∀ D D1 D2, k122_0 w (d + 199) (nI i) (dI_ D 351 0 (nI 0)) = some (none, D1) → k127_0 w (d + 199) D1 = some (none, D2) → bg_ D2 Q → k177_0 w (d + 200) (nI i) D = k177_42 w (d + 200) (nI 0) (dI_ (dI_ D2 351 48 (nI (Q.2.1))) 351 49 (nI (Q.1))) := fun D D1 D2 e f g => by
      rw [e177_0, x114s, c1]
      simp (disch := omega) only [nI_add, pk_mul, nI_clamp, nI_leI, nI_ltI, nI_eq, inb_, iz1_, iz2_, iz3_, iz4_, iz5_, reduceIte, if_pos, if_neg, op_os, op_vIs, op_vLs, op_vRs, op_vNs, dI_at, dL_at, dI_2, dL_1, Nat.reduceEqDiff, Nat.reduceAdd, Nat.reduceMul, false_and, and_false, true_and, and_true, ne_eq, not_true_eq_false, not_false_eq_true, b2_z, b2_o, b2_n, b2_01, nar_b, nar_0, nar_1, Bool.false_eq_true, Bool.true_eq_false, e, f, g.1, g.2.1]
    by_cases ok : mpn_ Q ≤ 400
    · have h40 := n40_e
      have hdom := kq_dom (gmp_ Q) (Q.1) (xmp_ Q) (dmp_0 Q) (dmp_g hQ) n40_
      have hmd : ∀ j, j < mpn_ Q → dmp_ Q (mpf_ Q j) := fun j hj => hdom _ (List.mem_of_getElem? (kf_get (gmp_ Q) (Q.1) (xmp_ Q) hj))
      refine bo_i (.int (nI (mpn_ Q))) (ump_ S (mpn_ Q) Q (fun i p => ro_ (mpf_ Q i) p)) (ump_ok hS ok (fun _ => ⟨⟨hQ, hnQ⟩, fun j p hj hp => (hmd j hj).2 p hp⟩)) (fun D hD => ?_) (fun D hD => ?_)
      · obtain ⟨D1, e1, e2, e3, e4⟩ := cls D hD
        obtain ⟨D2, f1, f2, f3⟩ := (x16 (w := w) (d := d + 194) hQ e2 hnQ).1 ok
        refine ⟨D2, ?_, rc_mp hD ⟨f2.1, fun _ => ⟨cm_sx e2 f3 (by omega) (by omega) (by omega), fun j p hj hp => (f2.2.1 j hj).1 p hp⟩⟩ (fun b hb => ?_) (rsp_m (rsp_fr e3 (f3 41 (by omega)).1 (f3 44 (by omega)).1 (f3 24 (by omega)).1) (by omega)), fun b hb => ?_⟩
        · rw [cst D D1 hD e1, f1]
          simp (disch := omega) only [nI_add, pk_mul, nI_clamp, nI_leI, nI_ltI, nI_eq, inb_, iz1_, iz2_, iz3_, iz4_, iz5_, reduceIte, if_pos, if_neg, op_os, op_vIs, op_vLs, op_vRs, op_vNs, dI_at, dL_at, dI_2, dL_1, Nat.reduceEqDiff, Nat.reduceAdd, Nat.reduceMul, false_and, and_false, true_and, and_true, ne_eq, not_true_eq_false, not_false_eq_true, b2_z, b2_o, b2_n, b2_01, nar_b, nar_0, nar_1, Bool.false_eq_true, Bool.true_eq_false]
        · rw [(f3 b (by omega)).1]
          exact (e4 b (by unfold jw_ jx_; omega)).1
        · rw [(f3 b (by omega)).1, (f3 b (by omega)).2]
          exact e4 b (by unfold jw_ jx_; omega)
      · obtain ⟨D1, D2, e1, e2, e3, e4⟩ := ref D hD
        obtain ⟨D3, f1, f2⟩ := (x177 (w := w) (d := d + 197) hQ e3 hnQ).1 ok
        have f5 := f2.2.2.2.2
        have m2 := mr_rw (mr_0 (v := nI 0) hD) e4
        refine ⟨D3, ?_, mr_mp m2 ⟨f2.1, fun _ => ⟨⟨f2.2.1.1, f2.2.1.2.1⟩, fun j p hj hp => f2.2.2.1 j hj p hp, fun l p hl hp => f2.2.2.2.1 l p hl hp⟩⟩ (fun b hb => f5.1 b (by omega) (by unfold mA_; omega)) (f5.2.1 7 (by unfold mF_; omega)), lw_t (lw_I (by omega)) (lw_t (lw_rw e4) (lw_fx f5 (fun b hb => by unfold mA_; omega)))⟩
        rw [rst D D1 D2 e1 e2 e3]
        exact f1
    · refine bo_i (.int (-104)) (ump_ S 0 Q (fun i p => ro_ (mpf_ Q i) p)) (ump_ok hS (by omega) (fun z => absurd z (by omega))) (fun D hD => ?_) (fun D hD => ?_)
      · obtain ⟨D1, e1, e2, e3, e4⟩ := cls D hD
        obtain ⟨D2, f1, f2, f3⟩ := (x16 (w := w) (d := d + 194) hQ e2 hnQ).2 (by omega)
        refine ⟨D2, ?_, rc_mp hD ⟨f2, fun z => absurd z (by show ¬ 0 < 0; omega)⟩ (fun b hb => ?_) (rsp_m (rsp_fr e3 (f3 41 (by omega)).1 (f3 44 (by omega)).1 (f3 24 (by omega)).1) (by omega)), fun b hb => ?_⟩
        · rw [cst D D1 hD e1, f1]
          simp (disch := omega) only [nI_add, pk_mul, nI_clamp, nI_leI, nI_ltI, nI_eq, inb_, iz1_, iz2_, iz3_, iz4_, iz5_, reduceIte, if_pos, if_neg, op_os, op_vIs, op_vLs, op_vRs, op_vNs, dI_at, dL_at, dI_2, dL_1, Nat.reduceEqDiff, Nat.reduceAdd, Nat.reduceMul, false_and, and_false, true_and, and_true, ne_eq, not_true_eq_false, not_false_eq_true, b2_z, b2_o, b2_n, b2_01, nar_b, nar_0, nar_1, Bool.false_eq_true, Bool.true_eq_false]
        · rw [(f3 b (by omega)).1]
          exact (e4 b (by unfold jw_ jx_; omega)).1
        · rw [(f3 b (by omega)).1, (f3 b (by omega)).2]
          exact e4 b (by unfold jw_ jx_; omega)
      · obtain ⟨D1, D2, e1, e2, e3, e4⟩ := ref D hD
        obtain ⟨D3, f1, f2, f5⟩ := (x177 (w := w) (d := d + 197) hQ e3 hnQ).2 (by omega)
        have m2 := mr_rw (mr_0 (v := nI 0) hD) e4
        refine ⟨D3, ?_, mr_mp m2 ⟨f2, fun z => absurd z (by show ¬ 0 < 0; omega)⟩ (fun b hb => f5.1 b (by omega) (by unfold mA_; omega)) (f5.2.1 7 (by unfold mF_; omega)), lw_t (lw_I (by omega)) (lw_t (lw_rw e4) (lw_fx f5 (fun b hb => by unfold mA_; omega)))⟩
        rw [rst D D1 D2 e1 e2 e3]
        exact f1
  · refine bo_o (.int (-102)) hS (fun D hD => ?_) (fun D hD => ?_)
    · rw [e102_0, x106s, bf_ c1]
      rfl
    · rw [e177_0, x114s, bf_ c1]
      rfl
theorem bo_maps (hS : ok_ S) (i p : Int32) : bo_ S B0 (fun D => k103_0 w (d + 200) i p D) (fun D => k178_0 w (d + 200) i p D) := by
  have hc := hS.2.2.1
  by_cases c1 : ls_ S.2.2.1 i = true
  · obtain ⟨j, rfl, hj⟩ := ls_t (by omega) c1
    obtain ⟨⟨hQ, hn⟩, hf⟩ := hS.2.2.2 (by omega)
    by_cases c2 : ls_ (S.2.2.2.1.2.1) p = true
    · obtain ⟨q, rfl, hq⟩ := ls_t (by omega) c2
      refine bo_o (.int (nI (S.2.2.2.2 j q))) hS (fun D hD => ?_) (fun D hD => ?_)
      · obtain ⟨m1, m2⟩ := hD.2.2.1.2 (by omega)
        rw [e103_0]
        simp (disch := omega) only [nI_add, pk_mul, nI_clamp, nI_leI, nI_ltI, nI_eq, inb_, iz1_, iz2_, iz3_, iz4_, iz5_, reduceIte, if_pos, if_neg, op_os, op_vIs, op_vLs, op_vRs, op_vNs, dI_at, dL_at, dI_2, dL_1, Nat.reduceEqDiff, Nat.reduceAdd, Nat.reduceMul, false_and, and_false, true_and, and_true, ne_eq, not_true_eq_false, not_false_eq_true, b2_z, b2_o, b2_n, b2_01, nar_b, nar_0, nar_1, Bool.false_eq_true, Bool.true_eq_false, hD.2.2.1.1, cx7 ml_343 m1 (show S.2.2.2.1.2.1 < 2 ^ 31 by omega), c2, e17_0, m2 j q hj hq]
      · obtain ⟨⟨m1, m2⟩, m3, m4⟩ := hD.2.2.2 (by omega)
        rw [e178_0]
        simp (disch := omega) only [nI_add, pk_mul, nI_clamp, nI_leI, nI_ltI, nI_eq, inb_, iz1_, iz2_, iz3_, iz4_, iz5_, reduceIte, if_pos, if_neg, op_os, op_vIs, op_vLs, op_vRs, op_vNs, dI_at, dL_at, dI_2, dL_1, Nat.reduceEqDiff, Nat.reduceAdd, Nat.reduceMul, false_and, and_false, true_and, and_true, ne_eq, not_true_eq_false, not_false_eq_true, b2_z, b2_o, b2_n, b2_01, nar_b, nar_0, nar_1, Bool.false_eq_true, Bool.true_eq_false, hD.2.2.1, x111a (show S.2.2.1 < 2 ^ 31 by omega), c1, m1, x111a (show S.2.2.2.1.2.1 < 2 ^ 31 by omega), c2, m3 j q hj hq]
    · refine bo_o (.int (-102)) hS (fun D hD => ?_) (fun D hD => ?_)
      · obtain ⟨m1, m2⟩ := hD.2.2.1.2 (by omega)
        rw [e103_0]
        simp (disch := omega) only [nI_add, pk_mul, nI_clamp, nI_leI, nI_ltI, nI_eq, inb_, iz1_, iz2_, iz3_, iz4_, iz5_, reduceIte, if_pos, if_neg, op_os, op_vIs, op_vLs, op_vRs, op_vNs, dI_at, dL_at, dI_2, dL_1, Nat.reduceEqDiff, Nat.reduceAdd, Nat.reduceMul, false_and, and_false, true_and, and_true, ne_eq, not_true_eq_false, not_false_eq_true, b2_z, b2_o, b2_n, b2_01, nar_b, nar_0, nar_1, Bool.false_eq_true, Bool.true_eq_false, hD.2.2.1.1, cx7 ml_343 m1 (show S.2.2.2.1.2.1 < 2 ^ 31 by omega), bf_ c2]
      · obtain ⟨⟨m1, m2⟩, m3, m4⟩ := hD.2.2.2 (by omega)
        rw [e178_0]
        simp (disch := omega) only [nI_add, pk_mul, nI_clamp, nI_leI, nI_ltI, nI_eq, inb_, iz1_, iz2_, iz3_, iz4_, iz5_, reduceIte, if_pos, if_neg, op_os, op_vIs, op_vLs, op_vRs, op_vNs, dI_at, dL_at, dI_2, dL_1, Nat.reduceEqDiff, Nat.reduceAdd, Nat.reduceMul, false_and, and_false, true_and, and_true, ne_eq, not_true_eq_false, not_false_eq_true, b2_z, b2_o, b2_n, b2_01, nar_b, nar_0, nar_1, Bool.false_eq_true, Bool.true_eq_false, hD.2.2.1, x111a (show S.2.2.1 < 2 ^ 31 by omega), c1, m1, x111a (show S.2.2.2.1.2.1 < 2 ^ 31 by omega), bf_ c2]
  · refine bo_o (.int (-102)) hS (fun D hD => ?_) (fun D hD => ?_)
    · rw [e103_0]
      rcases ic_ i with ⟨m, hm, rfl⟩ | hm
      · have : ¬ m < S.2.2.1 := fun q => c1 (ls_n q (by omega))
        simp (disch := omega) only [nI_add, pk_mul, nI_clamp, nI_leI, nI_ltI, nI_eq, inb_, iz1_, iz2_, iz3_, iz4_, iz5_, reduceIte, if_pos, if_neg, op_os, op_vIs, op_vLs, op_vRs, op_vNs, dI_at, dL_at, dI_2, dL_1, Nat.reduceEqDiff, Nat.reduceAdd, Nat.reduceMul, false_and, and_false, true_and, and_true, ne_eq, not_true_eq_false, not_false_eq_true, b2_z, b2_o, b2_n, b2_01, nar_b, nar_0, nar_1, Bool.false_eq_true, Bool.true_eq_false, hD.2.2.1.1]
      · rw [if_pos (show i < nI 0 from hm)]
    · rw [e178_0]
      simp (disch := omega) only [nI_add, pk_mul, nI_clamp, nI_leI, nI_ltI, nI_eq, inb_, iz1_, iz2_, iz3_, iz4_, iz5_, reduceIte, if_pos, if_neg, op_os, op_vIs, op_vLs, op_vRs, op_vNs, dI_at, dL_at, dI_2, dL_1, Nat.reduceEqDiff, Nat.reduceAdd, Nat.reduceMul, false_and, and_false, true_and, and_true, ne_eq, not_true_eq_false, not_false_eq_true, b2_z, b2_o, b2_n, b2_01, nar_b, nar_0, nar_1, Bool.false_eq_true, Bool.true_eq_false, hD.2.2.1, x111a (show S.2.2.1 < 2 ^ 31 by omega), bf_ c1]
end PMAPS
