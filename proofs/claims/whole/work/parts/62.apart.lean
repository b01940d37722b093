/-! tellApart -/
theorem frs_0 (P : Nat → Bool) (n : Nat) : frs_ P n ≤ n ∧ (frs_ P n < n → P (frs_ P n) = true) ∧ ∀ q, q < frs_ P n → P q = false := by
  induction n with
  | zero => exact ⟨Nat.le_refl _, fun h => absurd h (by simp [frs_]), fun q h => absurd h (by simp [frs_])⟩
  | succ n ih =>
    unfold frs_
    by_cases z : frs_ P n < n
    · rw [if_pos z]; exact ⟨by omega, fun _ => ih.2.1 z, ih.2.2⟩
    · rw [if_neg z]
      have e : frs_ P n = n := by have := ih.1; omega
      rw [e] at ih
      by_cases y : P n = true
      · rw [if_pos y]; exact ⟨by omega, fun _ => y, ih.2.2⟩
      · rw [if_neg y]
        refine ⟨Nat.le_refl _, fun h => absurd h (by omega), fun q hq => ?_⟩
        by_cases x : q = n
        · rw [x]; exact Bool.eq_false_iff.mpr y
        · exact ih.2.2 q (by omega)
/-- the word that leads to v -/
noncomputable def wyt_ (M : ma_) (v j : Nat) : Nat := 97 + (par_ M (pit_ M (dep_ M v - 1 - j) v)).2
theorem mr_fx {A F : Nat → Prop} {D D' : dy_} {S : sp_} (h : mr_ D S) (g : fx_ A F D D') (ha : ∀ b, (351 < b ∧ b < 358) ∨ b = 384 ∨ b = 385 → ¬ A b) (hf : ¬ F 7 ∧ ¬ F 47 ∧ ¬ F 48 ∧ ¬ F 49) : mr_ D' S := by
  unfold mr_ ys_ yt_ ym_ rm_ at *
  rw [g.1 352 (by omega) (ha _ (by omega)), g.1 353 (by omega) (ha _ (by omega)), g.1 354 (by omega) (ha _ (by omega)), g.1 355 (by omega) (ha _ (by omega)), g.1 356 (by omega) (ha _ (by omega)), g.1 357 (by omega) (ha _ (by omega)), g.1 384 (by omega) (ha _ (by omega)), g.1 385 (by omega) (ha _ (by omega)), g.2.1 7 hf.1, g.2.1 47 hf.2.1, g.2.1 48 hf.2.2.1, g.2.1 49 hf.2.2.2]
  exact h
theorem rm_fx {A F : Nat → Prop} {D D' : dy_} {m : Nat} {M : ma_} (h : rm_ D m M) (g : fx_ A F D D') (ha : ∀ b, 351 < b ∧ b < 357 → ¬ A b) : rm_ D' m M := rm_fr h fun c hc => g.1 c (by omega) (ha c (by omega))
theorem lw_fx {A F : Nat → Prop} {D D' : dy_} (g : fx_ A F D D') (ha : ∀ b, b < 351 → ¬ A b) : lw_ D D' := fun b hb => ⟨g.1 b (by omega) (ha b hb), by rw [g.2.2]⟩
def tA_ (b : Nat) : Prop := b = 360 ∨ b = 375 ∨ b = 381 ∨ b = 382
section APART
variable {w : (Nat → Int32) × Nat} {d : Nat} {D : dy_} {A B G : ma_} {S : sp_} {B0 : Nat}
/-- spellWayTo -/
theorem x71 {v : Nat} (hk : G.1 ≤ 4) (hn : G.2.1 ≤ 3600) (hio : io_ G) (hv : v < G.2.1) (hd : dep_ G v ≤ 120) (ho : ∀ u, u < G.2.1 → u ≠ 0 → D.1 48 u = nI ((par_ G u).1 * 4 + (par_ G u).2)) : ∃ D', k71_0 w (d + 2) (nI v) D = some (none, D') ∧ tp_ D' (dep_ G v) (wyt_ G v) ∧ sx_ (fun b => b = 21 ∨ b = 22) D D' ∧ D'.2 = D.2 := by
  have pj : ∀ j, j < dep_ G v → pit_ G j v < G.2.1 ∧ pit_ G j v ≠ 0 ∧ pit_ G (j + 1) v = (par_ G (pit_ G j v)).1 ∧ (par_ G (pit_ G j v)).1 < 3600 ∧ (par_ G (pit_ G j v)).2 < 4 := by
    intro j hj
    obtain ⟨a1, a2⟩ := pit_lt hio hv j (by omega)
    have hz : pit_ G j v ≠ 0 := fun z => by
      rw [z, dep_0] at a2
      omega
    obtain ⟨b1, b2, b3, b4⟩ := par_1 hio a1 hz
    exact ⟨a1, hz, by rw [pit_s, bfr_e hio a1 hz], by omega, by omega⟩
  have p0 : pit_ G (dep_ G v) v = 0 := by
    have := (pit_lt hio hv (dep_ G v) (Nat.le_refl _)).2
    rw [Nat.sub_self] at this
    exact dep_z.mp this
  have l1 : k71_5 w (d + 2) (nI v) (nI 0) (nI v) D = k71_5 w (d + 2) (nI v) (nI (dep_ G v)) (nI (pit_ G (dep_ G v) v)) D := lq_ (fun j (x : Nat) => k71_5 w (d + 2) (nI v) (nI j) (nI x) D) (fun j => pit_ G j v) (dep_ G v) (by
    intro j hj
    obtain ⟨a1, a2, a3, a4, a5⟩ := pj j hj
    show k71_5 w (d + 2) (nI v) (nI j) (nI (pit_ G j v)) D = k71_5 w (d + 2) (nI v) (nI (j + 1)) (nI (pit_ G (j + 1) v)) D
    rw [e71_5, a3]
    have hq : ((par_ G (pit_ G j v)).1 * 4 + (par_ G (pit_ G j v)).2) / 4 = (par_ G (pit_ G j v)).1 := by omega
    simp (disch := omega) only [nI_add, pk_mul, nI_clamp, nI_leI, nI_ltI, nI_eq, inb_, iz1_, iz2_, iz3_, iz4_, iz5_, reduceIte, if_pos, if_neg, op_os, op_vIs, op_vLs, op_vRs, op_vNs, dI_at, dL_at, dI_2, dL_1, Nat.reduceEqDiff, Nat.reduceAdd, Nat.reduceMul, false_and, and_false, true_and, and_true, ne_eq, not_true_eq_false, not_false_eq_true, b2_z, b2_o, b2_n, b2_01, nar_b, nar_0, nar_1, Bool.false_eq_true, Bool.true_eq_false, ho _ a1 a2, pk_div, hq])
  have l2 : k71_5 w (d + 2) (nI v) (nI (dep_ G v)) (nI (pit_ G (dep_ G v) v)) D = k71_47 w (d + 2) (nI v) (nI (dep_ G v) - nI 1) (dI_ D 21 1 (nI (dep_ G v))) := by
    rw [e71_5, p0]
    simp (disch := omega) only [nI_add, pk_mul, nI_clamp, nI_leI, nI_ltI, nI_eq, inb_, iz1_, iz2_, iz3_, iz4_, iz5_, reduceIte, if_pos, if_neg, op_os, op_vIs, op_vLs, op_vRs, op_vNs, dI_at, dL_at, dI_2, dL_1, Nat.reduceEqDiff, Nat.reduceAdd, Nat.reduceMul, false_and, and_false, true_and, and_true, ne_eq, not_true_eq_false, not_false_eq_true, b2_z, b2_o, b2_n, b2_01, nar_b, nar_0, nar_1, Bool.false_eq_true, Bool.true_eq_false, e71_34, Nat.le_refl]
  obtain ⟨D', e1, e2, e3, e4, e5⟩ := lp_ (fun j (E : dy_) => k71_47 w (d + 2) (nI (pit_ G j v)) (nI (dep_ G v - j) - nI 1) E) (fun j E => E.1 21 1 = nI (dep_ G v) ∧ (∀ i, dep_ G v - j ≤ i → i < dep_ G v → E.1 22 i = nI (wyt_ G v i)) ∧ sx_ (fun b => b = 21 ∨ b = 22) D E ∧ E.2 = D.2) (dep_ G v) (s := dI_ D 21 1 (nI (dep_ G v))) (by
    rintro j E hj ⟨t1, t2, t3, t4⟩
    obtain ⟨a1, a2, a3, a4, a5⟩ := pj j hj
    have hE : E.1 48 (pit_ G j v) = nI ((par_ G (pit_ G j v)).1 * 4 + (par_ G (pit_ G j v)).2) := by
      rw [(t3 48 (by omega)).1]
      exact ho _ a1 a2
    have hq : ((par_ G (pit_ G j v)).1 * 4 + (par_ G (pit_ G j v)).2) / 4 = (par_ G (pit_ G j v)).1 := by omega
    have hq2 : (par_ G (pit_ G j v)).1 * 4 + (par_ G (pit_ G j v)).2 - (par_ G (pit_ G j v)).1 * 4 = (par_ G (pit_ G j v)).2 := by omega
    refine ⟨dI_ E 22 (dep_ G v - j - 1) (nI (wyt_ G v (dep_ G v - j - 1))), ?_, by simp (disch := omega) only [nI_add, pk_mul, nI_clamp, nI_leI, nI_ltI, nI_eq, inb_, iz1_, iz2_, iz3_, iz4_, iz5_, reduceIte, if_pos, if_neg, op_os, op_vIs, op_vLs, op_vRs, op_vNs, dI_at, dL_at, dI_2, dL_1, Nat.reduceEqDiff, Nat.reduceAdd, Nat.reduceMul, false_and, and_false, true_and, and_true, ne_eq, not_true_eq_false, not_false_eq_true, b2_z, b2_o, b2_n, b2_01, nar_b, nar_0, nar_1, Bool.false_eq_true, Bool.true_eq_false]; exact t1, fun i h1 h2 => ?_, sx_1 t3 (Or.inr rfl), t4⟩
    · show k71_47 w (d + 2) (nI (pit_ G j v)) (nI (dep_ G v - j) - nI 1) E = k71_47 w (d + 2) (nI (pit_ G (j + 1) v)) (nI (dep_ G v - (j + 1)) - nI 1) _
      have hw : wyt_ G v (dep_ G v - j - 1) = 97 + (par_ G (pit_ G j v)).2 := by
        unfold wyt_
        rw [show dep_ G v - 1 - (dep_ G v - j - 1) = j by omega]
      rw [e71_47, pk_sub (by omega), a3, hw, ← dm1 (dep_ G v - (j + 1)), show dep_ G v - (j + 1) = dep_ G v - j - 1 by omega]
      simp (disch := omega) only [nI_add, pk_mul, nI_clamp, nI_leI, nI_ltI, nI_eq, inb_, iz1_, iz2_, iz3_, iz4_, iz5_, reduceIte, if_pos, if_neg, op_os, op_vIs, op_vLs, op_vRs, op_vNs, dI_at, dL_at, dI_2, dL_1, Nat.reduceEqDiff, Nat.reduceAdd, Nat.reduceMul, false_and, and_false, true_and, and_true, ne_eq, not_true_eq_false, not_false_eq_true, b2_z, b2_o, b2_n, b2_01, nar_b, nar_0, nar_1, Bool.false_eq_true, Bool.true_eq_false, hE, pk_div, hq, pk_sub, hq2, e51_0]
    · simp (disch := omega) only [nI_add, pk_mul, nI_clamp, nI_leI, nI_ltI, nI_eq, inb_, iz1_, iz2_, iz3_, iz4_, iz5_, reduceIte, op_os, op_vIs, op_vLs, op_vRs, op_vNs, dI_at, dL_at, dI_2, dL_1, Nat.reduceEqDiff, Nat.reduceAdd, Nat.reduceMul, false_and, and_false, true_and, and_true, ne_eq, not_true_eq_false, not_false_eq_true, b2_z, b2_o, b2_n, b2_01, nar_b, nar_0, nar_1, Bool.false_eq_true, Bool.true_eq_false]
      by_cases z : i = dep_ G v - j - 1
      · rw [if_pos z, z]
      · rw [if_neg z]
        exact t2 i (by omega) h2) ⟨by simp (disch := omega) only [nI_add, pk_mul, nI_clamp, nI_leI, nI_ltI, nI_eq, inb_, iz1_, iz2_, iz3_, iz4_, iz5_, reduceIte, if_pos, if_neg, op_os, op_vIs, op_vLs, op_vRs, op_vNs, dI_at, dL_at, dI_2, dL_1, Nat.reduceEqDiff, Nat.reduceAdd, Nat.reduceMul, false_and, and_false, true_and, and_true, ne_eq, not_true_eq_false, not_false_eq_true, b2_z, b2_o, b2_n, b2_01, nar_b, nar_0, nar_1, Bool.false_eq_true, Bool.true_eq_false], fun i h1 h2 => absurd h2 (by omega), sx_I (Or.inl rfl), rfl⟩
  refine ⟨D', ?_, ⟨e2, fun j hj => e3 j (by omega) hj⟩, e4, e5⟩
  rw [e71_0, l1, l2]
  refine Eq.trans (show _ = k71_47 w (d + 2) (nI (pit_ G (dep_ G v) v)) (nI (dep_ G v - dep_ G v) - nI 1) D' from e1) ?_
  rw [e71_47, Nat.sub_self, if_pos (by decide)]
/-- layWord -/
theorem x167 {v : Nat} (hk : G.1 ≤ 4) (hn : G.2.1 ≤ 3600) (hio : io_ G) (hv : v < G.2.1) (hd : dep_ G v ≤ 120) (h0 : D.1 381 0 = -1) (ho : ∀ u, u < G.2.1 → u ≤ v → u ≠ 0 → D.1 381 u = nI (par_ G u).1 ∧ D.1 382 u = nI (par_ G u).2) : ∃ D', k167_0 w (d + 1) (nI v) D = some (some (.int (nI (dep_ G v))), D') ∧ yp_ D' (dep_ G v) (wyt_ G v) ∧ fx_ (fun b => b = 357) (fun j => j = 7) D D' := by
  have pj : ∀ j, j < dep_ G v → pit_ G j v < G.2.1 ∧ pit_ G j v ≠ 0 ∧ pit_ G (j + 1) v = (par_ G (pit_ G j v)).1 ∧ (par_ G (pit_ G j v)).1 < 3600 ∧ (par_ G (pit_ G j v)).2 < 4 := by
    intro j hj
    obtain ⟨a1, a2⟩ := pit_lt hio hv j (by omega)
    have hz : pit_ G j v ≠ 0 := fun z => by
      rw [z, dep_0] at a2
      omega
    obtain ⟨b1, b2, b3, b4⟩ := par_1 hio a1 hz
    exact ⟨a1, hz, by rw [pit_s, bfr_e hio a1 hz], by omega, by omega⟩
  have ple : ∀ j, j ≤ dep_ G v → pit_ G j v ≤ v := by
    intro j
    induction j with
    | zero => exact fun _ => Nat.le_refl _
    | succ j ih =>
      intro hj
      obtain ⟨a1, a2, a3, a4, a5⟩ := pj j (by omega)
      have := (par_1 hio a1 a2).1
      have := ih (by omega)
      omega
  have p0 : pit_ G (dep_ G v) v = 0 := by
    have := (pit_lt hio hv (dep_ G v) (Nat.le_refl _)).2
    rw [Nat.sub_self] at this
    exact dep_z.mp this
  have l1 : k167_4 w (d + 1) (nI v) (nI 0) (nI v) D = k167_4 w (d + 1) (nI v) (nI (dep_ G v)) (nI (pit_ G (dep_ G v) v)) D := lq_ (fun j (x : Nat) => k167_4 w (d + 1) (nI v) (nI j) (nI x) D) (fun j => pit_ G j v) (dep_ G v) (by
    intro j hj
    obtain ⟨a1, a2, a3, a4, a5⟩ := pj j hj
    show k167_4 w (d + 1) (nI v) (nI j) (nI (pit_ G j v)) D = k167_4 w (d + 1) (nI v) (nI (j + 1)) (nI (pit_ G (j + 1) v)) D
    rw [e167_4, a3]
    simp (disch := omega) only [nI_add, pk_mul, nI_clamp, nI_leI, nI_ltI, nI_eq, inb_, iz1_, iz2_, iz3_, iz4_, iz5_, reduceIte, if_pos, if_neg, op_os, op_vIs, op_vLs, op_vRs, op_vNs, dI_at, dL_at, dI_2, dL_1, Nat.reduceEqDiff, Nat.reduceAdd, Nat.reduceMul, false_and, and_false, true_and, and_true, ne_eq, not_true_eq_false, not_false_eq_true, b2_z, b2_o, b2_n, b2_01, nar_b, nar_0, nar_1, Bool.false_eq_true, Bool.true_eq_false, (ho _ a1 (ple j (by omega)) a2).1])
  have l2 : k167_4 w (d + 1) (nI v) (nI (dep_ G v)) (nI (pit_ G (dep_ G v) v)) D = k167_39 w (d + 1) (nI (dep_ G v)) (nI (dep_ G v) - nI 1) (nI v) (dI_ D 351 7 (nI (dep_ G v))) := by
    rw [e167_4, p0]
    simp (disch := omega) only [nI_add, pk_mul, nI_clamp, nI_leI, nI_ltI, nI_eq, inb_, iz1_, iz2_, iz3_, iz4_, iz5_, reduceIte, if_pos, if_neg, op_os, op_vIs, op_vLs, op_vRs, op_vNs, dI_at, dL_at, dI_2, dL_1, Nat.reduceEqDiff, Nat.reduceAdd, Nat.reduceMul, false_and, and_false, true_and, and_true, ne_eq, not_true_eq_false, not_false_eq_true, b2_z, b2_o, b2_n, b2_01, nar_b, nar_0, nar_1, Bool.false_eq_true, Bool.true_eq_false, h0]
  obtain ⟨D', e1, e2, e3, e4⟩ := lp_ (fun j (E : dy_) => k167_39 w (d + 1) (nI (dep_ G v)) (nI (dep_ G v - j) - nI 1) (nI (pit_ G j v)) E) (fun j E => E.1 351 7 = nI (dep_ G v) ∧ (∀ i, dep_ G v - j ≤ i → i < dep_ G v → E.1 357 i &&& nI 255 = nI (wyt_ G v i)) ∧ fx_ (fun b => b = 357) (fun j => j = 7) D E) (dep_ G v) (s := dI_ D 351 7 (nI (dep_ G v))) (by
    rintro j E hj ⟨t1, t2, t3⟩
    obtain ⟨a1, a2, a3, a4, a5⟩ := pj j hj
    obtain ⟨g1, g2⟩ := ho _ a1 (ple j (by omega)) a2
    have g1' : E.1 381 (pit_ G j v) = nI (par_ G (pit_ G j v)).1 := by rw [t3.1 381 (by omega) (by omega)]; exact g1
    have g2' : E.1 382 (pit_ G j v) = nI (par_ G (pit_ G j v)).2 := by rw [t3.1 382 (by omega) (by omega)]; exact g2
    have hw : wyt_ G v (dep_ G v - j - 1) = 97 + (par_ G (pit_ G j v)).2 := by
      unfold wyt_
      rw [show dep_ G v - 1 - (dep_ G v - j - 1) = j by omega]
    refine ⟨dI_ E 357 (dep_ G v - j - 1) (vp_nar .byte ((nI (97 + (par_ G (pit_ G j v)).2)).toInt8.toInt32)), ?_, by simp (disch := omega) only [nI_add, pk_mul, nI_clamp, nI_leI, nI_ltI, nI_eq, inb_, iz1_, iz2_, iz3_, iz4_, iz5_, reduceIte, if_pos, if_neg, op_os, op_vIs, op_vLs, op_vRs, op_vNs, dI_at, dL_at, dI_2, dL_1, Nat.reduceEqDiff, Nat.reduceAdd, Nat.reduceMul, false_and, and_false, true_and, and_true, ne_eq, not_true_eq_false, not_false_eq_true, b2_z, b2_o, b2_n, b2_01, nar_b, nar_0, nar_1, Bool.false_eq_true, Bool.true_eq_false]; exact t1, fun i h1 h2 => ?_, fx_1 t3 (by omega)⟩
    · show k167_39 w (d + 1) (nI (dep_ G v)) (nI (dep_ G v - j) - nI 1) (nI (pit_ G j v)) E = k167_39 w (d + 1) (nI (dep_ G v)) (nI (dep_ G v - (j + 1)) - nI 1) (nI (pit_ G (j + 1) v)) _
      rw [e167_39, pk_sub (by omega), a3, ← dm1 (dep_ G v - (j + 1)), show dep_ G v - (j + 1) = dep_ G v - j - 1 by omega]
      simp (disch := omega) only [nI_add, pk_mul, nI_clamp, nI_leI, nI_ltI, nI_eq, inb_, iz1_, iz2_, iz3_, iz4_, iz5_, reduceIte, if_pos, if_neg, op_os, op_vIs, op_vLs, op_vRs, op_vNs, dI_at, dL_at, dI_2, dL_1, Nat.reduceEqDiff, Nat.reduceAdd, Nat.reduceMul, false_and, and_false, true_and, and_true, ne_eq, not_true_eq_false, not_false_eq_true, b2_z, b2_o, b2_n, b2_01, nar_b, nar_0, nar_1, Bool.false_eq_true, Bool.true_eq_false, g1', g2']
    · simp (disch := omega) only [nI_add, pk_mul, nI_clamp, nI_leI, nI_ltI, nI_eq, inb_, iz1_, iz2_, iz3_, iz4_, iz5_, reduceIte, op_os, op_vIs, op_vLs, op_vRs, op_vNs, dI_at, dL_at, dI_2, dL_1, Nat.reduceEqDiff, Nat.reduceAdd, Nat.reduceMul, false_and, and_false, true_and, and_true, ne_eq, not_true_eq_false, not_false_eq_true, b2_z, b2_o, b2_n, b2_01, nar_b, nar_0, nar_1, Bool.false_eq_true, Bool.true_eq_false]
      by_cases z : i = dep_ G v - j - 1
      · rw [if_pos z, z, hw]
        exact by4 a5
      · rw [if_neg z]
        exact t2 i (by omega) h2) ⟨by simp (disch := omega) only [nI_add, pk_mul, nI_clamp, nI_leI, nI_ltI, nI_eq, inb_, iz1_, iz2_, iz3_, iz4_, iz5_, reduceIte, if_pos, if_neg, op_os, op_vIs, op_vLs, op_vRs, op_vNs, dI_at, dL_at, dI_2, dL_1, Nat.reduceEqDiff, Nat.reduceAdd, Nat.reduceMul, false_and, and_false, true_and, and_true, ne_eq, not_true_eq_false, not_false_eq_true, b2_z, b2_o, b2_n, b2_01, nar_b, nar_0, nar_1, Bool.false_eq_true, Bool.true_eq_false], fun i h1 h2 => absurd h2 (by omega), fx_1 (fx_r _ _ D) (by omega)⟩
  refine ⟨D', ?_, ⟨e2, fun j hj => e3 j (by omega) hj⟩, e4⟩
  rw [e167_0, l1, l2]
  refine Eq.trans (show _ = k167_39 w (d + 1) (nI (dep_ G v)) (nI (dep_ G v - dep_ G v) - nI 1) (nI (pit_ G (dep_ G v) v)) D' from e1) ?_
  rw [e167_39, p0]
  simp (disch := omega) only [nI_add, pk_mul, nI_clamp, nI_leI, nI_ltI, nI_eq, inb_, iz1_, iz2_, iz3_, iz4_, iz5_, reduceIte, if_pos, if_neg, op_os, op_vIs, op_vLs, op_vRs, op_vNs, dI_at, dL_at, dI_2, dL_1, Nat.reduceEqDiff, Nat.reduceAdd, Nat.reduceMul, false_and, and_false, true_and, and_true, ne_eq, not_true_eq_false, not_false_eq_true, b2_z, b2_o, b2_n, b2_01, nar_b, nar_0, nar_1, Bool.false_eq_true, Bool.true_eq_false, e4.1 381 (by omega) (by omega), h0]
/-- tellApart, the class -/
theorem x70 {a b p q : Nat} (ha : a ∈ ml_) (hb : b ∈ ml_) (ha24 : a ≠ 24) (hb24 : b ≠ 24) (hA : cm_ D a A) (hB : cm_ D b B) (wA : wm_ A) (wB : wm_ B) (nA : A.2.1 ≤ 60) (nB : B.2.1 ≤ 60) (cA : A.2.1 ≤ cap_ a) (cB : B.2.1 ≤ cap_ b) (hpq : dp_ A B (p, q)) (hf : D.1 24 4 = nI 0) : ∃ D', D'.1 24 4 = nI 0 ∧ (frs_ ((bm_ A B 3 (p, q)).2.2.2.2) ((bm_ A B 3 (p, q)).2.1) = (bm_ A B 3 (p, q)).2.1 → k70_0 w (d + 4) a (nI p) b (nI q) D = some (some (.int (nI 0)), D') ∧ sx_ pw_ D D') ∧ (frs_ ((bm_ A B 3 (p, q)).2.2.2.2) ((bm_ A B 3 (p, q)).2.1) < (bm_ A B 3 (p, q)).2.1 → k70_0 w (d + 4) a (nI p) b (nI q) D = some (some (.int (nI 1)), D') ∧ sx_ (fun b => pw_ b ∨ b = 21 ∨ b = 22) D D' ∧ tp_ D' (dep_ (bm_ A B 3 (p, q)) (frs_ ((bm_ A B 3 (p, q)).2.2.2.2) ((bm_ A B 3 (p, q)).2.1))) (wyt_ (bm_ A B 3 (p, q)) (frs_ ((bm_ A B 3 (p, q)).2.2.2.2) ((bm_ A B 3 (p, q)).2.1)))) := by
  have hM := bm_wm wA wB nA nB 3 hpq
  have hio := bm_io wA wB nA nB 3 hpq
  have hlen := bm_len wA wB nA nB 3 hpq
  obtain ⟨D1, e1, e2, e3, e4⟩ := x72 (w := w) (d := d + 1) (h := 3) ha hb ha24 hb24 hA hB wA wB nA nB cA cB (by decide) hpq hf
  obtain ⟨f1, f2, f3⟩ := frs_0 ((bm_ A B 3 (p, q)).2.2.2.2) ((bm_ A B 3 (p, q)).2.1)
  have hdep := fun hlt => dep_le wA wB nA nB hpq hlt (f2 hlt) f3
  generalize hG : bm_ A B 3 (p, q) = G at *
  generalize hv : frs_ (G.2.2.2.2) (G.2.1) = v at *
  have l1 : k70_13 w (d + 4) (nI 0) D1 = k70_13 w (d + 4) (nI v) D1 := lq_ (fun i (_ : Unit) => k70_13 w (d + 4) (nI i) D1) (fun _ => ()) v (by
    intro i hi
    show k70_13 w (d + 4) (nI i) D1 = k70_13 w (d + 4) (nI (i + 1)) D1
    rw [e70_13]
    simp (disch := omega) only [nI_add, pk_mul, nI_clamp, nI_leI, nI_ltI, nI_eq, inb_, iz1_, iz2_, iz3_, iz4_, iz5_, reduceIte, if_pos, if_neg, op_os, op_vIs, op_vLs, op_vRs, op_vNs, dI_at, dL_at, dI_2, dL_1, Nat.reduceEqDiff, Nat.reduceAdd, Nat.reduceMul, false_and, and_false, true_and, and_true, ne_eq, not_true_eq_false, not_false_eq_true, b2_z, b2_o, b2_n, b2_01, nar_b, nar_0, nar_1, Bool.false_eq_true, Bool.true_eq_false, e2.2.1, e2.2.2.2.2 i (show i < G.2.1 by omega), f3 i hi])
  by_cases z : v < G.2.1
  · obtain ⟨D', g1, g2, g3, g4⟩ := x71 (w := w) (d := d + 1) (G := G) hM.1.2 hlen hio z (hdep z) (fun u hu hz => by
      obtain ⟨i, l, o1, o2⟩ := e3 u hu hz
      have o1' : fst1_ G u i l := by
        rw [← hG]
        exact o1
      rw [o2, par_e o1'])
    refine ⟨D', ?_, fun y => absurd y (by omega), fun _ => ⟨?_, sx_t (sx_w e4 (fun b hb => Or.inl hb)) (sx_w g3 (fun b hb => Or.inr hb)), g2⟩⟩
    · rw [(g3 24 (by omega)).1]
      exact e2.2.2.1.trans (by rw [← hG]; rfl)
    · rw [e70_0 ha hb]
      simp (disch := omega) only [nI_add, pk_mul, nI_clamp, nI_leI, nI_ltI, nI_eq, inb_, iz1_, iz2_, iz3_, iz4_, iz5_, reduceIte, if_pos, if_neg, op_os, op_vIs, op_vLs, op_vRs, op_vNs, dI_at, dL_at, dI_2, dL_1, Nat.reduceEqDiff, Nat.reduceAdd, Nat.reduceMul, false_and, and_false, true_and, and_true, ne_eq, not_true_eq_false, not_false_eq_true, b2_z, b2_o, b2_n, b2_01, nar_b, nar_0, nar_1, Bool.false_eq_true, Bool.true_eq_false, e1]
      rw [l1, e70_13]
      simp (disch := omega) only [nI_add, pk_mul, nI_clamp, nI_leI, nI_ltI, nI_eq, inb_, iz1_, iz2_, iz3_, iz4_, iz5_, reduceIte, if_pos, if_neg, op_os, op_vIs, op_vLs, op_vRs, op_vNs, dI_at, dL_at, dI_2, dL_1, Nat.reduceEqDiff, Nat.reduceAdd, Nat.reduceMul, false_and, and_false, true_and, and_true, ne_eq, not_true_eq_false, not_false_eq_true, b2_z, b2_o, b2_n, b2_01, nar_b, nar_0, nar_1, Bool.false_eq_true, Bool.true_eq_false, e2.2.1, e2.2.2.2.2 v z, f2 z, g1]
  · refine ⟨D1, e2.2.2.1.trans (by rw [← hG]; rfl), fun _ => ⟨?_, e4⟩, fun y => absurd y z⟩
    rw [e70_0 ha hb]
    simp (disch := omega) only [nI_add, pk_mul, nI_clamp, nI_leI, nI_ltI, nI_eq, inb_, iz1_, iz2_, iz3_, iz4_, iz5_, reduceIte, if_pos, if_neg, op_os, op_vIs, op_vLs, op_vRs, op_vNs, dI_at, dL_at, dI_2, dL_1, Nat.reduceEqDiff, Nat.reduceAdd, Nat.reduceMul, false_and, and_false, true_and, and_true, ne_eq, not_true_eq_false, not_false_eq_true, b2_z, b2_o, b2_n, b2_01, nar_b, nar_0, nar_1, Bool.false_eq_true, Bool.true_eq_false, e1]
    rw [l1, e70_13]
    simp (disch := omega) only [nI_add, pk_mul, nI_clamp, nI_leI, nI_ltI, nI_eq, inb_, iz1_, iz2_, iz3_, iz4_, iz5_, reduceIte, if_pos, if_neg, op_os, op_vIs, op_vLs, op_vRs, op_vNs, dI_at, dL_at, dI_2, dL_1, Nat.reduceEqDiff, Nat.reduceAdd, Nat.reduceMul, false_and, and_false, true_and, and_true, ne_eq, not_true_eq_false, not_false_eq_true, b2_z, b2_o, b2_n, b2_01, nar_b, nar_0, nar_1, Bool.false_eq_true, Bool.true_eq_false, e2.2.1]
end APART
