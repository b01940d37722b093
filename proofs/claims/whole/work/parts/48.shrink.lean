/-! shrink -/
section SHRINK
variable {w : (Nat → Int32) × Nat} {d : Nat} {D : dy_} {M : ma_}
/-- what the walk over the classes has met -/
def mwk_ (M : ma_) (many i l : Nat) : Prop := (∀ i' l', l' < M.1 → bef_ i' l' i l → (qm_ M).2.2.2.1 i' l' < many) ∧ many ≤ nn_ M ∧ 1 ≤ many
theorem mw_new (hM : wm_ M) (hio : io_ (qm_ M)) {many i l : Nat} (h : mwk_ M many i l) (hi : i < nn_ M) (hl : l < M.1) : (qm_ M).2.2.2.1 i l ≤ many := by
  rcases Nat.lt_or_ge many ((qm_ M).2.2.2.1 i l) with q | q
  · have hx := (qm_wm hM).2.2.2 i l hi hl
    have hx' : (qm_ M).2.2.2.1 i l < nn_ M := hx
    have h1 := h.2.2
    obtain ⟨i', l', a1, a2, a3, a4⟩ := hio many (show many < nn_ M by omega) (by omega)
    have a2' : l' < M.1 := a2
    rcases Nat.lt_trichotomy i i' with y | y | y
    · have := a4 i l hl (Or.inl y)
      omega
    · subst y
      rcases Nat.lt_trichotomy l l' with x | x | x
      · have := a4 i l hl (Or.inr ⟨rfl, x⟩)
        omega
      · subst x
        omega
      · have := h.1 i l' a2' (Or.inr ⟨rfl, x⟩)
        omega
    · have := h.1 i' l' a2' (Or.inl y)
      omega
  · exact q
theorem mw_all (hio : io_ (qm_ M)) {many i : Nat} (h : mwk_ M many i 0) (hi : many ≤ i) : many = nn_ M := by
  rcases Nat.lt_or_ge many (nn_ M) with q | q
  · have h1 := h.2.2
    obtain ⟨i', l', a1, a2, a3, a4⟩ := hio many q (by omega)
    have a2' : l' < M.1 := a2
    have := h.1 i' l' a2' (Or.inl (by omega))
    omega
  · have := h.2.1
    omega
/-- rows of the walk -/
def sw_ (M : ma_) (D : dy_) (many i l e : Nat) : Prop := (∀ v, v < M.2.1 → D.1 361 v = if v < many then nI v else -1) ∧ (∀ v, v < many → ∃ x, x < M.2.1 ∧ nfs_ M x = v ∧ D.1 366 v = nI x) ∧ (∀ i' l', l' < M.1 → bef_ i' l' i l → D.1 367 (4 * i' + l') = nI ((qm_ M).2.2.2.1 i' l')) ∧ ∀ i', i' < e → D.1 368 i' = b2_ ((qm_ M).2.2.2.2 i')
def fsh_ (b : Nat) : Prop := b = 361 ∨ b = 366 ∨ b = 367 ∨ b = 368
theorem x127 (hM : wm_ M) (hb : bg_ D M) (hio : io_ M) (hn : M.2.1 ≤ 3600) : ∃ D', k127_0 w (d + 3) D = some (none, D') ∧ bg_ D' (qm_ M) ∧ rw_ D D' := by
  have hk := hM.1
  have h1 := hM.2.1
  have hqio := qm_io hM hio
  have hnn := cn_m (nf_1 M)
  have hnn1 := nn_pos hM
  obtain ⟨D1, a1, a2, a3⟩ := x126 (w := w) (d := d) hM hb hn
  have hb1 := bg_fx hb a3 (by omega) (by omega) (by unfold ff_; omega) (by unfold ff_; omega)
  obtain ⟨D2, c1, c2, c3⟩ := lp_ (fun s (F : dy_) => k127_6 w (d + 3) (nI s) F) (fun s F => (∀ v, v < s → F.1 361 v = -1) ∧ fx_ (fun b => b = 361) (fun _ => False) D1 F) (M.2.1) (s := D1) (by
    rintro s F hs ⟨t1, t2⟩
    refine ⟨dI_ F 361 s (-1), ?_, fun p hp => ?_, fx_1 t2 (by omega)⟩
    · show k127_6 w (d + 3) (nI s) F = _
      rw [e127_6]
      simp (disch := omega) only [nI_add, pk_mul, nI_clamp, nI_leI, nI_ltI, nI_eq, inb_, iz1_, iz2_, iz3_, iz4_, iz5_, reduceIte, if_pos, if_neg, op_os, op_vIs, op_vLs, op_vRs, op_vNs, dI_at, dL_at, dI_2, dL_1, Nat.reduceEqDiff, Nat.reduceAdd, Nat.reduceMul, false_and, and_false, true_and, and_true, ne_eq, not_true_eq_false, not_false_eq_true, b2_z, b2_o, b2_n, b2_01, nar_b, nar_0, nar_1, Bool.false_eq_true, Bool.true_eq_false, t2.2.1 9 id, hb1.2.1]
    · simp (disch := omega) only [nI_add, pk_mul, nI_clamp, nI_leI, nI_ltI, nI_eq, inb_, iz1_, iz2_, iz3_, iz4_, iz5_, reduceIte, op_os, op_vIs, op_vLs, op_vRs, op_vNs, dI_at, dL_at, dI_2, dL_1, Nat.reduceEqDiff, Nat.reduceAdd, Nat.reduceMul, false_and, and_false, true_and, and_true, ne_eq, not_true_eq_false, not_false_eq_true, b2_z, b2_o, b2_n, b2_01, nar_b, nar_0, nar_1, Bool.false_eq_true, Bool.true_eq_false]
      by_cases y : p = s
      · rw [if_pos y]
      · rw [if_neg y]
        exact t1 p (by omega)) ⟨fun p hp => absurd hp (by omega), fx_r _ _ D1⟩
  generalize hD3 : dI_ (dI_ D2 366 0 (nI 0)) 361 0 (nI 0) = D3
  have fr3 : fx_ fsh_ (fun _ => False) D1 D3 := by
    rw [← hD3]
    exact fx_1 (fx_1 (fx_w c3 (fun b hb => by unfold fsh_; omega) (fun j hj => hj)) (Or.inr ⟨by omega, by unfold fsh_; omega⟩)) (Or.inr ⟨by omega, by unfold fsh_; omega⟩)
  have s3 : sw_ M D3 1 0 0 0 := by
    rw [← hD3]
    refine ⟨fun v hv => ?_, fun v hv => ⟨0, by omega, by rw [nf_0 hM]; omega, ?_⟩, fun i' l' _ h => absurd h (by unfold bef_; omega), fun i' h => absurd h (by omega)⟩
    · simp (disch := omega) only [nI_add, pk_mul, nI_clamp, nI_leI, nI_ltI, nI_eq, inb_, iz1_, iz2_, iz3_, iz4_, iz5_, reduceIte, op_os, op_vIs, op_vLs, op_vRs, op_vNs, dI_at, dL_at, dI_2, dL_1, Nat.reduceEqDiff, Nat.reduceAdd, Nat.reduceMul, false_and, and_false, true_and, and_true, ne_eq, not_true_eq_false, not_false_eq_true, b2_z, b2_o, b2_n, b2_01, nar_b, nar_0, nar_1, Bool.false_eq_true, Bool.true_eq_false]
      by_cases y : v = 0
      · rw [if_pos y, if_pos (by omega), y]
      · rw [if_neg y, if_neg (by omega)]
        exact c2 v hv
    · rw [show v = 0 by omega]
      simp (disch := omega) only [nI_add, pk_mul, nI_clamp, nI_leI, nI_ltI, nI_eq, inb_, iz1_, iz2_, iz3_, iz4_, iz5_, reduceIte, if_pos, if_neg, op_os, op_vIs, op_vLs, op_vRs, op_vNs, dI_at, dL_at, dI_2, dL_1, Nat.reduceEqDiff, Nat.reduceAdd, Nat.reduceMul, false_and, and_false, true_and, and_true, ne_eq, not_true_eq_false, not_false_eq_true, b2_z, b2_o, b2_n, b2_01, nar_b, nar_0, nar_1, Bool.false_eq_true, Bool.true_eq_false]
  have m3 : mwk_ M 1 0 0 := ⟨fun i' l' _ h => absurd h (by unfold bef_; omega), by omega, by omega⟩
  have hfix : ∀ F, fx_ fsh_ (fun _ => False) D1 F → bg_ F M ∧ nwr_ F 362 (M.2.1) (nfs_ M) := fun F hF => ⟨bg_fx hb1 hF id id (by unfold fsh_; omega) (by unfold fsh_; omega), fun p hp => by rw [hF.1 362 (by omega) (by unfold fsh_; omega)]; exact a2 p hp⟩
  obtain ⟨⟨many, D4⟩, e1, e2, e3, e4⟩ := lp_ (fun i (s : Nat × dy_) => k127_50 w (d + 3) (nI s.1) (nI i) s.2) (fun i s => sw_ M s.2 s.1 i 0 i ∧ mwk_ M s.1 i 0 ∧ fx_ fsh_ (fun _ => False) D1 s.2) (nn_ M) (s := (1, D3)) (by
    rintro i ⟨many, F⟩ hi ⟨t1, t2, t3⟩
    have him : i < many := by
      rcases Nat.lt_or_ge i many with q | q
      · exact q
      · have := mw_all hqio t2 q
        omega
    have hmn := t2.2.1
    obtain ⟨hbF, hwF⟩ := hfix F t3
    obtain ⟨x, x1, x2, x3⟩ := t1.2.1 i him
    have x3' : F.1 366 i = nI x := x3
    have hac : M.2.2.2.2 x = (qm_ M).2.2.2.2 i := by
      rw [← qm_ac x1, x2]
      rfl
    obtain ⟨⟨many', F'⟩, f1, f2, f3, f4⟩ := lp_ (fun l (s : Nat × dy_) => k127_74 w (d + 3) (nI s.1) (nI i) (nI l) s.2) (fun l s => sw_ M s.2 s.1 i l (i + 1) ∧ mwk_ M s.1 i l ∧ fx_ fsh_ (fun _ => False) D1 s.2 ∧ i < s.1 ∧ s.2.1 366 i = nI x) (M.1) (s := (many, dI_ F 368 i (b2_ ((qm_ M).2.2.2.2 i)))) (by
      rintro l ⟨mn, G⟩ hl ⟨u1, u2, u3, u4, u5⟩
      have u4' : i < mn := u4
      have hmn' := u2.2.1
      have hmn2 : mn ≤ nn_ M := hmn'
      obtain ⟨hbG, hwG⟩ := hfix G u3
      have hq := hM.2.2.2 x l x1 hl
      have hcq : nfs_ M (M.2.2.2.1 x l) = (qm_ M).2.2.2.1 i l := by
        rw [← qm_nx hM x1 hl, x2]
        rfl
      have hle := mw_new hM hqio u2 hi hl
      have hle' : (qm_ M).2.2.2.1 i l ≤ mn := hle
      have hcn : (qm_ M).2.2.2.1 i l < nn_ M := (qm_wm hM).2.2.2 i l hi hl
      have hu5 : G.1 366 i = nI x := u5
      have hw1 : G.1 362 (M.2.2.2.1 x l) = nI ((qm_ M).2.2.2.1 i l) := by rw [hwG _ hq, hcq]
      have hw2 : G.1 358 (4 * x + l) = nI (M.2.2.2.1 x l) := hbG.2.2.1 x l x1 hl
      have hm := u1.1 ((qm_ M).2.2.2.1 i l) (by omega)
      have hm' : G.1 361 ((qm_ M).2.2.2.1 i l) = if (qm_ M).2.2.2.1 i l < mn then nI ((qm_ M).2.2.2.1 i l) else -1 := hm
      by_cases z : (qm_ M).2.2.2.1 i l < mn
      · rw [if_pos z] at hm'
        refine ⟨(mn, dI_ G 367 (4 * i + l) (nI ((qm_ M).2.2.2.1 i l))), ?_, ⟨fun v hv => ?_, fun v hv => ?_, fun i' l' hl' hb' => ?_, fun i' hi' => ?_⟩, ⟨fun i' l' hl' hb' => ?_, hmn', u2.2.2⟩, fx_1 u3 (Or.inr ⟨by omega, by unfold fsh_; omega⟩), u4, ?_⟩
        · show k127_74 w (d + 3) (nI mn) (nI i) (nI l) G = _
          rw [e127_74]
          simp (disch := omega) only [nI_add, pk_mul, nI_clamp, nI_leI, nI_ltI, nI_eq, inb_, iz1_, iz2_, iz3_, iz4_, iz5_, reduceIte, if_pos, if_neg, op_os, op_vIs, op_vLs, op_vRs, op_vNs, dI_at, dL_at, dI_2, dL_1, Nat.reduceEqDiff, Nat.reduceAdd, Nat.reduceMul, false_and, and_false, true_and, and_true, ne_eq, not_true_eq_false, not_false_eq_true, b2_z, b2_o, b2_n, b2_01, nar_b, nar_0, nar_1, Bool.false_eq_true, Bool.true_eq_false, hbG.1, hu5, hw2, hw1, hm', e127_139]
        · simp (disch := omega) only [nI_add, pk_mul, nI_clamp, nI_leI, nI_ltI, nI_eq, inb_, iz1_, iz2_, iz3_, iz4_, iz5_, reduceIte, if_pos, if_neg, op_os, op_vIs, op_vLs, op_vRs, op_vNs, dI_at, dL_at, dI_2, dL_1, Nat.reduceEqDiff, Nat.reduceAdd, Nat.reduceMul, false_and, and_false, true_and, and_true, ne_eq, not_true_eq_false, not_false_eq_true, b2_z, b2_o, b2_n, b2_01, nar_b, nar_0, nar_1, Bool.false_eq_true, Bool.true_eq_false]; exact u1.1 v hv
        · obtain ⟨y, y1, y2, y3⟩ := u1.2.1 v hv
          exact ⟨y, y1, y2, by simp (disch := omega) only [nI_add, pk_mul, nI_clamp, nI_leI, nI_ltI, nI_eq, inb_, iz1_, iz2_, iz3_, iz4_, iz5_, reduceIte, if_pos, if_neg, op_os, op_vIs, op_vLs, op_vRs, op_vNs, dI_at, dL_at, dI_2, dL_1, Nat.reduceEqDiff, Nat.reduceAdd, Nat.reduceMul, false_and, and_false, true_and, and_true, ne_eq, not_true_eq_false, not_false_eq_true, b2_z, b2_o, b2_n, b2_01, nar_b, nar_0, nar_1, Bool.false_eq_true, Bool.true_eq_false]; exact y3⟩
        · simp (disch := omega) only [nI_add, pk_mul, nI_clamp, nI_leI, nI_ltI, nI_eq, inb_, iz1_, iz2_, iz3_, iz4_, iz5_, reduceIte, op_os, op_vIs, op_vLs, op_vRs, op_vNs, dI_at, dL_at, dI_2, dL_1, Nat.reduceEqDiff, Nat.reduceAdd, Nat.reduceMul, false_and, and_false, true_and, and_true, ne_eq, not_true_eq_false, not_false_eq_true, b2_z, b2_o, b2_n, b2_01, nar_b, nar_0, nar_1, Bool.false_eq_true, Bool.true_eq_false]
          by_cases y : 4 * i' + l' = 4 * i + l
          · rw [if_pos y, show i' = i by omega, show l' = l by omega]
          · rw [if_neg y]
            exact u1.2.2.1 i' l' hl' (by unfold bef_ at *; omega)
        · simp (disch := omega) only [nI_add, pk_mul, nI_clamp, nI_leI, nI_ltI, nI_eq, inb_, iz1_, iz2_, iz3_, iz4_, iz5_, reduceIte, if_pos, if_neg, op_os, op_vIs, op_vLs, op_vRs, op_vNs, dI_at, dL_at, dI_2, dL_1, Nat.reduceEqDiff, Nat.reduceAdd, Nat.reduceMul, false_and, and_false, true_and, and_true, ne_eq, not_true_eq_false, not_false_eq_true, b2_z, b2_o, b2_n, b2_01, nar_b, nar_0, nar_1, Bool.false_eq_true, Bool.true_eq_false]; exact u1.2.2.2 i' hi'
        · by_cases y : i' = i ∧ l' = l
          · rw [y.1, y.2]; exact z
          · exact u2.1 i' l' hl' (by unfold bef_ at *; omega)
        · simp (disch := omega) only [nI_add, pk_mul, nI_clamp, nI_leI, nI_ltI, nI_eq, inb_, iz1_, iz2_, iz3_, iz4_, iz5_, reduceIte, if_pos, if_neg, op_os, op_vIs, op_vLs, op_vRs, op_vNs, dI_at, dL_at, dI_2, dL_1, Nat.reduceEqDiff, Nat.reduceAdd, Nat.reduceMul, false_and, and_false, true_and, and_true, ne_eq, not_true_eq_false, not_false_eq_true, b2_z, b2_o, b2_n, b2_01, nar_b, nar_0, nar_1, Bool.false_eq_true, Bool.true_eq_false]; exact hu5
      · rw [if_neg z] at hm'
        have hcm : (qm_ M).2.2.2.1 i l = mn := by omega
        rw [hcm] at hm' hw1 hcq hcn
        refine ⟨(mn + 1, dI_ (dI_ (dI_ G 361 mn (nI mn)) 366 mn (nI (M.2.2.2.1 x l))) 367 (4 * i + l) (nI mn)), ?_, ⟨fun v hv => ?_, fun v hv => ?_, fun i' l' hl' hb' => ?_, fun i' hi' => ?_⟩, ⟨fun i' l' hl' hb' => ?_, hcn, by show 1 ≤ mn + 1; omega⟩, fx_1 (fx_1 (fx_1 u3 (Or.inr ⟨by omega, by unfold fsh_; omega⟩)) (Or.inr ⟨by omega, by unfold fsh_; omega⟩)) (Or.inr ⟨by omega, by unfold fsh_; omega⟩), by show i < mn + 1; omega, ?_⟩
        · show k127_74 w (d + 3) (nI mn) (nI i) (nI l) G = _
          rw [e127_74]
          simp (disch := omega) only [nI_add, pk_mul, nI_clamp, nI_leI, nI_ltI, nI_eq, inb_, iz1_, iz2_, iz3_, iz4_, iz5_, reduceIte, if_pos, if_neg, op_os, op_vIs, op_vLs, op_vRs, op_vNs, dI_at, dL_at, dI_2, dL_1, Nat.reduceEqDiff, Nat.reduceAdd, Nat.reduceMul, false_and, and_false, true_and, and_true, ne_eq, not_true_eq_false, not_false_eq_true, b2_z, b2_o, b2_n, b2_01, nar_b, nar_0, nar_1, Bool.false_eq_true, Bool.true_eq_false, hbG.1, hu5, hw2, hw1, hm', e127_139]
        · simp (disch := omega) only [nI_add, pk_mul, nI_clamp, nI_leI, nI_ltI, nI_eq, inb_, iz1_, iz2_, iz3_, iz4_, iz5_, reduceIte, op_os, op_vIs, op_vLs, op_vRs, op_vNs, dI_at, dL_at, dI_2, dL_1, Nat.reduceEqDiff, Nat.reduceAdd, Nat.reduceMul, false_and, and_false, true_and, and_true, ne_eq, not_true_eq_false, not_false_eq_true, b2_z, b2_o, b2_n, b2_01, nar_b, nar_0, nar_1, Bool.false_eq_true, Bool.true_eq_false]
          by_cases y : v = mn
          · rw [if_pos y, if_pos (by omega), y]
          · rw [if_neg y]
            have := u1.1 v hv
            rw [this]
            by_cases y2 : v < mn
            · rw [if_pos y2, if_pos (by omega)]
            · rw [if_neg y2, if_neg (by omega)]
        · by_cases y : v = mn
          · exact ⟨M.2.2.2.1 x l, hq, by rw [hcq, y], by rw [y]; simp (disch := omega) only [nI_add, pk_mul, nI_clamp, nI_leI, nI_ltI, nI_eq, inb_, iz1_, iz2_, iz3_, iz4_, iz5_, reduceIte, if_pos, if_neg, op_os, op_vIs, op_vLs, op_vRs, op_vNs, dI_at, dL_at, dI_2, dL_1, Nat.reduceEqDiff, Nat.reduceAdd, Nat.reduceMul, false_and, and_false, true_and, and_true, ne_eq, not_true_eq_false, not_false_eq_true, b2_z, b2_o, b2_n, b2_01, nar_b, nar_0, nar_1, Bool.false_eq_true, Bool.true_eq_false]⟩
          · obtain ⟨y, y1, y2, y3⟩ := u1.2.1 v (by have hv' : v < mn + 1 := hv; show v < mn; omega)
            exact ⟨y, y1, y2, by simp (disch := omega) only [nI_add, pk_mul, nI_clamp, nI_leI, nI_ltI, nI_eq, inb_, iz1_, iz2_, iz3_, iz4_, iz5_, reduceIte, if_pos, if_neg, op_os, op_vIs, op_vLs, op_vRs, op_vNs, dI_at, dL_at, dI_2, dL_1, Nat.reduceEqDiff, Nat.reduceAdd, Nat.reduceMul, false_and, and_false, true_and, and_true, ne_eq, not_true_eq_false, not_false_eq_true, b2_z, b2_o, b2_n, b2_01, nar_b, nar_0, nar_1, Bool.false_eq_true, Bool.true_eq_false]; exact y3⟩
        · simp (disch := omega) only [nI_add, pk_mul, nI_clamp, nI_leI, nI_ltI, nI_eq, inb_, iz1_, iz2_, iz3_, iz4_, iz5_, reduceIte, op_os, op_vIs, op_vLs, op_vRs, op_vNs, dI_at, dL_at, dI_2, dL_1, Nat.reduceEqDiff, Nat.reduceAdd, Nat.reduceMul, false_and, and_false, true_and, and_true, ne_eq, not_true_eq_false, not_false_eq_true, b2_z, b2_o, b2_n, b2_01, nar_b, nar_0, nar_1, Bool.false_eq_true, Bool.true_eq_false]
          by_cases y : 4 * i' + l' = 4 * i + l
          · rw [if_pos y, show i' = i by omega, show l' = l by omega, hcm]
          · rw [if_neg y]
            exact u1.2.2.1 i' l' hl' (by unfold bef_ at *; omega)
        · simp (disch := omega) only [nI_add, pk_mul, nI_clamp, nI_leI, nI_ltI, nI_eq, inb_, iz1_, iz2_, iz3_, iz4_, iz5_, reduceIte, if_pos, if_neg, op_os, op_vIs, op_vLs, op_vRs, op_vNs, dI_at, dL_at, dI_2, dL_1, Nat.reduceEqDiff, Nat.reduceAdd, Nat.reduceMul, false_and, and_false, true_and, and_true, ne_eq, not_true_eq_false, not_false_eq_true, b2_z, b2_o, b2_n, b2_01, nar_b, nar_0, nar_1, Bool.false_eq_true, Bool.true_eq_false]; exact u1.2.2.2 i' hi'
        · show (qm_ M).2.2.2.1 i' l' < mn + 1
          by_cases y : i' = i ∧ l' = l
          · rw [y.1, y.2, hcm]; omega
          · have := u2.1 i' l' hl' (by unfold bef_ at *; omega)
            have : (qm_ M).2.2.2.1 i' l' < mn := this
            omega
        · simp (disch := omega) only [nI_add, pk_mul, nI_clamp, nI_leI, nI_ltI, nI_eq, inb_, iz1_, iz2_, iz3_, iz4_, iz5_, reduceIte, if_pos, if_neg, op_os, op_vIs, op_vLs, op_vRs, op_vNs, dI_at, dL_at, dI_2, dL_1, Nat.reduceEqDiff, Nat.reduceAdd, Nat.reduceMul, false_and, and_false, true_and, and_true, ne_eq, not_true_eq_false, not_false_eq_true, b2_z, b2_o, b2_n, b2_01, nar_b, nar_0, nar_1, Bool.false_eq_true, Bool.true_eq_false]; exact hu5) ⟨⟨fun v hv => by simp (disch := omega) only [nI_add, pk_mul, nI_clamp, nI_leI, nI_ltI, nI_eq, inb_, iz1_, iz2_, iz3_, iz4_, iz5_, reduceIte, if_pos, if_neg, op_os, op_vIs, op_vLs, op_vRs, op_vNs, dI_at, dL_at, dI_2, dL_1, Nat.reduceEqDiff, Nat.reduceAdd, Nat.reduceMul, false_and, and_false, true_and, and_true, ne_eq, not_true_eq_false, not_false_eq_true, b2_z, b2_o, b2_n, b2_01, nar_b, nar_0, nar_1, Bool.false_eq_true, Bool.true_eq_false]; exact t1.1 v hv, fun v hv => by
          obtain ⟨y, y1, y2, y3⟩ := t1.2.1 v hv
          exact ⟨y, y1, y2, by simp (disch := omega) only [nI_add, pk_mul, nI_clamp, nI_leI, nI_ltI, nI_eq, inb_, iz1_, iz2_, iz3_, iz4_, iz5_, reduceIte, if_pos, if_neg, op_os, op_vIs, op_vLs, op_vRs, op_vNs, dI_at, dL_at, dI_2, dL_1, Nat.reduceEqDiff, Nat.reduceAdd, Nat.reduceMul, false_and, and_false, true_and, and_true, ne_eq, not_true_eq_false, not_false_eq_true, b2_z, b2_o, b2_n, b2_01, nar_b, nar_0, nar_1, Bool.false_eq_true, Bool.true_eq_false]; exact y3⟩, fun i' l' hl' hb' => by simp (disch := omega) only [nI_add, pk_mul, nI_clamp, nI_leI, nI_ltI, nI_eq, inb_, iz1_, iz2_, iz3_, iz4_, iz5_, reduceIte, if_pos, if_neg, op_os, op_vIs, op_vLs, op_vRs, op_vNs, dI_at, dL_at, dI_2, dL_1, Nat.reduceEqDiff, Nat.reduceAdd, Nat.reduceMul, false_and, and_false, true_and, and_true, ne_eq, not_true_eq_false, not_false_eq_true, b2_z, b2_o, b2_n, b2_01, nar_b, nar_0, nar_1, Bool.false_eq_true, Bool.true_eq_false]; exact t1.2.2.1 i' l' hl' hb', fun i' hi' => by
          simp (disch := omega) only [nI_add, pk_mul, nI_clamp, nI_leI, nI_ltI, nI_eq, inb_, iz1_, iz2_, iz3_, iz4_, iz5_, reduceIte, op_os, op_vIs, op_vLs, op_vRs, op_vNs, dI_at, dL_at, dI_2, dL_1, Nat.reduceEqDiff, Nat.reduceAdd, Nat.reduceMul, false_and, and_false, true_and, and_true, ne_eq, not_true_eq_false, not_false_eq_true, b2_z, b2_o, b2_n, b2_01, nar_b, nar_0, nar_1, Bool.false_eq_true, Bool.true_eq_false]
          by_cases y : i' = i
          · rw [if_pos y, y]
          · rw [if_neg y]
            exact t1.2.2.2 i' (by omega)⟩, t2, fx_1 t3 (Or.inr ⟨by omega, by unfold fsh_; omega⟩), him, by simp (disch := omega) only [nI_add, pk_mul, nI_clamp, nI_leI, nI_ltI, nI_eq, inb_, iz1_, iz2_, iz3_, iz4_, iz5_, reduceIte, if_pos, if_neg, op_os, op_vIs, op_vLs, op_vRs, op_vNs, dI_at, dL_at, dI_2, dL_1, Nat.reduceEqDiff, Nat.reduceAdd, Nat.reduceMul, false_and, and_false, true_and, and_true, ne_eq, not_true_eq_false, not_false_eq_true, b2_z, b2_o, b2_n, b2_01, nar_b, nar_0, nar_1, Bool.false_eq_true, Bool.true_eq_false]; exact x3'⟩
    have hmn3 : many' ≤ nn_ M := f3.2.1
    refine ⟨(many', F'), ?_, ⟨f2.1, f2.2.1, fun i' l' hl' hb' => f2.2.2.1 i' l' hl' (by unfold bef_ at *; omega), f2.2.2.2⟩, ⟨fun i' l' hl' hb' => f3.1 i' l' hl' (by unfold bef_ at *; omega), f3.2⟩, f4.1⟩
    show k127_50 w (d + 3) (nI many) (nI i) F = k127_50 w (d + 3) (nI many') (nI (i + 1)) F'
    have hmn4 : many ≤ nn_ M := hmn
    rw [e127_50]
    simp (disch := omega) only [nI_add, pk_mul, nI_clamp, nI_leI, nI_ltI, nI_eq, inb_, iz1_, iz2_, iz3_, iz4_, iz5_, reduceIte, if_pos, if_neg, op_os, op_vIs, op_vLs, op_vRs, op_vNs, dI_at, dL_at, dI_2, dL_1, Nat.reduceEqDiff, Nat.reduceAdd, Nat.reduceMul, false_and, and_false, true_and, and_true, ne_eq, not_true_eq_false, not_false_eq_true, b2_z, b2_o, b2_n, b2_01, nar_b, nar_0, nar_1, Bool.false_eq_true, Bool.true_eq_false, x3', hbF.2.2.2 x x1, hac]
    refine Eq.trans (show _ = k127_74 w (d + 3) (nI many') (nI i) (nI (M.1)) F' from f1) ?_
    rw [e127_74]
    simp (disch := omega) only [nI_add, pk_mul, nI_clamp, nI_leI, nI_ltI, nI_eq, inb_, iz1_, iz2_, iz3_, iz4_, iz5_, reduceIte, if_pos, if_neg, op_os, op_vIs, op_vLs, op_vRs, op_vNs, dI_at, dL_at, dI_2, dL_1, Nat.reduceEqDiff, Nat.reduceAdd, Nat.reduceMul, false_and, and_false, true_and, and_true, ne_eq, not_true_eq_false, not_false_eq_true, b2_z, b2_o, b2_n, b2_01, nar_b, nar_0, nar_1, Bool.false_eq_true, Bool.true_eq_false, (hfix F' f4.1).1.1, Nat.le_refl]) ⟨s3, m3, fr3⟩
  have hmany : many = nn_ M := by
    have h2 : many ≤ nn_ M := e3.2.1
    exact mw_all hqio e3 h2
  subst hmany
  generalize hD5 : dI_ D4 351 9 (nI (nn_ M)) = D5
  have hb5 : D5.1 351 8 = nI (M.1) ∧ D5.1 351 9 = nI (nn_ M) := by
    rw [← hD5]
    exact ⟨by simp (disch := omega) only [nI_add, pk_mul, nI_clamp, nI_leI, nI_ltI, nI_eq, inb_, iz1_, iz2_, iz3_, iz4_, iz5_, reduceIte, if_pos, if_neg, op_os, op_vIs, op_vLs, op_vRs, op_vNs, dI_at, dL_at, dI_2, dL_1, Nat.reduceEqDiff, Nat.reduceAdd, Nat.reduceMul, false_and, and_false, true_and, and_true, ne_eq, not_true_eq_false, not_false_eq_true, b2_z, b2_o, b2_n, b2_01, nar_b, nar_0, nar_1, Bool.false_eq_true, Bool.true_eq_false]; exact (hfix D4 e4).1.1, by simp (disch := omega) only [nI_add, pk_mul, nI_clamp, nI_leI, nI_ltI, nI_eq, inb_, iz1_, iz2_, iz3_, iz4_, iz5_, reduceIte, if_pos, if_neg, op_os, op_vIs, op_vLs, op_vRs, op_vNs, dI_at, dL_at, dI_2, dL_1, Nat.reduceEqDiff, Nat.reduceAdd, Nat.reduceMul, false_and, and_false, true_and, and_true, ne_eq, not_true_eq_false, not_false_eq_true, b2_z, b2_o, b2_n, b2_01, nar_b, nar_0, nar_1, Bool.false_eq_true, Bool.true_eq_false]⟩
  have hr5 : (∀ i l, i < nn_ M → l < M.1 → D5.1 367 (4 * i + l) = nI ((qm_ M).2.2.2.1 i l)) ∧ ∀ i, i < nn_ M → D5.1 368 i = b2_ ((qm_ M).2.2.2.2 i) := by
    rw [← hD5]
    exact ⟨fun i l hi hl => by simp (disch := omega) only [nI_add, pk_mul, nI_clamp, nI_leI, nI_ltI, nI_eq, inb_, iz1_, iz2_, iz3_, iz4_, iz5_, reduceIte, if_pos, if_neg, op_os, op_vIs, op_vLs, op_vRs, op_vNs, dI_at, dL_at, dI_2, dL_1, Nat.reduceEqDiff, Nat.reduceAdd, Nat.reduceMul, false_and, and_false, true_and, and_true, ne_eq, not_true_eq_false, not_false_eq_true, b2_z, b2_o, b2_n, b2_01, nar_b, nar_0, nar_1, Bool.false_eq_true, Bool.true_eq_false]; exact e2.2.2.1 i l hl (Or.inl hi), fun i hi => by simp (disch := omega) only [nI_add, pk_mul, nI_clamp, nI_leI, nI_ltI, nI_eq, inb_, iz1_, iz2_, iz3_, iz4_, iz5_, reduceIte, if_pos, if_neg, op_os, op_vIs, op_vLs, op_vRs, op_vNs, dI_at, dL_at, dI_2, dL_1, Nat.reduceEqDiff, Nat.reduceAdd, Nat.reduceMul, false_and, and_false, true_and, and_true, ne_eq, not_true_eq_false, not_false_eq_true, b2_z, b2_o, b2_n, b2_01, nar_b, nar_0, nar_1, Bool.false_eq_true, Bool.true_eq_false]; exact e2.2.2.2 i hi⟩
  obtain ⟨D6, g1, g2, g3, g4⟩ := lp_ (fun i (F : dy_) => k127_180 w (d + 3) (nI (nn_ M)) (nI i) F) (fun i F => (∀ p l, p < i → l < M.1 → F.1 358 (4 * p + l) = nI ((qm_ M).2.2.2.1 p l)) ∧ (∀ p, p < i → F.1 359 p = b2_ ((qm_ M).2.2.2.2 p)) ∧ fx_ (fun b => b = 358 ∨ b = 359) (fun _ => False) D5 F) (nn_ M) (s := D5) (by
    rintro i F hi ⟨t1, t2, t3⟩
    obtain ⟨F', f1, f2, f3, f4⟩ := lp_ (fun l (F' : dy_) => k127_199 w (d + 3) (nI (nn_ M)) (nI i) (nI l) F') (fun l F' => (∀ p l', (p < i ∨ p = i ∧ l' < l) → l' < M.1 → F'.1 358 (4 * p + l') = nI ((qm_ M).2.2.2.1 p l')) ∧ (∀ p, p < i + 1 → F'.1 359 p = b2_ ((qm_ M).2.2.2.2 p)) ∧ fx_ (fun b => b = 358 ∨ b = 359) (fun _ => False) D5 F') (M.1) (s := dI_ F 359 i (b2_ ((qm_ M).2.2.2.2 i))) (by
      rintro l F' hl ⟨u1, u2, u3⟩
      refine ⟨dI_ F' 358 (4 * i + l) (nI ((qm_ M).2.2.2.1 i l)), ?_, fun p l' hp hl' => ?_, fun p hp => by simp (disch := omega) only [nI_add, pk_mul, nI_clamp, nI_leI, nI_ltI, nI_eq, inb_, iz1_, iz2_, iz3_, iz4_, iz5_, reduceIte, if_pos, if_neg, op_os, op_vIs, op_vLs, op_vRs, op_vNs, dI_at, dL_at, dI_2, dL_1, Nat.reduceEqDiff, Nat.reduceAdd, Nat.reduceMul, false_and, and_false, true_and, and_true, ne_eq, not_true_eq_false, not_false_eq_true, b2_z, b2_o, b2_n, b2_01, nar_b, nar_0, nar_1, Bool.false_eq_true, Bool.true_eq_false]; exact u2 p hp, fx_1 u3 (by omega)⟩
      · show k127_199 w (d + 3) (nI (nn_ M)) (nI i) (nI l) F' = _
        rw [e127_199]
        simp (disch := omega) only [nI_add, pk_mul, nI_clamp, nI_leI, nI_ltI, nI_eq, inb_, iz1_, iz2_, iz3_, iz4_, iz5_, reduceIte, if_pos, if_neg, op_os, op_vIs, op_vLs, op_vRs, op_vNs, dI_at, dL_at, dI_2, dL_1, Nat.reduceEqDiff, Nat.reduceAdd, Nat.reduceMul, false_and, and_false, true_and, and_true, ne_eq, not_true_eq_false, not_false_eq_true, b2_z, b2_o, b2_n, b2_01, nar_b, nar_0, nar_1, Bool.false_eq_true, Bool.true_eq_false, u3.2.1 8 id, hb5.1, u3.1 367 (by omega) (by omega), hr5.1 i l hi hl]
      · simp (disch := omega) only [nI_add, pk_mul, nI_clamp, nI_leI, nI_ltI, nI_eq, inb_, iz1_, iz2_, iz3_, iz4_, iz5_, reduceIte, op_os, op_vIs, op_vLs, op_vRs, op_vNs, dI_at, dL_at, dI_2, dL_1, Nat.reduceEqDiff, Nat.reduceAdd, Nat.reduceMul, false_and, and_false, true_and, and_true, ne_eq, not_true_eq_false, not_false_eq_true, b2_z, b2_o, b2_n, b2_01, nar_b, nar_0, nar_1, Bool.false_eq_true, Bool.true_eq_false]
        by_cases y : 4 * p + l' = 4 * i + l
        · rw [if_pos y, show p = i by omega, show l' = l by omega]
        · rw [if_neg y]
          exact u1 p l' (by omega) hl') ⟨fun p l' hp hl' => by simp (disch := omega) only [nI_add, pk_mul, nI_clamp, nI_leI, nI_ltI, nI_eq, inb_, iz1_, iz2_, iz3_, iz4_, iz5_, reduceIte, if_pos, if_neg, op_os, op_vIs, op_vLs, op_vRs, op_vNs, dI_at, dL_at, dI_2, dL_1, Nat.reduceEqDiff, Nat.reduceAdd, Nat.reduceMul, false_and, and_false, true_and, and_true, ne_eq, not_true_eq_false, not_false_eq_true, b2_z, b2_o, b2_n, b2_01, nar_b, nar_0, nar_1, Bool.false_eq_true, Bool.true_eq_false]; exact t1 p l' (by omega) hl', fun p hp => by
        simp (disch := omega) only [nI_add, pk_mul, nI_clamp, nI_leI, nI_ltI, nI_eq, inb_, iz1_, iz2_, iz3_, iz4_, iz5_, reduceIte, op_os, op_vIs, op_vLs, op_vRs, op_vNs, dI_at, dL_at, dI_2, dL_1, Nat.reduceEqDiff, Nat.reduceAdd, Nat.reduceMul, false_and, and_false, true_and, and_true, ne_eq, not_true_eq_false, not_false_eq_true, b2_z, b2_o, b2_n, b2_01, nar_b, nar_0, nar_1, Bool.false_eq_true, Bool.true_eq_false]
        by_cases y : p = i
        · rw [if_pos y, y]
        · rw [if_neg y]
          exact t2 p (by omega), fx_1 t3 (by omega)⟩
    refine ⟨F', ?_, fun p l hp hl => f2 p l (by omega) hl, f3, f4⟩
    show k127_180 w (d + 3) (nI (nn_ M)) (nI i) F = _
    rw [e127_180]
    simp (disch := omega) only [nI_add, pk_mul, nI_clamp, nI_leI, nI_ltI, nI_eq, inb_, iz1_, iz2_, iz3_, iz4_, iz5_, reduceIte, if_pos, if_neg, op_os, op_vIs, op_vLs, op_vRs, op_vNs, dI_at, dL_at, dI_2, dL_1, Nat.reduceEqDiff, Nat.reduceAdd, Nat.reduceMul, false_and, and_false, true_and, and_true, ne_eq, not_true_eq_false, not_false_eq_true, b2_z, b2_o, b2_n, b2_01, nar_b, nar_0, nar_1, Bool.false_eq_true, Bool.true_eq_false, t3.1 368 (by omega) (by omega), hr5.2 i hi]
    refine Eq.trans (show _ = k127_199 w (d + 3) (nI (nn_ M)) (nI i) (nI (M.1)) F' from f1) ?_
    rw [e127_199]
    simp (disch := omega) only [nI_add, pk_mul, nI_clamp, nI_leI, nI_ltI, nI_eq, inb_, iz1_, iz2_, iz3_, iz4_, iz5_, reduceIte, if_pos, if_neg, op_os, op_vIs, op_vLs, op_vRs, op_vNs, dI_at, dL_at, dI_2, dL_1, Nat.reduceEqDiff, Nat.reduceAdd, Nat.reduceMul, false_and, and_false, true_and, and_true, ne_eq, not_true_eq_false, not_false_eq_true, b2_z, b2_o, b2_n, b2_01, nar_b, nar_0, nar_1, Bool.false_eq_true, Bool.true_eq_false, f4.2.1 8 id, hb5.1, Nat.le_refl]) ⟨fun p l hp => absurd hp (by omega), fun p hp => absurd hp (by omega), fx_r _ _ D5⟩
  refine ⟨D6, ?_, ⟨by rw [g4.2.1 8 id]; exact hb5.1, by rw [g4.2.1 9 id]; exact hb5.2, fun i l hi hl => g2 i l hi hl, g3⟩, ?_⟩
  · rw [e127_0]
    simp (disch := omega) only [nI_add, pk_mul, nI_clamp, nI_leI, nI_ltI, nI_eq, inb_, iz1_, iz2_, iz3_, iz4_, iz5_, reduceIte, if_pos, if_neg, op_os, op_vIs, op_vLs, op_vRs, op_vNs, dI_at, dL_at, dI_2, dL_1, Nat.reduceEqDiff, Nat.reduceAdd, Nat.reduceMul, false_and, and_false, true_and, and_true, ne_eq, not_true_eq_false, not_false_eq_true, b2_z, b2_o, b2_n, b2_01, nar_b, nar_0, nar_1, Bool.false_eq_true, Bool.true_eq_false, a1]
    refine Eq.trans (show _ = k127_6 w (d + 3) (nI (M.2.1)) D2 from c1) ?_
    rw [e127_6]
    have h36 : D2.1 362 0 = nI 0 := by
      rw [c3.1 362 (by omega) (by omega), a2 0 (by omega), nf_0 hM]
    simp (disch := omega) only [nI_add, pk_mul, nI_clamp, nI_leI, nI_ltI, nI_eq, inb_, iz1_, iz2_, iz3_, iz4_, iz5_, reduceIte, if_pos, if_neg, op_os, op_vIs, op_vLs, op_vRs, op_vNs, dI_at, dL_at, dI_2, dL_1, Nat.reduceEqDiff, Nat.reduceAdd, Nat.reduceMul, false_and, and_false, true_and, and_true, ne_eq, not_true_eq_false, not_false_eq_true, b2_z, b2_o, b2_n, b2_01, nar_b, nar_0, nar_1, Bool.false_eq_true, Bool.true_eq_false, c3.2.1 9 id, hb1.2.1, Nat.le_refl, h36]
    rw [hD3]
    refine Eq.trans (show _ = k127_50 w (d + 3) (nI (nn_ M)) (nI (nn_ M)) D4 from e1) ?_
    rw [e127_50]
    simp (disch := omega) only [nI_add, pk_mul, nI_clamp, nI_leI, nI_ltI, nI_eq, inb_, iz1_, iz2_, iz3_, iz4_, iz5_, reduceIte, if_pos, if_neg, op_os, op_vIs, op_vLs, op_vRs, op_vNs, dI_at, dL_at, dI_2, dL_1, Nat.reduceEqDiff, Nat.reduceAdd, Nat.reduceMul, false_and, and_false, true_and, and_true, ne_eq, not_true_eq_false, not_false_eq_true, b2_z, b2_o, b2_n, b2_01, nar_b, nar_0, nar_1, Bool.false_eq_true, Bool.true_eq_false, Nat.le_refl]
    rw [hD5]
    refine Eq.trans (show _ = k127_180 w (d + 3) (nI (nn_ M)) (nI (nn_ M)) D6 from g1) ?_
    rw [e127_180]
    simp (disch := omega) only [nI_add, pk_mul, nI_clamp, nI_leI, nI_ltI, nI_eq, inb_, iz1_, iz2_, iz3_, iz4_, iz5_, reduceIte, if_pos, if_neg, op_os, op_vIs, op_vLs, op_vRs, op_vNs, dI_at, dL_at, dI_2, dL_1, Nat.reduceEqDiff, Nat.reduceAdd, Nat.reduceMul, false_and, and_false, true_and, and_true, ne_eq, not_true_eq_false, not_false_eq_true, b2_z, b2_o, b2_n, b2_01, nar_b, nar_0, nar_1, Bool.false_eq_true, Bool.true_eq_false, Nat.le_refl]
  · refine rw_t (rw_fx a3 (fun b hb => by unfold ff_ at hb; omega) (fun j hj => by unfold wf8_; omega)) (rw_t (rw_fx e4 (fun b hb => by unfold fsh_ at hb; omega) (fun j hj => hj.elim)) ?_)
    rw [← hD5] at g4
    exact rw_t (rw_1 (rw_r D4) (Or.inl ⟨rfl, by unfold wf8_; omega⟩)) (rw_fx g4 (fun b hb => by omega) (fun j hj => hj.elim))
end SHRINK
