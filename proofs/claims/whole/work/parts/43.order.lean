/-! machines that are the same as far as they are used -/
def em_ (M M' : ma_) : Prop := M.1 = M'.1 ∧ M.2.1 = M'.2.1 ∧ M.2.2.1 = M'.2.2.1 ∧ (∀ p l, p < M.2.1 → l < M.1 → M.2.2.2.1 p l = M'.2.2.2.1 p l) ∧ ∀ p, p < M.2.1 → M.2.2.2.2 p = M'.2.2.2.2 p
theorem em_r (M : ma_) : em_ M M := ⟨rfl, rfl, rfl, fun _ _ _ _ => rfl, fun _ _ => rfl⟩
theorem em_s {M M' : ma_} (h : em_ M M') : em_ M' M := ⟨h.1.symm, h.2.1.symm, h.2.2.1.symm, fun p l hp hl => (h.2.2.2.1 p l (by rw [h.2.1]; exact hp) (by rw [h.1]; exact hl)).symm, fun p hp => (h.2.2.2.2 p (by rw [h.2.1]; exact hp)).symm⟩
theorem em_t {M M' M'' : ma_} (h : em_ M M') (g : em_ M' M'') : em_ M M'' := ⟨h.1.trans g.1, h.2.1.trans g.2.1, h.2.2.1.trans g.2.2.1, fun p l hp hl => (h.2.2.2.1 p l hp hl).trans (g.2.2.2.1 p l (by rw [← h.2.1]; exact hp) (by rw [← h.1]; exact hl)), fun p hp => (h.2.2.2.2 p hp).trans (g.2.2.2.2 p (by rw [← h.2.1]; exact hp))⟩
theorem wm_em {M M' : ma_} (h : wm_ M) (g : em_ M M') : wm_ M' := by
  refine ⟨by rw [← g.1]; exact h.1, by rw [← g.2.1]; exact h.2.1, by rw [← g.2.1, ← g.2.2.1]; exact h.2.2.1, fun p l hp hl => ?_⟩
  rw [← g.2.1] at hp
  rw [← g.1] at hl
  rw [← g.2.2.2.1 p l hp hl, ← g.2.1]
  exact h.2.2.2 p l hp hl
theorem cm_em {D : dy_} {a : Nat} {M M' : ma_} (h : cm_ D a M) (g : em_ M M') : cm_ D a M' := by
  refine ⟨by rw [← g.1]; exact h.1, by rw [← g.2.1]; exact h.2.1, by rw [← g.2.2.1]; exact h.2.2.1, fun p l hp hl => ?_, fun p hp => ?_⟩
  · rw [← g.2.1] at hp
    rw [← g.1] at hl
    rw [← g.2.2.2.1 p l hp hl, ← g.1]
    exact h.2.2.2.1 p l hp hl
  · rw [← g.2.1] at hp
    rw [← g.2.2.2.2 p hp]
    exact h.2.2.2.2 p hp
theorem rm_em {D : dy_} {m : Nat} {M M' : ma_} (h : rm_ D m M) (g : em_ M M') : rm_ D m M' := by
  refine ⟨by rw [← g.1]; exact h.1, by rw [← g.2.1]; exact h.2.1, by rw [← g.2.2.1]; exact h.2.2.1, fun p l hp hl => ?_, fun p hp => ?_⟩
  · rw [← g.2.1] at hp
    rw [← g.1] at hl
    rw [← g.2.2.2.1 p l hp hl]
    exact h.2.2.2.1 p l hp hl
  · rw [← g.2.1] at hp
    rw [← g.2.2.2.2 p hp]
    exact h.2.2.2.2 p hp
theorem bg_em {D : dy_} {M M' : ma_} (h : bg_ D M) (g : em_ M M') : bg_ D M' := by
  refine ⟨by rw [← g.1]; exact h.1, by rw [← g.2.1]; exact h.2.1, fun p l hp hl => ?_, fun p hp => ?_⟩
  · rw [← g.2.1] at hp
    rw [← g.1] at hl
    rw [← g.2.2.2.1 p l hp hl]
    exact h.2.2.1 p l hp hl
  · rw [← g.2.1] at hp
    rw [← g.2.2.2.2 p hp]
    exact h.2.2.2 p hp
theorem io_em {M M' : ma_} (h : io_ M) (g : em_ M M') (hM : wm_ M) : io_ M' := by
  intro v hv hz
  rw [← g.2.1] at hv
  obtain ⟨i, l, q1, q2, q3, q4⟩ := h v hv hz
  rw [g.1] at q2
  refine ⟨i, l, q1, q2, ?_, fun i' l' h1 h2 => ?_⟩
  · rw [← q3]
    exact (g.2.2.2.1 i l (by omega) (by rw [g.1]; exact q2)).symm
  · rw [← g.1] at h1
    have := q4 i' l' h1 h2
    rw [← g.2.2.2.1 i' l' (by unfold bef_ at h2; omega) h1]
    exact this
/-- the machine that takes nothing, and the one that takes all -/
def n1_ : ma_ := (4, 1, 0, fun p _ => p, fun _ => false)
def e1_ : ma_ := (4, 1, 0, fun p _ => p, fun _ => true)
theorem n1_wm : wm_ n1_ := ⟨⟨by decide, by decide⟩, by decide, by decide, fun p l hp _ => hp⟩
theorem e1_wm : wm_ e1_ := ⟨⟨by decide, by decide⟩, by decide, by decide, fun p l hp _ => hp⟩
theorem lfm_bm {M : ma_} (hM : wm_ M) (hn : M.2.1 ≤ 60) : em_ (lfm_ M) (bm_ M n1_ 1 (M.2.2.1, 0)) := by
  have hk := hM.1
  have h36 := n36_e
  have hkm : km_ M n1_ = M.1 := by
    show min (M.1) 4 = _
    omega
  have hlen : (kq_ (M.2.2.2.1) (M.1) (M.2.2.1) n36_).length ≤ n36_ := by
    have := nx_len hM n36_
    omega
  have h1 : ∀ x l, x < M.2.1 → l < M.1 → M.2.2.2.1 x l < M.2.1 := fun x l a b => hM.2.2.2 x l a b
  have h2 : ∀ x l, x < M.2.1 → l < M.1 → gp_ M n1_ ((fun p => (p, 0)) x) l = (fun p => (p, 0)) (M.2.2.2.1 x l) := fun _ _ _ _ => rfl
  have h3 : ∀ x y, x < M.2.1 → y < M.2.1 → ((fun p => (p, 0)) x : Nat × Nat) = (fun p => (p, 0)) y → x = y := fun x y _ _ e => (Prod.mk.inj e).1
  have em := kq_map (P := fun p => p < M.2.1) (φ := fun p => (p, 0)) (g := M.2.2.2.1) (g' := gp_ M n1_) (k := M.1) (x0 := M.2.2.1) hM.2.2.1 h1 h2 h3 n36_
  refine ⟨hkm.symm, ?_, rfl, fun i l hi hl => ?_, fun i hi => ?_⟩
  · unfold bm_ lfm_
    rw [hkm]
    show _ = (kq_ (gp_ M n1_) (M.1) ((fun p => (p, 0)) (M.2.2.1)) n36_).length
    rw [em, List.length_map]
  · unfold bm_
    rw [hkm]
    exact (kt_map (P := fun p => p < M.2.1) (φ := fun p => (p, 0)) (g := M.2.2.2.1) (g' := gp_ M n1_) (k := M.1) (x0 := M.2.2.1) hM.2.2.1 h1 h2 h3 hlen hi hl).symm
  · unfold bm_ pf_
    rw [hkm]
    have := kf_map (P := fun p => p < M.2.1) (φ := fun p => (p, 0)) (g := M.2.2.2.1) (g' := gp_ M n1_) (k := M.1) (x0 := M.2.2.1) hM.2.2.1 h1 h2 h3 (N := n36_) (i := i)
    show M.2.2.2.2 (kf_ (M.2.2.2.1) (M.1) (M.2.2.1) n36_ i) = hw_ 1 (M.2.2.2.2 (kf_ (gp_ M n1_) (M.1) ((fun p => (p, 0)) (M.2.2.1)) n36_ i).1) false
    rw [this]
    show _ = (M.2.2.2.2 (kf_ (M.2.2.2.1) (M.1) (M.2.2.1) n36_ i) || false)
    rw [Bool.or_false]
/-- not -/
noncomputable def nm_ (M : ma_) : ma_ := (M.1, M.2.1, M.2.2.1, M.2.2.2.1, fun p => !M.2.2.2.2 p)
theorem nfm_bm {M : ma_} (hM : wm_ M) (hn : M.2.1 ≤ 60) : em_ (nm_ (lfm_ M)) (bm_ e1_ M 2 (0, M.2.2.1)) := by
  have hk := hM.1
  have h36 := n36_e
  have hkm : km_ e1_ M = M.1 := by
    show min 4 (M.1) = _
    omega
  have hlen : (kq_ (M.2.2.2.1) (M.1) (M.2.2.1) n36_).length ≤ n36_ := by
    have := nx_len hM n36_
    omega
  have h1 : ∀ x l, x < M.2.1 → l < M.1 → M.2.2.2.1 x l < M.2.1 := fun x l a b => hM.2.2.2 x l a b
  have h2 : ∀ x l, x < M.2.1 → l < M.1 → gp_ e1_ M ((fun p => (0, p)) x) l = (fun p => (0, p)) (M.2.2.2.1 x l) := fun _ _ _ _ => rfl
  have h3 : ∀ x y, x < M.2.1 → y < M.2.1 → ((fun p => (0, p)) x : Nat × Nat) = (fun p => (0, p)) y → x = y := fun x y _ _ e => (Prod.mk.inj e).2
  have em := kq_map (P := fun p => p < M.2.1) (φ := fun p => (0, p)) (g := M.2.2.2.1) (g' := gp_ e1_ M) (k := M.1) (x0 := M.2.2.1) hM.2.2.1 h1 h2 h3 n36_
  refine ⟨hkm.symm, ?_, rfl, fun i l hi hl => ?_, fun i hi => ?_⟩
  · unfold bm_ nm_ lfm_
    rw [hkm]
    show _ = (kq_ (gp_ e1_ M) (M.1) ((fun p => (0, p)) (M.2.2.1)) n36_).length
    rw [em, List.length_map]
  · unfold bm_
    rw [hkm]
    exact (kt_map (P := fun p => p < M.2.1) (φ := fun p => (0, p)) (g := M.2.2.2.1) (g' := gp_ e1_ M) (k := M.1) (x0 := M.2.2.1) hM.2.2.1 h1 h2 h3 hlen hi hl).symm
  · unfold bm_ pf_
    rw [hkm]
    have := kf_map (P := fun p => p < M.2.1) (φ := fun p => (0, p)) (g := M.2.2.2.1) (g' := gp_ e1_ M) (k := M.1) (x0 := M.2.2.1) hM.2.2.1 h1 h2 h3 (N := n36_) (i := i)
    show (!M.2.2.2.2 (kf_ (M.2.2.2.1) (M.1) (M.2.2.1) n36_ i)) = hw_ 2 true (M.2.2.2.2 (kf_ (gp_ e1_ M) (M.1) ((fun p => (0, p)) (M.2.2.1)) n36_ i).2)
    rw [this]
    rfl
theorem lfm_wm {M : ma_} (hM : wm_ M) (hn : M.2.1 ≤ 60) : wm_ (lfm_ M) ∧ (lfm_ M).2.1 ≤ M.2.1 := ⟨wm_em (bm_wm hM n1_wm hn (by decide) 1 ⟨hM.2.2.1, Nat.zero_lt_one⟩) (em_s (lfm_bm hM hn)), nx_len hM n36_⟩
theorem lfm_io {M : ma_} (hM : wm_ M) (hn : M.2.1 ≤ 60) : io_ (lfm_ M) := io_em (bm_io hM n1_wm hn (by decide) 1 ⟨hM.2.2.1, Nat.zero_lt_one⟩) (em_s (lfm_bm hM hn)) (bm_wm hM n1_wm hn (by decide) 1 ⟨hM.2.2.1, Nat.zero_lt_one⟩)
theorem np0 {n : Nat} (h : n < 2 ^ 31) : (nI n < 0) ↔ False := ⟨nI_pos h, False.elim⟩
theorem mkca0 : (mk_ca [] ≤ 8) ↔ True := ⟨fun _ => trivial, fun _ => by decide⟩
theorem dC_in {D : dy_} {a0 a n j : Nat} (h : j < n) : (dC_ D a0 0 a 0 n).1 a j = D.1 a0 j := by
  show va_up D.1 a (va_cpy (D.1 a0) (D.1 a) 0 0 n) a j = _
  rw [show va_up D.1 a (va_cpy (D.1 a0) (D.1 a) 0 0 n) a = va_cpy (D.1 a0) (D.1 a) 0 0 n from up_eq, pk_cpy_in (Nat.zero_le j) (by omega), Nat.zero_add, Nat.sub_zero]
theorem dC_ne {D : dy_} {a0 sp a dp n b : Nat} (h : b ≠ a) : (dC_ D a0 sp a dp n).1 b = D.1 b := up_ne (f := D.1) h
theorem dC_2 (D : dy_) (a0 sp a dp n : Nat) : (dC_ D a0 sp a dp n).2 = D.2 := rfl
theorem rsp_fw {D D' : dy_} {B : Nat} (h : rsp_ D B) (h0 : D'.1 24 4 = nI 0) (h1 : D'.1 41 = D.1 41) (h2 : D'.1 44 = D.1 44) : rsp_ D' B := by
  unfold rsp_ at *
  rw [h1, h2]
  exact ⟨h0, h.2⟩
section ORD
variable {w : (Nat → Int32) × Nat} {d : Nat} {D : dy_} {S : sp_} {B : Nat} {M : ma_}
/-- copyOf -/
theorem x14 {a b : Nat} (ha : a ∈ ml_) (hb : b ∈ ml_) (hab : a + 2 < b ∨ b + 2 < a) (hc : cm_ D b M) (hM : wm_ M) (h1 : M.2.1 ≤ cap_ a) (h2 : M.2.1 ≤ cap_ b) : ∃ D', k14_0 w (d + 1) a b D = some (none, D') ∧ cm_ D' a M ∧ sx_ (fun z => a ≤ z ∧ z ≤ a + 2) D D' := by
  have hk := hM.1
  have c1 := mcap ha
  have c2 := mcap hb
  have g1 : M.2.1 * M.1 ≤ 4 * cap_ a := by
    have := Nat.mul_le_mul h1 hk.2
    omega
  have g2 : M.2.1 * M.1 ≤ 4 * cap_ b := by
    have := Nat.mul_le_mul h2 hk.2
    omega
  rw [e14_0 ha hb]
  simp (disch := omega) only [nI_add, pk_mul, nI_clamp, nI_leI, nI_ltI, nI_eq, inb_, iz1_, iz2_, iz3_, iz4_, iz5_, reduceIte, if_pos, if_neg, op_os, op_vIs, op_vLs, op_vRs, op_vNs, dI_at, dL_at, dI_2, dL_1, Nat.reduceEqDiff, Nat.reduceAdd, Nat.reduceMul, false_and, and_false, true_and, and_true, ne_eq, not_true_eq_false, not_false_eq_true, b2_z, b2_o, b2_n, b2_01, nar_b, nar_0, nar_1, Bool.false_eq_true, Bool.true_eq_false, hc.1, hc.2.1, hc.2.2.1, np0, mkca0, Nat.zero_add]
  generalize hE : dC_ (dI_ (dI_ (dI_ D a 2 (nI (M.1))) a 3 (nI (M.2.1))) a 4 (nI (M.2.2.1))) (b + 1) 0 (a + 1) 0 (M.2.1 * M.1) = E
  have s1 : sx_ (fun z => a ≤ z ∧ z ≤ a + 2) D E := by
    rw [← hE]
    refine sx_t (sx_1 (sx_1 (sx_1 (sx_r _ D) ?_) ?_) ?_) (fun z hz => ⟨dC_ne (by omega), rfl⟩) <;> omega
  have f1 : E.1 a 2 = nI (M.1) ∧ E.1 a 3 = nI (M.2.1) ∧ E.1 a 4 = nI (M.2.2.1) ∧ ∀ p l, p < M.2.1 → l < M.1 → E.1 (a + 1) (p * M.1 + l) = nI (M.2.2.2.1 p l) := by
    rw [← hE]
    refine ⟨?_, ?_, ?_, fun p l hp hl => ?_⟩
    · rw [dC_ne (by omega)]; simp (disch := omega) only [nI_add, pk_mul, nI_clamp, nI_leI, nI_ltI, nI_eq, inb_, iz1_, iz2_, iz3_, iz4_, iz5_, reduceIte, if_pos, if_neg, op_os, op_vIs, op_vLs, op_vRs, op_vNs, dI_at, dL_at, dI_2, dL_1, Nat.reduceEqDiff, Nat.reduceAdd, Nat.reduceMul, false_and, and_false, true_and, and_true, ne_eq, not_true_eq_false, not_false_eq_true, b2_z, b2_o, b2_n, b2_01, nar_b, nar_0, nar_1, Bool.false_eq_true, Bool.true_eq_false]
    · rw [dC_ne (by omega)]; simp (disch := omega) only [nI_add, pk_mul, nI_clamp, nI_leI, nI_ltI, nI_eq, inb_, iz1_, iz2_, iz3_, iz4_, iz5_, reduceIte, if_pos, if_neg, op_os, op_vIs, op_vLs, op_vRs, op_vNs, dI_at, dL_at, dI_2, dL_1, Nat.reduceEqDiff, Nat.reduceAdd, Nat.reduceMul, false_and, and_false, true_and, and_true, ne_eq, not_true_eq_false, not_false_eq_true, b2_z, b2_o, b2_n, b2_01, nar_b, nar_0, nar_1, Bool.false_eq_true, Bool.true_eq_false]
    · rw [dC_ne (by omega)]; simp (disch := omega) only [nI_add, pk_mul, nI_clamp, nI_leI, nI_ltI, nI_eq, inb_, iz1_, iz2_, iz3_, iz4_, iz5_, reduceIte, if_pos, if_neg, op_os, op_vIs, op_vLs, op_vRs, op_vNs, dI_at, dL_at, dI_2, dL_1, Nat.reduceEqDiff, Nat.reduceAdd, Nat.reduceMul, false_and, and_false, true_and, and_true, ne_eq, not_true_eq_false, not_false_eq_true, b2_z, b2_o, b2_n, b2_01, nar_b, nar_0, nar_1, Bool.false_eq_true, Bool.true_eq_false]
    · rw [dC_in (mul_in hp hl)]
      simp (disch := omega) only [nI_add, pk_mul, nI_clamp, nI_leI, nI_ltI, nI_eq, inb_, iz1_, iz2_, iz3_, iz4_, iz5_, reduceIte, if_pos, if_neg, op_os, op_vIs, op_vLs, op_vRs, op_vNs, dI_at, dL_at, dI_2, dL_1, Nat.reduceEqDiff, Nat.reduceAdd, Nat.reduceMul, false_and, and_false, true_and, and_true, ne_eq, not_true_eq_false, not_false_eq_true, b2_z, b2_o, b2_n, b2_01, nar_b, nar_0, nar_1, Bool.false_eq_true, Bool.true_eq_false]
      exact hc.2.2.2.1 p l hp hl
  have hb2 : ∀ F, sx_ (fun z => a ≤ z ∧ z ≤ a + 2) D F → ∀ p, p < M.2.1 → F.1 (b + 2) p = b2_ (M.2.2.2.2 p) := fun F hF p hp => by
    rw [(hF (b + 2) (by omega)).1]
    exact hc.2.2.2.2 p hp
  obtain ⟨D', e1, e2, e3, e4⟩ := lp_ (fun i (F : dy_) => k14_61 w (d + 1) a b (nI i) F) (fun i F => (∀ p, p < i → F.1 (a + 2) p = b2_ (M.2.2.2.2 p)) ∧ sx_ (fun z => z = a + 2) E F ∧ sx_ (fun z => a ≤ z ∧ z ≤ a + 2) D F) (M.2.1) (s := E) (by
    rintro i F hi ⟨t1, t2, t3⟩
    refine ⟨dI_ F (a + 2) i (b2_ (M.2.2.2.2 i)), ?_, fun p hp => ?_, sx_1 t2 rfl, sx_1 t3 (by omega)⟩
    · show k14_61 w (d + 1) a b (nI i) F = _
      rw [e14_61 ha hb]
      simp (disch := omega) only [nI_add, pk_mul, nI_clamp, nI_leI, nI_ltI, nI_eq, inb_, iz1_, iz2_, iz3_, iz4_, iz5_, reduceIte, if_pos, if_neg, op_os, op_vIs, op_vLs, op_vRs, op_vNs, dI_at, dL_at, dI_2, dL_1, Nat.reduceEqDiff, Nat.reduceAdd, Nat.reduceMul, false_and, and_false, true_and, and_true, ne_eq, not_true_eq_false, not_false_eq_true, b2_z, b2_o, b2_n, b2_01, nar_b, nar_0, nar_1, Bool.false_eq_true, Bool.true_eq_false, (t2 a (by omega)).1, f1.2.1, hb2 F t3 i hi]
    · simp (disch := omega) only [nI_add, pk_mul, nI_clamp, nI_leI, nI_ltI, nI_eq, inb_, iz1_, iz2_, iz3_, iz4_, iz5_, reduceIte, op_os, op_vIs, op_vLs, op_vRs, op_vNs, dI_at, dL_at, dI_2, dL_1, Nat.reduceEqDiff, Nat.reduceAdd, Nat.reduceMul, false_and, and_false, true_and, and_true, ne_eq, not_true_eq_false, not_false_eq_true, b2_z, b2_o, b2_n, b2_01, nar_b, nar_0, nar_1, Bool.false_eq_true, Bool.true_eq_false]
      by_cases z : p = i
      · rw [if_pos z, z]
      · rw [if_neg z]
        exact t1 p (by omega)) ⟨fun p hp => absurd hp (by omega), sx_r _ _, s1⟩
  refine ⟨D', e1.trans ?_, ⟨?_, ?_, ?_, fun p l hp hl => ?_, e2⟩, e4⟩
  · show k14_61 w (d + 1) a b (nI (M.2.1)) D' = _
    rw [e14_61 ha hb]
    simp (disch := omega) only [nI_add, pk_mul, nI_clamp, nI_leI, nI_ltI, nI_eq, inb_, iz1_, iz2_, iz3_, iz4_, iz5_, reduceIte, if_pos, if_neg, op_os, op_vIs, op_vLs, op_vRs, op_vNs, dI_at, dL_at, dI_2, dL_1, Nat.reduceEqDiff, Nat.reduceAdd, Nat.reduceMul, false_and, and_false, true_and, and_true, ne_eq, not_true_eq_false, not_false_eq_true, b2_z, b2_o, b2_n, b2_01, nar_b, nar_0, nar_1, Bool.false_eq_true, Bool.true_eq_false, (e3 a (by omega)).1, f1.2.1, Nat.le_refl]
  · rw [(e3 a (by omega)).1]; exact f1.1
  · rw [(e3 a (by omega)).1]; exact f1.2.1
  · rw [(e3 a (by omega)).1]; exact f1.2.2.1
  · rw [(e3 (a + 1) (by omega)).1]; exact f1.2.2.2 p l hp hl
theorem ml_30 : 30 ∈ ml_ := by decide +kernel
theorem ml_33 : 33 ∈ ml_ := by decide +kernel
theorem cap_30 : cap_ 30 = 1 := by decide +kernel
theorem cap_33 : cap_ 33 = 1 := by decide +kernel
/-- arrange -/
theorem x64 {a : Nat} (ha : a ∈ ml_) (ha24 : a ≠ 24) (hc : cm_ D a M) (hM : wm_ M) (hn : M.2.1 ≤ 60) (hcap : M.2.1 ≤ cap_ a) (h30 : cm_ D 30 n1_) (hf : D.1 24 4 = nI 0) : ∃ D', k64_0 w (d + 3) a D = some (none, D') ∧ cm_ D' 24 (lfm_ M) ∧ sx_ pw_ D D' := by
  obtain ⟨D', e1, e2, e3, e4⟩ := x72 (w := w) (d := d) (h := 1) ha ml_30 ha24 (by decide) hc h30 hM n1_wm hn (by decide) hcap (by rw [cap_30]; decide) (by decide) (p := M.2.2.1) (q := 0) ⟨hM.2.2.1, Nat.zero_lt_one⟩ hf
  refine ⟨D', ?_, cm_em e2 (em_s (lfm_bm hM hn)), e4⟩
  rw [e64_0 ha, hc.2.2.1]
  simp (disch := omega) only [nI_add, pk_mul, nI_clamp, nI_leI, nI_ltI, nI_eq, inb_, iz1_, iz2_, iz3_, iz4_, iz5_, reduceIte, if_pos, if_neg, op_os, op_vIs, op_vLs, op_vRs, op_vNs, dI_at, dL_at, dI_2, dL_1, Nat.reduceEqDiff, Nat.reduceAdd, Nat.reduceMul, false_and, and_false, true_and, and_true, ne_eq, not_true_eq_false, not_false_eq_true, b2_z, b2_o, b2_n, b2_01, nar_b, nar_0, nar_1, Bool.false_eq_true, Bool.true_eq_false, e1]
/-- drop -/
theorem x123 {m : Nat} (hm : m < 110) (h : bg_ D M) (hM : wm_ M) (hs : M.2.2.1 = 0) (hn : M.2.1 ≤ 60) : ∃ D', k123_0 w (d + 1) (nI m) D = some (some (.int (b2_ true)), D') ∧ rm_ D' m M ∧ om_ m D D' := by
  have hk := hM.1
  obtain ⟨b1, b2, b3, b4⟩ := h
  generalize hE : dI_ (dI_ (dI_ D 352 m (nI (M.1))) 353 m (nI (M.2.1))) 354 m (nI 0) = E
  have o1 : om_ m D E := by
    rw [← hE]
    exact om_t (om_t (om_I (Or.inr (Or.inl ⟨by omega, rfl⟩))) (om_I (Or.inr (Or.inl ⟨by omega, rfl⟩)))) (om_I (Or.inr (Or.inl ⟨by omega, rfl⟩)))
  obtain ⟨D', e1, e2, e3, e4, e5⟩ := lp_ (fun i (F : dy_) => k123_40 w (d + 1) (nI m) (nI i) F) (fun i F => (F.1 352 m = nI (M.1) ∧ F.1 353 m = nI (M.2.1) ∧ F.1 354 m = nI 0) ∧ (∀ p l, p < i → l < M.1 → F.1 355 (4 * (60 * m + p) + l) = nI (M.2.2.2.1 p l)) ∧ (∀ p, p < i → F.1 356 (60 * m + p) = b2_ (M.2.2.2.2 p)) ∧ om_ m D F) (M.2.1) (s := E) (by
    rintro i F hi ⟨t0, t1, t2, t3⟩
    have g1 : ∀ G, om_ m D G → G.1 351 8 = nI (M.1) ∧ G.1 351 9 = nI (M.2.1) ∧ G.1 359 i = b2_ (M.2.2.2.2 i) ∧ ∀ l, l < M.1 → G.1 358 (4 * i + l) = nI (M.2.2.2.1 i l) := fun G hG => ⟨by rw [hG.2.2.1 8 (by omega)]; exact b1, by rw [hG.2.2.1 9 (by omega)]; exact b2, by rw [hG.2.1 359 (by omega)]; exact b4 i hi, fun l hl => by rw [hG.2.1 358 (by omega)]; exact b3 i l hi hl⟩
    obtain ⟨F', f1, f0, f2, f3, f4⟩ := lp_ (fun l (F' : dy_) => k123_67 w (d + 1) (nI m) (nI i) (nI l) F') (fun l F' => (F'.1 352 m = nI (M.1) ∧ F'.1 353 m = nI (M.2.1) ∧ F'.1 354 m = nI 0) ∧ (∀ p l', (p < i ∨ p = i ∧ l' < l) → l' < M.1 → F'.1 355 (4 * (60 * m + p) + l') = nI (M.2.2.2.1 p l')) ∧ (∀ p, p < i + 1 → F'.1 356 (60 * m + p) = b2_ (M.2.2.2.2 p)) ∧ om_ m D F') (M.1) (s := dI_ F 356 (60 * m + i) (b2_ (M.2.2.2.2 i))) (by
      rintro l F' hl ⟨u0, u1, u2, u3⟩
      have g2 := g1 F' u3
      refine ⟨dI_ F' 355 (4 * (60 * m + i) + l) (nI (M.2.2.2.1 i l)), ?_, ⟨by simp (disch := omega) only [nI_add, pk_mul, nI_clamp, nI_leI, nI_ltI, nI_eq, inb_, iz1_, iz2_, iz3_, iz4_, iz5_, reduceIte, if_pos, if_neg, op_os, op_vIs, op_vLs, op_vRs, op_vNs, dI_at, dL_at, dI_2, dL_1, Nat.reduceEqDiff, Nat.reduceAdd, Nat.reduceMul, false_and, and_false, true_and, and_true, ne_eq, not_true_eq_false, not_false_eq_true, b2_z, b2_o, b2_n, b2_01, nar_b, nar_0, nar_1, Bool.false_eq_true, Bool.true_eq_false]; exact u0.1, by simp (disch := omega) only [nI_add, pk_mul, nI_clamp, nI_leI, nI_ltI, nI_eq, inb_, iz1_, iz2_, iz3_, iz4_, iz5_, reduceIte, if_pos, if_neg, op_os, op_vIs, op_vLs, op_vRs, op_vNs, dI_at, dL_at, dI_2, dL_1, Nat.reduceEqDiff, Nat.reduceAdd, Nat.reduceMul, false_and, and_false, true_and, and_true, ne_eq, not_true_eq_false, not_false_eq_true, b2_z, b2_o, b2_n, b2_01, nar_b, nar_0, nar_1, Bool.false_eq_true, Bool.true_eq_false]; exact u0.2.1, by simp (disch := omega) only [nI_add, pk_mul, nI_clamp, nI_leI, nI_ltI, nI_eq, inb_, iz1_, iz2_, iz3_, iz4_, iz5_, reduceIte, if_pos, if_neg, op_os, op_vIs, op_vLs, op_vRs, op_vNs, dI_at, dL_at, dI_2, dL_1, Nat.reduceEqDiff, Nat.reduceAdd, Nat.reduceMul, false_and, and_false, true_and, and_true, ne_eq, not_true_eq_false, not_false_eq_true, b2_z, b2_o, b2_n, b2_01, nar_b, nar_0, nar_1, Bool.false_eq_true, Bool.true_eq_false]; exact u0.2.2⟩, fun p l' hp hl' => ?_, fun p hp => by simp (disch := omega) only [nI_add, pk_mul, nI_clamp, nI_leI, nI_ltI, nI_eq, inb_, iz1_, iz2_, iz3_, iz4_, iz5_, reduceIte, if_pos, if_neg, op_os, op_vIs, op_vLs, op_vRs, op_vNs, dI_at, dL_at, dI_2, dL_1, Nat.reduceEqDiff, Nat.reduceAdd, Nat.reduceMul, false_and, and_false, true_and, and_true, ne_eq, not_true_eq_false, not_false_eq_true, b2_z, b2_o, b2_n, b2_01, nar_b, nar_0, nar_1, Bool.false_eq_true, Bool.true_eq_false]; exact u2 p hp, om_t u3 (om_I (by omega))⟩
      · show k123_67 w (d + 1) (nI m) (nI i) (nI l) F' = _
        rw [e123_67]
        simp (disch := omega) only [nI_add, pk_mul, nI_clamp, nI_leI, nI_ltI, nI_eq, inb_, iz1_, iz2_, iz3_, iz4_, iz5_, reduceIte, if_pos, if_neg, op_os, op_vIs, op_vLs, op_vRs, op_vNs, dI_at, dL_at, dI_2, dL_1, Nat.reduceEqDiff, Nat.reduceAdd, Nat.reduceMul, false_and, and_false, true_and, and_true, ne_eq, not_true_eq_false, not_false_eq_true, b2_z, b2_o, b2_n, b2_01, nar_b, nar_0, nar_1, Bool.false_eq_true, Bool.true_eq_false, g2.1, g2.2.2.2 l hl]
      · simp (disch := omega) only [nI_add, pk_mul, nI_clamp, nI_leI, nI_ltI, nI_eq, inb_, iz1_, iz2_, iz3_, iz4_, iz5_, reduceIte, op_os, op_vIs, op_vLs, op_vRs, op_vNs, dI_at, dL_at, dI_2, dL_1, Nat.reduceEqDiff, Nat.reduceAdd, Nat.reduceMul, false_and, and_false, true_and, and_true, ne_eq, not_true_eq_false, not_false_eq_true, b2_z, b2_o, b2_n, b2_01, nar_b, nar_0, nar_1, Bool.false_eq_true, Bool.true_eq_false]
        by_cases z : 4 * (60 * m + p) + l' = 4 * (60 * m + i) + l
        · rw [if_pos z, show p = i by omega, show l' = l by omega]
        · rw [if_neg z]
          exact u1 p l' (by omega) hl') ⟨⟨by simp (disch := omega) only [nI_add, pk_mul, nI_clamp, nI_leI, nI_ltI, nI_eq, inb_, iz1_, iz2_, iz3_, iz4_, iz5_, reduceIte, if_pos, if_neg, op_os, op_vIs, op_vLs, op_vRs, op_vNs, dI_at, dL_at, dI_2, dL_1, Nat.reduceEqDiff, Nat.reduceAdd, Nat.reduceMul, false_and, and_false, true_and, and_true, ne_eq, not_true_eq_false, not_false_eq_true, b2_z, b2_o, b2_n, b2_01, nar_b, nar_0, nar_1, Bool.false_eq_true, Bool.true_eq_false]; exact t0.1, by simp (disch := omega) only [nI_add, pk_mul, nI_clamp, nI_leI, nI_ltI, nI_eq, inb_, iz1_, iz2_, iz3_, iz4_, iz5_, reduceIte, if_pos, if_neg, op_os, op_vIs, op_vLs, op_vRs, op_vNs, dI_at, dL_at, dI_2, dL_1, Nat.reduceEqDiff, Nat.reduceAdd, Nat.reduceMul, false_and, and_false, true_and, and_true, ne_eq, not_true_eq_false, not_false_eq_true, b2_z, b2_o, b2_n, b2_01, nar_b, nar_0, nar_1, Bool.false_eq_true, Bool.true_eq_false]; exact t0.2.1, by simp (disch := omega) only [nI_add, pk_mul, nI_clamp, nI_leI, nI_ltI, nI_eq, inb_, iz1_, iz2_, iz3_, iz4_, iz5_, reduceIte, if_pos, if_neg, op_os, op_vIs, op_vLs, op_vRs, op_vNs, dI_at, dL_at, dI_2, dL_1, Nat.reduceEqDiff, Nat.reduceAdd, Nat.reduceMul, false_and, and_false, true_and, and_true, ne_eq, not_true_eq_false, not_false_eq_true, b2_z, b2_o, b2_n, b2_01, nar_b, nar_0, nar_1, Bool.false_eq_true, Bool.true_eq_false]; exact t0.2.2⟩, fun p l' hp hl' => by simp (disch := omega) only [nI_add, pk_mul, nI_clamp, nI_leI, nI_ltI, nI_eq, inb_, iz1_, iz2_, iz3_, iz4_, iz5_, reduceIte, if_pos, if_neg, op_os, op_vIs, op_vLs, op_vRs, op_vNs, dI_at, dL_at, dI_2, dL_1, Nat.reduceEqDiff, Nat.reduceAdd, Nat.reduceMul, false_and, and_false, true_and, and_true, ne_eq, not_true_eq_false, not_false_eq_true, b2_z, b2_o, b2_n, b2_01, nar_b, nar_0, nar_1, Bool.false_eq_true, Bool.true_eq_false]; exact t1 p l' (by omega) hl', fun p hp => by
        simp (disch := omega) only [nI_add, pk_mul, nI_clamp, nI_leI, nI_ltI, nI_eq, inb_, iz1_, iz2_, iz3_, iz4_, iz5_, reduceIte, op_os, op_vIs, op_vLs, op_vRs, op_vNs, dI_at, dL_at, dI_2, dL_1, Nat.reduceEqDiff, Nat.reduceAdd, Nat.reduceMul, false_and, and_false, true_and, and_true, ne_eq, not_true_eq_false, not_false_eq_true, b2_z, b2_o, b2_n, b2_01, nar_b, nar_0, nar_1, Bool.false_eq_true, Bool.true_eq_false]
        by_cases z : 60 * m + p = 60 * m + i
        · rw [if_pos z, show p = i by omega]
        · rw [if_neg z]
          exact t2 p (by omega), om_t t3 (om_I (by omega))⟩
    refine ⟨F', ?_, f0, fun p l hp hl => f2 p l (by omega) hl, f3, f4⟩
    have g3 := g1 F t3
    show k123_40 w (d + 1) (nI m) (nI i) F = _
    rw [e123_40]
    simp (disch := omega) only [nI_add, pk_mul, nI_clamp, nI_leI, nI_ltI, nI_eq, inb_, iz1_, iz2_, iz3_, iz4_, iz5_, reduceIte, if_pos, if_neg, op_os, op_vIs, op_vLs, op_vRs, op_vNs, dI_at, dL_at, dI_2, dL_1, Nat.reduceEqDiff, Nat.reduceAdd, Nat.reduceMul, false_and, and_false, true_and, and_true, ne_eq, not_true_eq_false, not_false_eq_true, b2_z, b2_o, b2_n, b2_01, nar_b, nar_0, nar_1, Bool.false_eq_true, Bool.true_eq_false, g3.2.1, g3.2.2.1]
    refine Eq.trans (show _ = k123_67 w (d + 1) (nI m) (nI i) (nI (M.1)) F' from f1) ?_
    rw [e123_67]
    simp (disch := omega) only [nI_add, pk_mul, nI_clamp, nI_leI, nI_ltI, nI_eq, inb_, iz1_, iz2_, iz3_, iz4_, iz5_, reduceIte, if_pos, if_neg, op_os, op_vIs, op_vLs, op_vRs, op_vNs, dI_at, dL_at, dI_2, dL_1, Nat.reduceEqDiff, Nat.reduceAdd, Nat.reduceMul, false_and, and_false, true_and, and_true, ne_eq, not_true_eq_false, not_false_eq_true, b2_z, b2_o, b2_n, b2_01, nar_b, nar_0, nar_1, Bool.false_eq_true, Bool.true_eq_false, (g1 F' f4).1, Nat.le_refl]) ⟨⟨by rw [← hE]; simp (disch := omega) only [nI_add, pk_mul, nI_clamp, nI_leI, nI_ltI, nI_eq, inb_, iz1_, iz2_, iz3_, iz4_, iz5_, reduceIte, if_pos, if_neg, op_os, op_vIs, op_vLs, op_vRs, op_vNs, dI_at, dL_at, dI_2, dL_1, Nat.reduceEqDiff, Nat.reduceAdd, Nat.reduceMul, false_and, and_false, true_and, and_true, ne_eq, not_true_eq_false, not_false_eq_true, b2_z, b2_o, b2_n, b2_01, nar_b, nar_0, nar_1, Bool.false_eq_true, Bool.true_eq_false], by rw [← hE]; simp (disch := omega) only [nI_add, pk_mul, nI_clamp, nI_leI, nI_ltI, nI_eq, inb_, iz1_, iz2_, iz3_, iz4_, iz5_, reduceIte, if_pos, if_neg, op_os, op_vIs, op_vLs, op_vRs, op_vNs, dI_at, dL_at, dI_2, dL_1, Nat.reduceEqDiff, Nat.reduceAdd, Nat.reduceMul, false_and, and_false, true_and, and_true, ne_eq, not_true_eq_false, not_false_eq_true, b2_z, b2_o, b2_n, b2_01, nar_b, nar_0, nar_1, Bool.false_eq_true, Bool.true_eq_false], by rw [← hE]; simp (disch := omega) only [nI_add, pk_mul, nI_clamp, nI_leI, nI_ltI, nI_eq, inb_, iz1_, iz2_, iz3_, iz4_, iz5_, reduceIte, if_pos, if_neg, op_os, op_vIs, op_vLs, op_vRs, op_vNs, dI_at, dL_at, dI_2, dL_1, Nat.reduceEqDiff, Nat.reduceAdd, Nat.reduceMul, false_and, and_false, true_and, and_true, ne_eq, not_true_eq_false, not_false_eq_true, b2_z, b2_o, b2_n, b2_01, nar_b, nar_0, nar_1, Bool.false_eq_true, Bool.true_eq_false]⟩, fun p l hp => absurd hp (by omega), fun p hp => absurd hp (by omega), o1⟩
  refine ⟨D', ?_, ⟨e2.1, e2.2.1, by rw [hs]; exact e2.2.2, fun p l hp hl => e3 p l hp hl, e4⟩, e5⟩
  rw [e123_0]
  simp (disch := omega) only [nI_add, pk_mul, nI_clamp, nI_leI, nI_ltI, nI_eq, inb_, iz1_, iz2_, iz3_, iz4_, iz5_, reduceIte, if_pos, if_neg, op_os, op_vIs, op_vLs, op_vRs, op_vNs, dI_at, dL_at, dI_2, dL_1, Nat.reduceEqDiff, Nat.reduceAdd, Nat.reduceMul, false_and, and_false, true_and, and_true, ne_eq, not_true_eq_false, not_false_eq_true, b2_z, b2_o, b2_n, b2_01, nar_b, nar_0, nar_1, Bool.false_eq_true, Bool.true_eq_false, b1, b2]
  rw [hE]
  refine Eq.trans (show _ = k123_40 w (d + 1) (nI m) (nI (M.2.1)) D' from e1) ?_
  rw [e123_40, e5.2.2.1 9 (by omega)]
  simp (disch := omega) only [nI_add, pk_mul, nI_clamp, nI_leI, nI_ltI, nI_eq, inb_, iz1_, iz2_, iz3_, iz4_, iz5_, reduceIte, if_pos, if_neg, op_os, op_vIs, op_vLs, op_vRs, op_vNs, dI_at, dL_at, dI_2, dL_1, Nat.reduceEqDiff, Nat.reduceAdd, Nat.reduceMul, false_and, and_false, true_and, and_true, ne_eq, not_true_eq_false, not_false_eq_true, b2_z, b2_o, b2_n, b2_01, nar_b, nar_0, nar_1, Bool.false_eq_true, Bool.true_eq_false, b2, Nat.le_refl]
  rfl
theorem x123f {m : Nat} (h : bg_ D M) (hn : 60 < M.2.1) (hn' : M.2.1 ≤ 3600) : k123_0 w (d + 1) (nI m) D = some (some (.int (b2_ false)), D) := by
  rw [e123_0]
  simp (disch := omega) only [nI_add, pk_mul, nI_clamp, nI_leI, nI_ltI, nI_eq, inb_, iz1_, iz2_, iz3_, iz4_, iz5_, reduceIte, if_pos, if_neg, op_os, op_vIs, op_vLs, op_vRs, op_vNs, dI_at, dL_at, dI_2, dL_1, Nat.reduceEqDiff, Nat.reduceAdd, Nat.reduceMul, false_and, and_false, true_and, and_true, ne_eq, not_true_eq_false, not_false_eq_true, b2_z, b2_o, b2_n, b2_01, nar_b, nar_0, nar_1, Bool.false_eq_true, Bool.true_eq_false, h.2.1]
  rfl
theorem bo_order (hS : ok_ S) (s : Int32) : bo_ S B (fun D => k88_0 w (d + 200) s D) (fun D => k128_0 w (d + 200) s D) := by
  by_cases c1 : ls_ 6 s = true
  · obtain ⟨i, rfl, hi⟩ := ls_t (by omega) c1
    obtain ⟨hM, hn⟩ := hS.1 i hi
    obtain ⟨lw, ln⟩ := lfm_wm hM hn
    have hn2 : (lfm_ (S.1 i)).2.1 ≤ 60 := by omega
    refine bo_i (.int (nI ((lfm_ (S.1 i)).2.1))) (us_ S i (lfm_ (S.1 i))) (us_ok hS lw hn2) (fun D h => ?_) (fun D h => ?_)
    · have hc := h.1 i hi
      obtain ⟨D1, e1, e2, e3⟩ := x64 (w := w) (d := d + 196) (sl_ hi).2 (by omega) hc hM hn (by rw [sl4_ hi]; exact hn) h.2.2.2.1.1 h.2.2.2.2.1
      obtain ⟨D2, f1, f2, f3⟩ := x14 (w := w) (d := d + 198) (a := 3 + 3 * i) (b := 24) (sl_ hi).2 ml_24 (by omega) e2 lw (by rw [sl4_ hi]; exact hn2) (by rw [cap_24]; omega)
      have fr : ∀ b, ¬ wk_ i b → D2.1 b = D.1 b := fun b hb => by
        rw [(f3 b (fun z => hb (Or.inl z))).1, (e3 b (fun z => hb (by unfold pw_ at z; unfold wk_; omega))).1]
      refine ⟨D2, ?_, rc_us h hi f2 fr (rsp_m (rsp_fw h.2.2.2.2 ?_ ?_ ?_) (by omega)), fun b hb => ?_⟩
      · rw [e88_0, x106s, c1]
        simp (disch := omega) only [nI_add, pk_mul, nI_clamp, nI_leI, nI_ltI, nI_eq, inb_, iz1_, iz2_, iz3_, iz4_, iz5_, reduceIte, if_pos, if_neg, op_os, op_vIs, op_vLs, op_vRs, op_vNs, dI_at, dL_at, dI_2, dL_1, Nat.reduceEqDiff, Nat.reduceAdd, Nat.reduceMul, false_and, and_false, true_and, and_true, ne_eq, not_true_eq_false, not_false_eq_true, b2_z, b2_o, b2_n, b2_01, nar_b, nar_0, nar_1, Bool.false_eq_true, Bool.true_eq_false, sl1_, sl2_, e1, f1, f2.2.1]
      · rw [(f3 24 (by omega)).1]
        exact e2.2.2.1
      · rw [(f3 41 (by omega)).1, (e3 41 (by unfold pw_; omega)).1]
      · rw [(f3 44 (by omega)).1, (e3 44 (by unfold pw_; omega)).1]
      · rw [(f3 b (by omega)).1, (f3 b (by omega)).2, (e3 b (by unfold pw_; omega)).1, (e3 b (by unfold pw_; omega)).2]
        exact ⟨rfl, rfl⟩
    · have h' := mr_0 (v := nI 0) h
      obtain ⟨D1, e1, e2, e3⟩ := x122 (w := w) (d := d + 197) (show i < 110 by omega) (h'.1 i hi) hM hn
      obtain ⟨D2, f1, f2, f3⟩ := x123 (w := w) (d := d + 198) (m := i) (by omega) e2 lw rfl hn2
      refine ⟨D2, ?_, mr_om hS (mr_rw h' e3) f2 f3, lw_t (lw_I (by omega)) (lw_t (lw_rw e3) (lw_om f3))⟩
      rw [e128_0, x114s, c1]
      simp (disch := omega) only [nI_add, pk_mul, nI_clamp, nI_leI, nI_ltI, nI_eq, inb_, iz1_, iz2_, iz3_, iz4_, iz5_, reduceIte, if_pos, if_neg, op_os, op_vIs, op_vLs, op_vRs, op_vNs, dI_at, dL_at, dI_2, dL_1, Nat.reduceEqDiff, Nat.reduceAdd, Nat.reduceMul, false_and, and_false, true_and, and_true, ne_eq, not_true_eq_false, not_false_eq_true, b2_z, b2_o, b2_n, b2_01, nar_b, nar_0, nar_1, Bool.false_eq_true, Bool.true_eq_false, e1, f1, f2.2.1]
  · refine bo_o (.int (-102)) hS (fun D h => ?_) (fun D h => ?_)
    · rw [e88_0, x106s, bf_ c1]
      rfl
    · rw [e128_0, x114s, bf_ c1]
      rfl
end ORD
