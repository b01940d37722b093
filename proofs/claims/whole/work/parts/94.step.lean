/-! THE REFERENCE: one character -/
/-- the reference's cells hold a state of the pure run -/
def zr_ (k : Nat) (D : dy_) (s : zs_) : Prop := tz_ k D s.2.2.2.length s.1 s.2.1 s.2.2.1 ∧ flz_ k D s.2.2.2 ∧ s.2.2.2.length ≤ 30 ∧ s.2.2.1 ≤ 30 ∧ (s.2.2.1 = 0 ∨ s.2.1 = none)
/-- what a step gives -/
def zq_ (k : Nat) (D : dy_) (E : rd_) (r : Option zs_) : Prop := ∃ D', E = some (none, D') ∧ lof_ 0 D D' ∧ (∀ s', r = some s' → zr_ k D' s') ∧ (r = none → D'.1 351 36 = nI 0)
section
variable {w : (Nat → Int32) × Nat} {d k f q : Nat} {D : dy_} {F : f3_} {C O A R : Option ma_} {fs : List (f3_ × Nat)}
theorem zq_s {D' : dy_} {E : rd_} {s' : zs_} (h : E = some (none, D')) (l : lof_ 0 D D') (g : zr_ k D' s') : zq_ k D E (some s') := ⟨D', h, l, fun s e => (by cases e; exact g), fun e => (by cases e)⟩
theorem zq_n {D' : dy_} {E : rd_} (h : E = some (none, D')) (l : lof_ 0 D D') (g : D'.1 351 36 = nI 0) : zq_ k D E none := ⟨D', h, l, fun s e => (by cases e), fun _ => g⟩
theorem frz_az {g : Nat} {D' : dy_} (h : frz_ k D g F) (a : az_ D D') (hg : g ≤ 30) : frz_ k D' g F := by
  obtain ⟨⟨h1, h2, h3⟩, h4, h5, h6⟩ := h
  refine ⟨⟨by rw [a.2.1 378 (by omega)]; exact h1, by rw [a.2.1 379 (by omega)]; exact h2, by rw [a.2.1 380 (by omega)]; exact h3⟩, fun M e => ⟨(h4 M e).1, a.2.2.2 _ M (by omega) (vok_b (h4 M e).1) (h4 M e).2⟩, fun M e => ⟨(h5 M e).1, a.2.2.2 _ M (by omega) (vok_b (h5 M e).1) (h5 M e).2⟩, fun M e => ⟨(h6 M e).1, a.2.2.2 _ M (by omega) (vok_b (h6 M e).1) (h6 M e).2⟩⟩
theorem tz_az {D' : dy_} {C0 : Option ma_} {q0 : Nat} (hk : 1 ≤ k ∧ k ≤ 4) (hf : f ≤ 30) (h : tz_ k D f F C0 q0) (a : az_ D D') (h36 : D'.1 351 36 = nI 1) (h38 : D'.1 351 38 = nI q) (h43 : D'.1 351 43 = b2_ C.isSome) (hC : hvz_ k D' 105 C) : tz_ k D' f F C q := ⟨⟨(a.1 35 (by omega)).trans h.1.1, h36, (a.1 37 (by omega)).trans h.1.2.2.1, h38, h43⟩, hC, a.2.2.2 104 _ (by omega) ⟨show 2 ≤ 60 by omega, hk.2⟩ h.2.2.1, frz_az h.2.2.2 a hf⟩
/-- push -/
theorem x157 {g : Nat} (hg : g < 40) (h37 : D.1 351 37 = nI g) (h38 : D.1 351 38 = nI q) : k157_0 w (d + 1) D = some (none, dI_ (dI_ (dI_ (dI_ (dI_ (dI_ (dI_ D 378 g (b2_ false)) 379 g (b2_ false)) 380 g (b2_ false)) 377 g (nI q)) 351 38 (nI 0)) 351 37 (nI (g + 1))) 351 43 (nI 0)) := by
  rw [e157_0]
  simp (disch := omega) only [nI_add, pk_mul, nI_clamp, nI_leI, nI_ltI, nI_eq, inb_, iz1_, iz2_, iz3_, iz4_, iz5_, reduceIte, if_pos, if_neg, op_os, op_vIs, op_vLs, op_vRs, op_vNs, dI_at, dL_at, dI_2, dL_1, Nat.reduceEqDiff, Nat.reduceAdd, Nat.reduceMul, false_and, and_false, true_and, and_true, ne_eq, not_true_eq_false, not_false_eq_true, b2_z, b2_o, b2_n, b2_01, nar_b, nar_0, nar_1, Bool.false_eq_true, Bool.true_eq_false, h37, h38]
/-- flush, where no not stands open -/
theorem x158i (hk : 1 ≤ k ∧ k ≤ 4) (hz : zr_ k D ((O, A, R), C, q, fs)) : ∃ E, lof_ fs.length D E ∧ (∀ R', flu_ R C = some R' → tz_ k E fs.length (O, A, R') none q) ∧ (flu_ R C = none → td_ E fs.length q) ∧ ∀ K : dy_ → rd_, (if D.1 351 38 ≠ nI 0 then K D else op_o (k158_0 w (d + 9) D) none (fun p => op_vN p.1 none (K p.2))) = K E := by
  obtain ⟨hT, hL, hf, hq, hi⟩ := hz
  have h38 : D.1 351 38 = nI q := hT.1.2.2.2.1
  have hq' : q ≤ 30 := hq
  by_cases z : q = 0
  · obtain ⟨E, a1, a2, a3, a4⟩ := x158 (w := w) (d := d + 2) hk hf hT
    refine ⟨E, a2, a3, a4, fun K => ?_⟩
    rw [h38, if_neg (fun y => y (by rw [z])), a1, op_os, op_vNs]
  · have hC : C = none := hi.resolve_left z
    subst hC
    refine ⟨D, lof_r _ _, fun R' e => ?_, fun e => (by cases e), fun K => ?_⟩
    · have e' : some R = some R' := e
      cases e'
      exact hT
    · rw [h38, if_pos (by rw [ne_eq, nI_eq (by omega) (by omega)]; exact z)]
theorem z162p {c : Nat} (hk : 1 ≤ k ∧ k ≤ 4) (hc : c < 256) (hp : ipl_ k c = true) (hz : zr_ k D ((O, A, R), C, q, fs)) : zq_ k D (k162_0 w (d + 10) (nI c) D) (zst_ k c ((O, A, R), C, q, fs)) := by
  obtain ⟨E, l, a3, a4, hK⟩ := x158i (w := w) (d := d) hk hz
  obtain ⟨hT, hL, hf, hq, hi⟩ := hz
  have hf' : fs.length ≤ 30 := hf
  have hq' : q ≤ 30 := hq
  have top : k162_0 w (d + 10) (nI c) D = k162_22 w (d + 10) (nI c) E := by
    rw [e162_0, hT.1.1, x150 hk hc, op_os, op_vIs, hp, if_neg (by decide)]
    exact hK (fun E => k162_22 w (d + 10) (nI c) E)
  have e35 : E.1 351 35 = nI k := (l.1.1 35 (by omega)).trans hT.1.1
  obtain ⟨E1, u1, u2, u3, u4⟩ := x156 (w := w) (d := d + 5) (m := 105) (by omega) hk hp e35
  have est : zst_ k c ((O, A, R), C, q, fs) = (flu_ R C).bind fun R' => (nots_ q (lv_ k c)).bind fun V => some ((O, A, R'), some V, 0, fs) := by
    unfold zst_
    rw [if_pos hp]
  have lE : lof_ fs.length D E1 := lof_t l (lof_gz u2 (by omega) (by omega))
  rw [est]
  cases eR : flu_ R C with
  | none =>
    have td := a4 eR
    obtain ⟨D', b1, b2, b3⟩ := x161d (w := w) (d := d + 2) q E1 (by omega) (u3.trans td.1) ((u2.1 38 (by omega)).trans td.2.2)
    refine zq_n (D' := D') ?_ (lof_m (lof_t lE (lof_az b2 hf)) (Nat.zero_le _)) b3
    rw [top, e162_22, u1, op_os, op_vNs, b1]
    rfl
  | some R' =>
    have tz := a3 R' eR
    obtain ⟨D', b1, b2, b3, b4⟩ := x161 (w := w) (d := d + 2) (k := k) q (lv_ k c) E1 (by omega) (lv_ok hk) u4 (u3.trans tz.1.2.1) ((u2.1 38 (by omega)).trans tz.1.2.2.2.1)
    have hE : k162_0 w (d + 10) (nI c) D = some (none, D') := by
      rw [top, e162_22, u1, op_os, op_vNs, b1]
      rfl
    have lD := lof_t lE (lof_az b2 hf)
    show zq_ k D _ ((nots_ q (lv_ k c)).bind fun V => some ((O, A, R'), some V, 0, fs))
    cases en : nots_ q (lv_ k c) with
    | none => exact zq_n hE (lof_m lD (Nat.zero_le _)) (b4 en)
    | some V =>
      obtain ⟨⟨v1, v2, v3⟩, v4, v5⟩ := b3 V en
      exact zq_s hE (lof_m lD (Nat.zero_le _)) ⟨tz_az hk hf tz (az_t (az_gz u2) b2) v1 v2 v3 (hvz_s v4 v5), flz_l hL lD (Nat.le_refl _), hf, Nat.zero_le _, Or.inl rfl⟩
theorem z162o {c : Nat} (hk : 1 ≤ k ∧ k ≤ 4) (hc : c = 40 ∨ c = 33) (hg : zg_ k c ((O, A, R), C, q, fs)) (hz : zr_ k D ((O, A, R), C, q, fs)) : zq_ k D (k162_0 w (d + 10) (nI c) D) (zst_ k c ((O, A, R), C, q, fs)) := by
  obtain ⟨E, l, a3, a4, hK⟩ := x158i (w := w) (d := d) hk hz
  obtain ⟨hT, hL, hf, hq, hi⟩ := hz
  have hf' : fs.length ≤ 30 := hf
  have hq' : q ≤ 30 := hq
  have np : ¬ ipl_ k c = true := ipl_m hk.2 (by omega)
  have top : k162_0 w (d + 10) (nI c) D = k162_59 w (d + 10) (nI c) E := by
    rw [e162_0, hT.1.1, x150 hk (by omega), op_os, op_vIs, Bool.eq_false_iff.mpr np, if_pos b2f_]
    have : k162_48 w (d + 10) (nI c) D = k162_59 w (d + 10) (nI c) E := by
      rw [e162_48]
      exact hK (fun E => k162_59 w (d + 10) (nI c) E)
    rcases hc with rfl | rfl
    · rw [if_pos rfl]
      exact this
    · rw [if_neg (by decide), if_neg (fun z => z rfl)]
      exact this
  rcases hc with rfl | rfl
  · have hg1 : fs.length < 30 := hg.1 rfl
    have est : zst_ k 40 ((O, A, R), C, q, fs) = (flu_ R C).bind fun R' => some ((none, none, none), none, 0, ((O, A, R'), q) :: fs) := by
      unfold zst_
      rw [if_neg np, if_pos rfl]
    have top2 : E.1 351 37 = nI (fs.length + 1) → E.1 351 38 = nI q → k162_0 w (d + 10) (nI 40) D = some (none, dI_ (dI_ (dI_ (dI_ (dI_ (dI_ (dI_ E 378 (fs.length + 1) (b2_ false)) 379 (fs.length + 1) (b2_ false)) 380 (fs.length + 1) (b2_ false)) 377 (fs.length + 1) (nI q)) 351 38 (nI 0)) 351 37 (nI (fs.length + 1 + 1))) 351 43 (nI 0)) := by
      intro h37 h38
      rw [top, e162_59, if_pos (by decide), x157 (by omega) h37 h38]
      rfl
    have lD : lof_ fs.length D (dI_ (dI_ (dI_ (dI_ (dI_ (dI_ (dI_ E 378 (fs.length + 1) (b2_ false)) 379 (fs.length + 1) (b2_ false)) 380 (fs.length + 1) (b2_ false)) 377 (fs.length + 1) (nI q)) 351 38 (nI 0)) 351 37 (nI (fs.length + 1 + 1))) 351 43 (nI 0)) := lof_t l (lof_t (lof_t (lof_t (lof_t (lof_t (lof_t (lof_I (by omega)) (lof_I (by omega))) (lof_I (by omega))) (lof_I (by omega))) (lof_I (by omega))) (lof_I (by omega))) (lof_I (by omega)))
    rw [est]
    cases eR : flu_ R C with
    | none =>
      have td := a4 eR
      refine zq_n (top2 td.2.1 td.2.2) (lof_m lD (Nat.zero_le _)) ?_
      simp (disch := omega) only [nI_add, pk_mul, nI_clamp, nI_leI, nI_ltI, nI_eq, inb_, iz1_, iz2_, iz3_, iz4_, iz5_, reduceIte, if_pos, if_neg, op_os, op_vIs, op_vLs, op_vRs, op_vNs, dI_at, dL_at, dI_2, dL_1, Nat.reduceEqDiff, Nat.reduceAdd, Nat.reduceMul, false_and, and_false, true_and, and_true, ne_eq, not_true_eq_false, not_false_eq_true, b2_z, b2_o, b2_n, b2_01, nar_b, nar_0, nar_1, Bool.false_eq_true, Bool.true_eq_false, td.1]
    | some R' =>
      have tz := a3 R' eR
      obtain ⟨⟨h35, h36, h37, h38, h43⟩, hC, hW, ⟨⟨h378, h379, h380⟩, hO, hA, hR⟩⟩ := tz
      refine zq_s (top2 h37 h38) (lof_m lD (Nat.zero_le _)) ⟨⟨⟨?_, ?_, ?_, ?_, ?_⟩, hvz_n, ?_, ⟨⟨?_, ?_, ?_⟩, hvz_n, hvz_n, hvz_n⟩⟩, ⟨⟨⟨?_, ?_, ?_⟩, ?_, ?_, ?_⟩, ?_, hq, ?_⟩, ?_, Nat.zero_le _, Or.inl rfl⟩
      · simp (disch := omega) only [nI_add, pk_mul, nI_clamp, nI_leI, nI_ltI, nI_eq, inb_, iz1_, iz2_, iz3_, iz4_, iz5_, reduceIte, if_pos, if_neg, op_os, op_vIs, op_vLs, op_vRs, op_vNs, dI_at, dL_at, dI_2, dL_1, Nat.reduceEqDiff, Nat.reduceAdd, Nat.reduceMul, false_and, and_false, true_and, and_true, ne_eq, not_true_eq_false, not_false_eq_true, b2_z, b2_o, b2_n, b2_01, nar_b, nar_0, nar_1, Bool.false_eq_true, Bool.true_eq_false, h35]
      · simp (disch := omega) only [nI_add, pk_mul, nI_clamp, nI_leI, nI_ltI, nI_eq, inb_, iz1_, iz2_, iz3_, iz4_, iz5_, reduceIte, if_pos, if_neg, op_os, op_vIs, op_vLs, op_vRs, op_vNs, dI_at, dL_at, dI_2, dL_1, Nat.reduceEqDiff, Nat.reduceAdd, Nat.reduceMul, false_and, and_false, true_and, and_true, ne_eq, not_true_eq_false, not_false_eq_true, b2_z, b2_o, b2_n, b2_01, nar_b, nar_0, nar_1, Bool.false_eq_true, Bool.true_eq_false, h36]
      · simp (disch := omega) only [nI_add, pk_mul, nI_clamp, nI_leI, nI_ltI, nI_eq, inb_, iz1_, iz2_, iz3_, iz4_, iz5_, reduceIte, if_pos, if_neg, op_os, op_vIs, op_vLs, op_vRs, op_vNs, dI_at, dL_at, dI_2, dL_1, Nat.reduceEqDiff, Nat.reduceAdd, Nat.reduceMul, false_and, and_false, true_and, and_true, ne_eq, not_true_eq_false, not_false_eq_true, b2_z, b2_o, b2_n, b2_01, nar_b, nar_0, nar_1, Bool.false_eq_true, Bool.true_eq_false]
        rfl
      · simp (disch := omega) only [nI_add, pk_mul, nI_clamp, nI_leI, nI_ltI, nI_eq, inb_, iz1_, iz2_, iz3_, iz4_, iz5_, reduceIte, if_pos, if_neg, op_os, op_vIs, op_vLs, op_vRs, op_vNs, dI_at, dL_at, dI_2, dL_1, Nat.reduceEqDiff, Nat.reduceAdd, Nat.reduceMul, false_and, and_false, true_and, and_true, ne_eq, not_true_eq_false, not_false_eq_true, b2_z, b2_o, b2_n, b2_01, nar_b, nar_0, nar_1, Bool.false_eq_true, Bool.true_eq_false]
      · simp (disch := omega) only [nI_add, pk_mul, nI_clamp, nI_leI, nI_ltI, nI_eq, inb_, iz1_, iz2_, iz3_, iz4_, iz5_, reduceIte, if_pos, if_neg, op_os, op_vIs, op_vLs, op_vRs, op_vNs, dI_at, dL_at, dI_2, dL_1, Nat.reduceEqDiff, Nat.reduceAdd, Nat.reduceMul, false_and, and_false, true_and, and_true, ne_eq, not_true_eq_false, not_false_eq_true, b2_z, b2_o, b2_n, b2_01, nar_b, nar_0, nar_1, Bool.false_eq_true, Bool.true_eq_false]
        rfl
      · exact rm_I (rm_I (rm_I (rm_I (rm_I (rm_I (rm_I hW (by omega)) (by omega)) (by omega)) (by omega)) (by omega)) (by omega)) (by omega)
      · show _ = b2_ false
        rw [show ((((O, A, R'), q) :: fs : List (f3_ × Nat))).length = fs.length + 1 from rfl]
        simp (disch := omega) only [nI_add, pk_mul, nI_clamp, nI_leI, nI_ltI, nI_eq, inb_, iz1_, iz2_, iz3_, iz4_, iz5_, reduceIte, if_pos, if_neg, op_os, op_vIs, op_vLs, op_vRs, op_vNs, dI_at, dL_at, dI_2, dL_1, Nat.reduceEqDiff, Nat.reduceAdd, Nat.reduceMul, false_and, and_false, true_and, and_true, ne_eq, not_true_eq_false, not_false_eq_true, b2_z, b2_o, b2_n, b2_01, nar_b, nar_0, nar_1, Bool.false_eq_true, Bool.true_eq_false]
      · show _ = b2_ false
        rw [show ((((O, A, R'), q) :: fs : List (f3_ × Nat))).length = fs.length + 1 from rfl]
        simp (disch := omega) only [nI_add, pk_mul, nI_clamp, nI_leI, nI_ltI, nI_eq, inb_, iz1_, iz2_, iz3_, iz4_, iz5_, reduceIte, if_pos, if_neg, op_os, op_vIs, op_vLs, op_vRs, op_vNs, dI_at, dL_at, dI_2, dL_1, Nat.reduceEqDiff, Nat.reduceAdd, Nat.reduceMul, false_and, and_false, true_and, and_true, ne_eq, not_true_eq_false, not_false_eq_true, b2_z, b2_o, b2_n, b2_01, nar_b, nar_0, nar_1, Bool.false_eq_true, Bool.true_eq_false]
      · show _ = b2_ false
        rw [show ((((O, A, R'), q) :: fs : List (f3_ × Nat))).length = fs.length + 1 from rfl]
        simp (disch := omega) only [nI_add, pk_mul, nI_clamp, nI_leI, nI_ltI, nI_eq, inb_, iz1_, iz2_, iz3_, iz4_, iz5_, reduceIte, if_pos, if_neg, op_os, op_vIs, op_vLs, op_vRs, op_vNs, dI_at, dL_at, dI_2, dL_1, Nat.reduceEqDiff, Nat.reduceAdd, Nat.reduceMul, false_and, and_false, true_and, and_true, ne_eq, not_true_eq_false, not_false_eq_true, b2_z, b2_o, b2_n, b2_01, nar_b, nar_0, nar_1, Bool.false_eq_true, Bool.true_eq_false]
      · simp (disch := omega) only [nI_add, pk_mul, nI_clamp, nI_leI, nI_ltI, nI_eq, inb_, iz1_, iz2_, iz3_, iz4_, iz5_, reduceIte, if_pos, if_neg, op_os, op_vIs, op_vLs, op_vRs, op_vNs, dI_at, dL_at, dI_2, dL_1, Nat.reduceEqDiff, Nat.reduceAdd, Nat.reduceMul, false_and, and_false, true_and, and_true, ne_eq, not_true_eq_false, not_false_eq_true, b2_z, b2_o, b2_n, b2_01, nar_b, nar_0, nar_1, Bool.false_eq_true, Bool.true_eq_false, h378]
      · simp (disch := omega) only [nI_add, pk_mul, nI_clamp, nI_leI, nI_ltI, nI_eq, inb_, iz1_, iz2_, iz3_, iz4_, iz5_, reduceIte, if_pos, if_neg, op_os, op_vIs, op_vLs, op_vRs, op_vNs, dI_at, dL_at, dI_2, dL_1, Nat.reduceEqDiff, Nat.reduceAdd, Nat.reduceMul, false_and, and_false, true_and, and_true, ne_eq, not_true_eq_false, not_false_eq_true, b2_z, b2_o, b2_n, b2_01, nar_b, nar_0, nar_1, Bool.false_eq_true, Bool.true_eq_false, h379]
      · simp (disch := omega) only [nI_add, pk_mul, nI_clamp, nI_leI, nI_ltI, nI_eq, inb_, iz1_, iz2_, iz3_, iz4_, iz5_, reduceIte, if_pos, if_neg, op_os, op_vIs, op_vLs, op_vRs, op_vNs, dI_at, dL_at, dI_2, dL_1, Nat.reduceEqDiff, Nat.reduceAdd, Nat.reduceMul, false_and, and_false, true_and, and_true, ne_eq, not_true_eq_false, not_false_eq_true, b2_z, b2_o, b2_n, b2_01, nar_b, nar_0, nar_1, Bool.false_eq_true, Bool.true_eq_false, h380]
      · exact hvz_I (hvz_I (hvz_I (hvz_I (hvz_I (hvz_I (hvz_I hO (by omega)) (by omega)) (by omega)) (by omega)) (by omega)) (by omega)) (by omega)
      · exact hvz_I (hvz_I (hvz_I (hvz_I (hvz_I (hvz_I (hvz_I hA (by omega)) (by omega)) (by omega)) (by omega)) (by omega)) (by omega)) (by omega)
      · exact hvz_I (hvz_I (hvz_I (hvz_I (hvz_I (hvz_I (hvz_I hR (by omega)) (by omega)) (by omega)) (by omega)) (by omega)) (by omega)) (by omega)
      · simp (disch := omega) only [nI_add, pk_mul, nI_clamp, nI_leI, nI_ltI, nI_eq, inb_, iz1_, iz2_, iz3_, iz4_, iz5_, reduceIte, if_pos, if_neg, op_os, op_vIs, op_vLs, op_vRs, op_vNs, dI_at, dL_at, dI_2, dL_1, Nat.reduceEqDiff, Nat.reduceAdd, Nat.reduceMul, false_and, and_false, true_and, and_true, ne_eq, not_true_eq_false, not_false_eq_true, b2_z, b2_o, b2_n, b2_01, nar_b, nar_0, nar_1, Bool.false_eq_true, Bool.true_eq_false]
      · exact flz_l hL lD (Nat.le_refl _)
      · show fs.length + 1 ≤ 30
        omega
  · have hg1 : q < 30 := hg.2.1 rfl
    have est : zst_ k 33 ((O, A, R), C, q, fs) = (flu_ R C).bind fun R' => some ((O, A, R'), none, q + 1, fs) := by
      unfold zst_
      rw [if_neg np, if_neg (by omega), if_pos rfl]
    have top2 : E.1 351 38 = nI q → k162_0 w (d + 10) (nI 33) D = some (none, dI_ E 351 38 (nI (q + 1))) := by
      intro h38
      rw [top, e162_59, if_neg (fun z => z rfl), h38, nI_add]
    have lD : lof_ fs.length D (dI_ E 351 38 (nI (q + 1))) := lof_t l (lof_I (by omega))
    rw [est]
    cases eR : flu_ R C with
    | none =>
      have td := a4 eR
      refine zq_n (top2 td.2.2) (lof_m lD (Nat.zero_le _)) ?_
      simp (disch := omega) only [nI_add, pk_mul, nI_clamp, nI_leI, nI_ltI, nI_eq, inb_, iz1_, iz2_, iz3_, iz4_, iz5_, reduceIte, if_pos, if_neg, op_os, op_vIs, op_vLs, op_vRs, op_vNs, dI_at, dL_at, dI_2, dL_1, Nat.reduceEqDiff, Nat.reduceAdd, Nat.reduceMul, false_and, and_false, true_and, and_true, ne_eq, not_true_eq_false, not_false_eq_true, b2_z, b2_o, b2_n, b2_01, nar_b, nar_0, nar_1, Bool.false_eq_true, Bool.true_eq_false, td.1]
    | some R' =>
      have tz := a3 R' eR
      refine zq_s (top2 tz.1.2.2.2.1) (lof_m lD (Nat.zero_le _)) ⟨tz_az hk hf tz (az_I (by omega)) ?_ ?_ ?_ hvz_n, flz_l hL lD (Nat.le_refl _), hf, hg1, Or.inr rfl⟩
      · rw [dI_at, if_neg (by omega)]
        exact tz.1.2.1
      · rw [dI_at, if_pos ⟨rfl, rfl⟩]
      · rw [dI_at, if_neg (by omega)]
        exact tz.1.2.2.2.2
theorem z162c {p : f3_ × Nat} (hk : 1 ≤ k ∧ k ≤ 4) (hz : zr_ k D ((O, A, R), C, q, p :: fs)) : zq_ k D (k162_0 w (d + 10) (nI 41) D) (zst_ k 41 ((O, A, R), C, q, p :: fs)) := by
  obtain ⟨hT, hL, hf, hq, hi⟩ := hz
  have hf' : fs.length + 1 ≤ 30 := hf
  have np : ¬ ipl_ k 41 = true := ipl_m hk.2 (by omega)
  obtain ⟨hL1, hL2, hL3, hL4⟩ := hL
  have hT' : tz_ k D (fs.length + 1) (O, A, R) C q := hT
  obtain ⟨E, a1, a2, a3, a4⟩ := x160 (w := w) (d := d) hk hf' hT'
  have est : zst_ k 41 ((O, A, R), C, q, p :: fs) = (orv_ k O A R C).bind fun V => (nots_ p.2 V).bind fun V' => some (p.1, some V', 0, fs) := by
    unfold zst_
    rw [if_neg np, if_neg (by omega), if_neg (by omega), if_pos rfl]
  obtain ⟨E2, b1, b2, b3⟩ := x154 (w := w) (d := d + 8) (D := dI_ E 351 37 (nI (fs.length + 1))) (a := 6 + 3 * (fs.length + 1)) (b := 105) (by omega) (by omega) (by omega)
  have e37 : E2.1 351 37 = nI (fs.length + 1) := (b2.2.2.1 37 (by omega)).trans (by rw [dI_at, if_pos ⟨rfl, rfl⟩])
  have e377 : E2.1 377 (fs.length + 1) = nI p.2 := by
    rw [b2.2.1 377 (by omega), dI_at, if_neg (by omega), a2.2.2.1 _ (Nat.le_refl _)]
    exact hL2
  have top : E.1 351 37 = nI (fs.length + 1 + 1) → k162_0 w (d + 10) (nI 41) D = op_o (k161_0 w (d + 9) (dI_ E2 351 38 (nI p.2))) none (fun p11 => op_vN p11.1 none (some (none, p11.2))) := by
    intro h37
    have e37' : (dI_ E 351 37 (nI (fs.length + 1))).1 351 37 = nI (fs.length + 1) := by
      rw [dI_at, if_pos ⟨rfl, rfl⟩]
    rw [e162_0, hT.1.1, x150 hk (by omega), op_os, op_vIs, Bool.eq_false_iff.mpr np, if_pos b2f_, if_neg (by decide), if_pos (by decide), if_neg (fun z => z rfl), a1, op_os, op_vNs, h37, pk_sub (by omega), Nat.add_sub_cancel, e37', x153, op_os, op_vIs, b1, op_os, op_vNs, e37, inb_ (by omega) (by omega), nI_clamp (by omega), e377]
  have l2 : lof_ (fs.length + 1) D (dI_ E2 351 38 (nI p.2)) := lof_t a2 (lof_t (lof_I (by omega)) (lof_t (lof_gz (gz_om b2) (by omega) (by omega)) (lof_I (by omega))))
  rw [est]
  have e38 : (dI_ E2 351 38 (nI p.2)).1 351 38 = nI p.2 := by
    rw [dI_at, if_pos ⟨rfl, rfl⟩]
  have e36 : (dI_ E2 351 38 (nI p.2)).1 351 36 = E.1 351 36 := by
    rw [dI_at, if_neg (by omega), b2.2.2.1 36 (by omega), dI_at, if_neg (by omega)]
  have hp30 : p.2 ≤ 30 := hL3
  cases eo : orv_ k O A R C with
  | none =>
    have td := a4 eo
    obtain ⟨D', c1, c2, c3⟩ := x161d (w := w) (d := d + 2) p.2 (dI_ E2 351 38 (nI p.2)) (by omega) (e36.trans td.1) e38
    refine zq_n (D' := D') ?_ (lof_m (lof_t l2 (lof_az c2 hf')) (Nat.zero_le _)) c3
    rw [top td.2.1, c1]
    rfl
  | some V =>
    have tz := a3 V eo
    have hV := tz.2.2.2.2.1 V rfl
    obtain ⟨D', c1, c2, c3, c4⟩ := x161 (w := w) (d := d + 2) (k := k) p.2 V (dI_ E2 351 38 (nI p.2)) (by omega) hV.1 (rm_I (b3 V hV.1.2.1 hV.1.1.1.2 (rm_I hV.2 (by omega))) (by omega)) (e36.trans tz.1.2.1) e38
    have hE : k162_0 w (d + 10) (nI 41) D = some (none, D') := by
      rw [top tz.1.2.2.1, c1]
      rfl
    have lD : lof_ (fs.length + 1) D D' := lof_t l2 (lof_az c2 hf')
    show zq_ k D _ ((nots_ p.2 V).bind fun V' => some (p.1, some V', 0, fs))
    cases en : nots_ p.2 V with
    | none => exact zq_n hE (lof_m lD (Nat.zero_le _)) (c4 en)
    | some V' =>
      obtain ⟨⟨v1, v2, v3⟩, v4, v5⟩ := c3 V' en
      refine zq_s hE (lof_m lD (Nat.zero_le _)) ⟨⟨⟨(lD.1.1 35 (by omega)).trans hT.1.1, v1, ?_, v2, v3⟩, hvz_s v4 v5, lD.2.2.2 104 _ (Or.inr rfl) ⟨show 2 ≤ 60 by omega, hk.2⟩ hT.2.2.1, frz_l hL1 lD (Nat.lt_succ_self _)⟩, flz_l hL4 lD (Nat.le_succ _), show fs.length ≤ 30 by omega, Nat.zero_le _, Or.inl rfl⟩
      show D'.1 351 37 = nI (fs.length + 1)
      rw [c2.1 37 (by omega), dI_at, if_neg (by omega)]
      exact e37
theorem z162b {c : Nat} (hk : 1 ≤ k ∧ k ≤ 4) (hc : c = 124 ∨ c = 38) (hz : zr_ k D ((O, A, R), C, q, fs)) : zq_ k D (k162_0 w (d + 10) (nI c) D) (zst_ k c ((O, A, R), C, q, fs)) := by
  obtain ⟨hT, hL, hf, hq, hi⟩ := hz
  have hf' : fs.length ≤ 30 := hf
  have np : ¬ ipl_ k c = true := ipl_m hk.2 (by omega)
  have top : k162_0 w (d + 10) (nI c) D = if c = 124 then (op_o (k160_0 w (d + 9) D) none (fun p7 => op_vN p7.1 none (some (none, p7.2)))) else (op_o (k159_0 w (d + 9) D) none (fun p6 => op_vN p6.1 none (some (none, p6.2)))) := by
    rw [e162_0, hT.1.1, x150 hk (by omega), op_os, op_vIs, Bool.eq_false_iff.mpr np, if_pos b2f_]
    rcases hc with rfl | rfl
    · rw [if_neg (by decide), if_pos (by decide), if_pos (by decide), if_neg (fun z => z rfl), if_pos rfl]
    · rw [if_neg (by decide), if_pos (by decide), if_pos (by decide), if_pos (by decide), if_neg (fun z => z rfl), if_neg (by omega)]
  rcases hc with rfl | rfl
  · obtain ⟨E, a1, a2, a3, a4⟩ := x160 (w := w) (d := d) hk hf hT
    have est : zst_ k 124 ((O, A, R), C, q, fs) = (orv_ k O A R C).bind fun V => some ((some V, none, none), none, q, fs) := by
      unfold zst_
      rw [if_neg np, if_neg (by omega), if_neg (by omega), if_neg (by omega), if_pos rfl]
    have hE : k162_0 w (d + 10) (nI 124) D = some (none, E) := by
      rw [top, if_pos rfl, a1]
      rfl
    rw [est]
    cases eo : orv_ k O A R C with
    | none => exact zq_n hE (lof_m a2 (Nat.zero_le _)) (a4 eo).1
    | some V => exact zq_s hE (lof_m a2 (Nat.zero_le _)) ⟨a3 V eo, flz_l hL a2 (Nat.le_refl _), hf, hq, Or.inr rfl⟩
  · obtain ⟨E, a1, a2, a3, a4⟩ := x159 (w := w) (d := d + 1) hk hf hT
    have est : zst_ k 38 ((O, A, R), C, q, fs) = (anv_ k A R C).bind fun V => some ((O, some V, none), none, q, fs) := by
      unfold zst_
      rw [if_neg np, if_neg (by omega), if_neg (by omega), if_neg (by omega), if_neg (by omega), if_pos rfl]
    have hE : k162_0 w (d + 10) (nI 38) D = some (none, E) := by
      rw [top, if_neg (by omega), a1]
      rfl
    rw [est]
    cases eo : anv_ k A R C with
    | none => exact zq_n hE (lof_m a2 (Nat.zero_le _)) (a4 eo).1
    | some V => exact zq_s hE (lof_m a2 (Nat.zero_le _)) ⟨a3 V eo, flz_l hL a2 (Nat.le_refl _), hf, hq, Or.inr rfl⟩
theorem z162s {c : Nat} {X : ma_} (hk : 1 ≤ k ∧ k ≤ 4) (hc : c = 42 ∨ c = 43 ∨ c = 63) (hz : zr_ k D ((O, A, R), some X, q, fs)) : zq_ k D (k162_0 w (d + 10) (nI c) D) (zst_ k c ((O, A, R), some X, q, fs)) := by
  obtain ⟨hT, hL, hf, hq, hi⟩ := hz
  have hf' : fs.length ≤ 30 := hf
  have hq0 : q = 0 := hi.resolve_right (fun z => (by cases z))
  subst hq0
  have np : ¬ ipl_ k c = true := ipl_m hk.2 (by omega)
  have hX := hT.2.1 X rfl
  have h36 : D.1 351 36 = nI 1 := hT.1.2.1
  have top : k162_0 w (d + 10) (nI c) D = if c = 42 then (op_o (k155_0 w (d + 9) (nI 105) (nI 5) (nI 105) (nI 105) D) none (fun p5 => op_vN p5.1 none (some (none, p5.2)))) else if c = 43 then (op_o (k155_0 w (d + 9) (nI 106) (nI 5) (nI 105) (nI 105) D) none (fun p3 => op_vN p3.1 none (op_o (k155_0 w (d + 9) (nI 105) (nI 4) (nI 105) (nI 106) p3.2) none (fun p4 => op_vN p4.1 none (some (none, p4.2)))))) else (op_o (k155_0 w (d + 9) (nI 105) (nI 1) (nI 105) (nI 104) D) none (fun p2 => op_vN p2.1 none (some (none, p2.2)))) := by
    rw [e162_0, hT.1.1, x150 hk (by omega), op_os, op_vIs, Bool.eq_false_iff.mpr np, if_pos b2f_]
    rcases hc with rfl | rfl | rfl
    · rw [if_neg (by decide), if_pos (by decide), if_pos (by decide), if_pos (by decide), if_pos (by decide), if_neg (fun z => z rfl), if_pos rfl]
    · rw [if_neg (by decide), if_pos (by decide), if_pos (by decide), if_pos (by decide), if_pos (by decide), if_pos (by decide), if_neg (fun z => z rfl), if_neg (by omega), if_pos rfl]
    · rw [if_neg (by decide), if_pos (by decide), if_pos (by decide), if_pos (by decide), if_pos (by decide), if_pos (by decide), if_pos (by decide), if_neg (by omega), if_neg (by omega)]
  -- the machine that comes out
  have fin : ∀ (E : dy_) (V : ma_), az_ D E → k162_0 w (d + 10) (nI c) D = some (none, E) → E.1 351 36 = nI 1 → E.1 351 38 = D.1 351 38 → E.1 351 43 = D.1 351 43 → vok_ k V → rm_ E 105 V → zq_ k D (k162_0 w (d + 10) (nI c) D) (some ((O, A, R), some V, 0, fs)) := by
    intro E V a hE e36 e38 e43 v4 v5
    have lD : lof_ fs.length D E := lof_az a hf
    exact zq_s hE (lof_m lD (Nat.zero_le _)) ⟨tz_az hk hf hT a e36 (e38.trans hT.1.2.2.2.1) (e43.trans hT.1.2.2.2.2) (hvz_s v4 v5), flz_l hL lD (Nat.le_refl _), hf, Nat.zero_le _, Or.inl rfl⟩
  rcases hc with rfl | rfl | rfl
  · have est : zst_ k 42 ((O, A, R), some X, 0, fs) = (jo_ 5 X X).bind fun V => some ((O, A, R), some V, 0, fs) := by
      unfold zst_
      rw [if_neg np, if_neg (by omega), if_neg (by omega), if_neg (by omega), if_neg (by omega), if_neg (by omega), if_pos rfl]
      rfl
    obtain ⟨E, a1, a2, a3, a4⟩ := x155 (w := w) (d := d + 3) (k := k) (D := D) (t := 105) (h := 5) (a := 105) (b := 105) (by omega) (by omega) (by omega) (by omega) h36 hX.1 hX.1 hX.2 hX.2
    have hE : k162_0 w (d + 10) (nI 42) D = some (none, E) := by
      rw [top, if_pos rfl, a1]
      rfl
    rw [est]
    cases ej : jo_ 5 X X with
    | none => exact zq_n hE (lof_m (lof_gz (f := fs.length) a2 (by omega) (by omega)) (Nat.zero_le _)) (a4 ej)
    | some V => exact fin E V (az_gz a2) hE (a3 V ej).1 (a2.1 38 (by omega)) (a2.1 43 (by omega)) (a3 V ej).2.1 (a3 V ej).2.2
  · have est : zst_ k 43 ((O, A, R), some X, 0, fs) = ((jo_ 5 X X).bind fun Y => jo_ 4 X Y).bind fun V => some ((O, A, R), some V, 0, fs) := by
      unfold zst_
      rw [if_neg np, if_neg (by omega), if_neg (by omega), if_neg (by omega), if_neg (by omega), if_neg (by omega), if_neg (by omega), if_pos rfl]
      rfl
    obtain ⟨E, a1, a2, a3, a4⟩ := x155 (w := w) (d := d + 3) (k := k) (D := D) (t := 106) (h := 5) (a := 105) (b := 105) (by omega) (by omega) (by omega) (by omega) h36 hX.1 hX.1 hX.2 hX.2
    have l1 : lof_ fs.length D E := lof_gz a2 (by omega) (by omega)
    rw [est]
    cases ej : jo_ 5 X X with
    | none =>
      refine zq_n (D' := dI_ E 351 36 (nI 0)) ?_ (lof_m (lof_t l1 (lof_I (by omega))) (Nat.zero_le _)) (by rw [dI_at, if_pos ⟨rfl, rfl⟩])
      rw [top, if_neg (by omega), if_pos rfl, a1, op_os, op_vNs, x155d (a4 ej)]
      rfl
    | some Y =>
      obtain ⟨y1, y2, y3⟩ := a3 Y ej
      obtain ⟨G, b1, b2, b3, b4⟩ := x155 (w := w) (d := d + 3) (k := k) (D := E) (t := 105) (h := 4) (a := 105) (b := 106) (by omega) (by omega) (by omega) (by omega) y1 hX.1 y2 (a2.2.2.2 105 X (by omega) (vok_b hX.1) hX.2) y3
      have hE : k162_0 w (d + 10) (nI 43) D = some (none, G) := by
        rw [top, if_neg (by omega), if_pos rfl, a1, op_os, op_vNs, b1]
        rfl
      show zq_ k D _ ((jo_ 4 X Y).bind fun V => some ((O, A, R), some V, 0, fs))
      cases ej2 : jo_ 4 X Y with
      | none => exact zq_n hE (lof_m (lof_t l1 (lof_gz b2 (by omega) (by omega))) (Nat.zero_le _)) (b4 ej2)
      | some V =>
        obtain ⟨v1, v2, v3⟩ := b3 V ej2
        have lD : lof_ fs.length D G := lof_t l1 (lof_gz b2 (by omega) (by omega))
        refine zq_s hE (lof_m lD (Nat.zero_le _)) ⟨⟨⟨?_, v1, ?_, ?_, ?_⟩, hvz_s v2 v3, lD.2.2.2 104 _ (Or.inr rfl) ⟨show 2 ≤ 60 by omega, hk.2⟩ hT.2.2.1, ?_⟩, flz_l hL lD (Nat.le_refl _), hf, Nat.zero_le _, Or.inl rfl⟩
        · exact (lD.1.1 35 (by omega)).trans hT.1.1
        · exact (b2.1 37 (by omega)).trans ((a2.1 37 (by omega)).trans hT.1.2.2.1)
        · exact (b2.1 38 (by omega)).trans ((a2.1 38 (by omega)).trans hT.1.2.2.2.1)
        · exact (b2.1 43 (by omega)).trans ((a2.1 43 (by omega)).trans hT.1.2.2.2.2)
        · obtain ⟨⟨h1, h2, h3⟩, h4, h5, h6⟩ := hT.2.2.2
          have m4 : 6 + 3 * fs.length ≠ 106 ∧ 6 + 3 * fs.length ≠ 105 := by omega
          exact ⟨⟨by rw [b2.2.1 378 (by omega), a2.2.1 378 (by omega)]; exact h1, by rw [b2.2.1 379 (by omega), a2.2.1 379 (by omega)]; exact h2, by rw [b2.2.1 380 (by omega), a2.2.1 380 (by omega)]; exact h3⟩, hvz_g (hvz_g h4 a2 (show 6 + 3 * fs.length ≠ 106 by omega)) b2 (show 6 + 3 * fs.length ≠ 105 by omega), hvz_g (hvz_g h5 a2 (show 6 + 3 * fs.length + 1 ≠ 106 by omega)) b2 (show 6 + 3 * fs.length + 1 ≠ 105 by omega), hvz_g (hvz_g h6 a2 (show 6 + 3 * fs.length + 2 ≠ 106 by omega)) b2 (show 6 + 3 * fs.length + 2 ≠ 105 by omega)⟩
  · have est : zst_ k 63 ((O, A, R), some X, 0, fs) = (jo_ 1 X (ep_ k)).bind fun V => some ((O, A, R), some V, 0, fs) := by
      unfold zst_
      rw [if_neg np, if_neg (by omega), if_neg (by omega), if_neg (by omega), if_neg (by omega), if_neg (by omega), if_neg (by omega), if_neg (by omega)]
      rfl
    obtain ⟨E, a1, a2, a3, a4⟩ := x155 (w := w) (d := d + 3) (k := k) (D := D) (t := 105) (h := 1) (a := 105) (b := 104) (by omega) (by omega) (by omega) (by omega) h36 hX.1 (ep_ok hk) hX.2 hT.2.2.1
    have hE : k162_0 w (d + 10) (nI 63) D = some (none, E) := by
      rw [top, if_neg (by omega), if_neg (by omega), a1]
      rfl
    rw [est]
    cases ej : jo_ 1 X (ep_ k) with
    | none => exact zq_n hE (lof_m (lof_gz (f := fs.length) a2 (by omega) (by omega)) (Nat.zero_le _)) (a4 ej)
    | some V => exact fin E V (az_gz a2) hE (a3 V ej).1 (a2.1 38 (by omega)) (a2.1 43 (by omega)) (a3 V ej).2.1 (a3 V ej).2.2
/-- work -/
theorem x162 {c : Nat} {s : zs_} (hk : 1 ≤ k ∧ k ≤ 4) (hc : c < 256) (hg : zg_ k c s) (hz : zr_ k D s) : zq_ k D (k162_0 w (d + 10) (nI c) D) (zst_ k c s) := by
  obtain ⟨⟨O, A, R⟩, C, q, fs⟩ := s
  rcases hg.2.2.2.2 with z | z | z | z | z | z | z | z | z
  · exact z162p hk hc z hz
  · exact z162o hk (Or.inl z) hg hz
  · exact z162o hk (Or.inr z) hg hz
  · subst z
    cases fs with
    | nil => exact absurd rfl (hg.2.2.1 rfl)
    | cons p fs => exact z162c hk hz
  · exact z162b hk (Or.inl z) hz
  · exact z162b hk (Or.inr z) hz
  · cases C with
    | none => exact absurd rfl (hg.2.2.2.1 (by omega))
    | some X => exact z162s hk (by omega) hz
  · cases C with
    | none => exact absurd rfl (hg.2.2.2.1 (by omega))
    | some X => exact z162s hk (by omega) hz
  · cases C with
    | none => exact absurd rfl (hg.2.2.2.1 (by omega))
    | some X => exact z162s hk (by omega) hz
end
