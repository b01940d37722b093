/-! the reference's sets -/
def rs5_ (D : dy_) (f : Nat → Nat × Nat) (n : Nat) : Prop := D.1 351 31 = nI n ∧ ∀ j, j < n → D.2 373 j = lN (f j).2 ∧ D.1 374 j = nI (f j).1
theorem rs5_fr {D D' : dy_} {f : Nat → Nat × Nat} {n : Nat} (h : rs5_ D f n) (h1 : D'.1 351 31 = D.1 351 31) (h2 : D'.1 374 = D.1 374) (h3 : D'.2 373 = D.2 373) : rs5_ D' f n := by
  unfold rs5_ at *
  rw [h1, h2, h3]
  exact h
theorem rw_L {D E : dy_} {i : Nat} {v : Int64} (h : rw_ D E) : rw_ D (dL_ E 373 i v) := rw_t h ⟨fun _ _ => rfl, fun _ _ => rfl, fun b hb => up_ne (f := E.2) hb⟩
theorem and_pw {S p : Nat} : (S &&& 2 ^ p = 0) ↔ S.testBit p = false := by
  have : ¬ (S &&& 2 ^ p = 0) ↔ S.testBit p = true := by
    rw [← ne_eq, nz_bit]
    constructor
    · rintro ⟨i, h⟩
      rw [Nat.testBit_and, Bool.and_eq_true_iff, Nat.testBit_two_pow, decide_eq_true_iff] at h
      rw [h.2]
      exact h.1
    · exact fun h => ⟨p, by rw [Nat.testBit_and, h, Nat.testBit_two_pow, decide_eq_true rfl]; rfl⟩
  cases h : S.testBit p
  · rw [h] at this
    exact ⟨fun _ => rfl, fun _ => Classical.byContradiction fun z => absurd (this.mp z) (by decide)⟩
  · rw [h] at this
    exact ⟨fun z => absurd z (this.mpr rfl), fun z => absurd z (by decide)⟩
section REFS
variable {w : (Nat → Int32) × Nat} {d : Nat} {D : dy_} {M A B : ma_}
/-- meet -/
theorem x135w {f : Nat → Nat × Nat} {n : Nat} {x : Nat × Nat} (h : rs5_ D f n) (hn : n ≤ 500) (hf : ∀ j, j < n → dm_ (f j)) (hx : dm_ x) : ∀ u i, i + u = n → (∀ j, j < i → f j ≠ x) → (∃ j, j < n ∧ f j = x ∧ k135_3 w (d + 1) (nI x.1) (lN x.2) (nI i) D = some (some (.int (nI j)), D)) ∨ ((∀ j, j < n → f j ≠ x) ∧ k135_3 w (d + 1) (nI x.1) (lN x.2) (nI i) D = k135_3 w (d + 1) (nI x.1) (lN x.2) (nI n) D) := by
  obtain ⟨hx1, hx2⟩ := hx
  intro u
  induction u with
  | zero =>
    intro i hi hne
    obtain rfl : i = n := by omega
    exact Or.inr ⟨hne, rfl⟩
  | succ u ih =>
    intro i hi hne
    obtain ⟨g1, g2⟩ := h.2 i (by omega)
    obtain ⟨g4, g5⟩ := hf i (by omega)
    by_cases z : f i = x
    · refine Or.inl ⟨i, by omega, z, ?_⟩
      rw [z] at g1 g2
      rw [e135_3]
      simp (disch := omega) only [nI_add, pk_mul, nI_clamp, nI_leI, nI_ltI, nI_eq, inb_, iz1_, iz2_, iz3_, iz4_, iz5_, reduceIte, if_pos, if_neg, op_os, op_vIs, op_vLs, op_vRs, op_vNs, dI_at, dL_at, dI_2, dL_1, Nat.reduceEqDiff, Nat.reduceAdd, Nat.reduceMul, false_and, and_false, true_and, and_true, ne_eq, not_true_eq_false, not_false_eq_true, b2_z, b2_o, b2_n, b2_01, nar_b, nar_0, nar_1, Bool.false_eq_true, Bool.true_eq_false, h.1, g1, g2, lz0]
    · have st : k135_3 w (d + 1) (nI x.1) (lN x.2) (nI i) D = k135_3 w (d + 1) (nI x.1) (lN x.2) (nI (i + 1)) D := by
        rw [e135_3]
        by_cases y : (f i).2 = x.2
        · have y2 : (f i).1 ≠ x.1 := fun q => z (Prod.ext q y)
          simp (disch := omega) only [nI_add, pk_mul, nI_clamp, nI_leI, nI_ltI, nI_eq, inb_, iz1_, iz2_, iz3_, iz4_, iz5_, reduceIte, if_pos, if_neg, op_os, op_vIs, op_vLs, op_vRs, op_vNs, dI_at, dL_at, dI_2, dL_1, Nat.reduceEqDiff, Nat.reduceAdd, Nat.reduceMul, false_and, and_false, true_and, and_true, ne_eq, not_true_eq_false, not_false_eq_true, b2_z, b2_o, b2_n, b2_01, nar_b, nar_0, nar_1, Bool.false_eq_true, Bool.true_eq_false, h.1, g1, g2, lz0, y, e135_38]
        · simp (disch := omega) only [nI_add, pk_mul, nI_clamp, nI_leI, nI_ltI, nI_eq, inb_, iz1_, iz2_, iz3_, iz4_, iz5_, reduceIte, if_pos, if_neg, op_os, op_vIs, op_vLs, op_vRs, op_vNs, dI_at, dL_at, dI_2, dL_1, Nat.reduceEqDiff, Nat.reduceAdd, Nat.reduceMul, false_and, and_false, true_and, and_true, ne_eq, not_true_eq_false, not_false_eq_true, b2_z, b2_o, b2_n, b2_01, nar_b, nar_0, nar_1, Bool.false_eq_true, Bool.true_eq_false, h.1, g1, g2, lz0, e135_38]
      rw [st]
      exact ih (i + 1) (by omega) (fun j hj => by
        by_cases y : j = i
        · rw [y]; exact z
        · exact hne j (by omega))
theorem x135i {f : Nat → Nat × Nat} {n j : Nat} {x : Nat × Nat} (h : rs5_ D f n) (hn : n ≤ 500) (hf : ∀ j, j < n → dm_ (f j)) (hx : dm_ x) (hinj : ∀ i j, i < n → j < n → f i = f j → i = j) (hj : j < n) (e : f j = x) : k135_0 w (d + 1) (nI x.1) (lN x.2) D = some (some (.int (nI j)), D) := by
  rw [e135_0]
  rcases x135w (w := w) (d := d) h hn hf hx n 0 (by omega) (fun j hj => absurd hj (by omega)) with ⟨i, i1, i2, i3⟩ | ⟨i1, _⟩
  · rw [i3, hinj i j i1 hj (by rw [i2, e])]
  · exact absurd e (i1 j hj)
theorem x135n {f : Nat → Nat × Nat} {n : Nat} {x : Nat × Nat} (h : rs5_ D f n) (hn : n ≤ 500) (hf : ∀ j, j < n → dm_ (f j)) (hx : dm_ x) (hne : ∀ j, j < n → f j ≠ x) : k135_0 w (d + 1) (nI x.1) (lN x.2) D = if n = 500 then some (some (.int (-1)), D) else some (some (.int (nI n)), dI_ (dI_ (dL_ D 373 n (lN x.2)) 374 n (nI x.1)) 351 31 (nI (n + 1))) := by
  rw [e135_0]
  rcases x135w (w := w) (d := d) h hn hf hx n 0 (by omega) (fun j hj => absurd hj (by omega)) with ⟨i, i1, i2, i3⟩ | ⟨_, i2⟩
  · exact absurd i2 (hne i i1)
  · rw [i2, e135_3]
    by_cases z : n = 500
    · rw [if_pos z]
      simp (disch := omega) only [nI_add, pk_mul, nI_clamp, nI_leI, nI_ltI, nI_eq, inb_, iz1_, iz2_, iz3_, iz4_, iz5_, reduceIte, if_pos, if_neg, op_os, op_vIs, op_vLs, op_vRs, op_vNs, dI_at, dL_at, dI_2, dL_1, Nat.reduceEqDiff, Nat.reduceAdd, Nat.reduceMul, false_and, and_false, true_and, and_true, ne_eq, not_true_eq_false, not_false_eq_true, b2_z, b2_o, b2_n, b2_01, nar_b, nar_0, nar_1, Bool.false_eq_true, Bool.true_eq_false, h.1, z, Nat.le_refl]
    · rw [if_neg z]
      simp (disch := omega) only [nI_add, pk_mul, nI_clamp, nI_leI, nI_ltI, nI_eq, inb_, iz1_, iz2_, iz3_, iz4_, iz5_, reduceIte, if_pos, if_neg, op_os, op_vIs, op_vLs, op_vRs, op_vNs, dI_at, dL_at, dI_2, dL_1, Nat.reduceEqDiff, Nat.reduceAdd, Nat.reduceMul, false_and, and_false, true_and, and_true, ne_eq, not_true_eq_false, not_false_eq_true, b2_z, b2_o, b2_n, b2_01, nar_b, nar_0, nar_1, Bool.false_eq_true, Bool.true_eq_false, h.1, Nat.le_refl, pk_sub]
      rw [show n + 1 - 1 = n by omega]
/-- step -/
theorem x140 {m S l : Nat} (hm : m < 110) (hr : rm_ D m M) (hM : wm_ M) (hn : M.2.1 ≤ 60) (hl : l < M.1) : k140_0 w (d + 2) (nI m) (lN S) (nI l) D = some (some (.long (lN (lon_ M S l))), D) := by
  have hk := hM.1
  rw [e140_0]
  have := lq_ (fun i (x : Nat) => k140_6 w (d + 2) (nI m) (lN S) (nI l) (lN x) (nI i) D) (fun i => orf_ (fun s => if S.testBit s then 2 ^ M.2.2.2.1 s l else 0) i) (M.2.1) (by
    intro i hi
    have hx := hM.2.2.2 i l hi hl
    show k140_6 w (d + 2) (nI m) (lN S) (nI l) (lN (orf_ (fun s => if S.testBit s then 2 ^ M.2.2.2.1 s l else 0) i)) (nI i) D = k140_6 w (d + 2) (nI m) (lN S) (nI l) (lN (orf_ (fun s => if S.testBit s then 2 ^ M.2.2.2.1 s l else 0) i ||| if S.testBit i then 2 ^ M.2.2.2.1 i l else 0)) (nI (i + 1)) D
    rw [e140_6]
    cases hb : S.testBit i with
    | true => simp (disch := omega) only [nI_add, pk_mul, nI_clamp, nI_leI, nI_ltI, nI_eq, inb_, iz1_, iz2_, iz3_, iz4_, iz5_, reduceIte, if_pos, if_neg, op_os, op_vIs, op_vLs, op_vRs, op_vNs, dI_at, dL_at, dI_2, dL_1, Nat.reduceEqDiff, Nat.reduceAdd, Nat.reduceMul, false_and, and_false, true_and, and_true, ne_eq, not_true_eq_false, not_false_eq_true, b2_z, b2_o, b2_n, b2_01, nar_b, nar_0, nar_1, Bool.false_eq_true, Bool.true_eq_false, hr.2.1, tb1, hb, x112 hm ⟨hn, hk.2⟩ hr hi hl, sb1, lN_or, e140_47]
    | false =>
      simp (disch := omega) only [nI_add, pk_mul, nI_clamp, nI_leI, nI_ltI, nI_eq, inb_, iz1_, iz2_, iz3_, iz4_, iz5_, reduceIte, if_pos, if_neg, op_os, op_vIs, op_vLs, op_vRs, op_vNs, dI_at, dL_at, dI_2, dL_1, Nat.reduceEqDiff, Nat.reduceAdd, Nat.reduceMul, false_and, and_false, true_and, and_true, ne_eq, not_true_eq_false, not_false_eq_true, b2_z, b2_o, b2_n, b2_01, nar_b, nar_0, nar_1, Bool.false_eq_true, Bool.true_eq_false, hr.2.1, tb1, hb, e140_47]
      rw [Nat.or_zero])
  refine this.trans ?_
  show k140_6 w (d + 2) (nI m) (lN S) (nI l) (lN (lon_ M S l)) (nI (M.2.1)) D = _
  rw [e140_6]
  simp (disch := omega) only [nI_add, pk_mul, nI_clamp, nI_leI, nI_ltI, nI_eq, inb_, iz1_, iz2_, iz3_, iz4_, iz5_, reduceIte, if_pos, if_neg, op_os, op_vIs, op_vLs, op_vRs, op_vNs, dI_at, dL_at, dI_2, dL_1, Nat.reduceEqDiff, Nat.reduceAdd, Nat.reduceMul, false_and, and_false, true_and, and_true, ne_eq, not_true_eq_false, not_false_eq_true, b2_z, b2_o, b2_n, b2_01, nar_b, nar_0, nar_1, Bool.false_eq_true, Bool.true_eq_false, hr.2.1, Nat.le_refl]
/-- hasAccepting -/
theorem x141 {m S : Nat} (hm : m < 110) (hr : rm_ D m M) (hM : wm_ M) (hn : M.2.1 ≤ 60) : k141_0 w (d + 2) (nI m) (lN S) D = some (some (.int (b2_ (hac_ M S))), D) := by
  have hk := hM.1
  rw [e141_0]
  have := lq_ (fun i (x : Bool) => k141_6 w (d + 2) (nI m) (lN S) (b2_ x) (nI i) D) (fun i => som_ (fun p => S.testBit p && M.2.2.2.2 p) i) (M.2.1) (by
    intro i hi
    show k141_6 w (d + 2) (nI m) (lN S) (b2_ (som_ (fun p => S.testBit p && M.2.2.2.2 p) i)) (nI i) D = k141_6 w (d + 2) (nI m) (lN S) (b2_ (som_ (fun p => S.testBit p && M.2.2.2.2 p) i || (S.testBit i && M.2.2.2.2 i))) (nI (i + 1)) D
    rw [e141_6]
    cases som_ (fun p => S.testBit p && M.2.2.2.2 p) i with
    | true =>
      simp (disch := omega) only [nI_add, pk_mul, nI_clamp, nI_leI, nI_ltI, nI_eq, inb_, iz1_, iz2_, iz3_, iz4_, iz5_, reduceIte, if_pos, if_neg, op_os, op_vIs, op_vLs, op_vRs, op_vNs, dI_at, dL_at, dI_2, dL_1, Nat.reduceEqDiff, Nat.reduceAdd, Nat.reduceMul, false_and, and_false, true_and, and_true, ne_eq, not_true_eq_false, not_false_eq_true, b2_z, b2_o, b2_n, b2_01, nar_b, nar_0, nar_1, Bool.false_eq_true, Bool.true_eq_false, hr.2.1, e141_43, e141_48]
      rfl
    | false =>
      cases hb : S.testBit i with
      | false =>
        simp (disch := omega) only [nI_add, pk_mul, nI_clamp, nI_leI, nI_ltI, nI_eq, inb_, iz1_, iz2_, iz3_, iz4_, iz5_, reduceIte, if_pos, if_neg, op_os, op_vIs, op_vLs, op_vRs, op_vNs, dI_at, dL_at, dI_2, dL_1, Nat.reduceEqDiff, Nat.reduceAdd, Nat.reduceMul, false_and, and_false, true_and, and_true, ne_eq, not_true_eq_false, not_false_eq_true, b2_z, b2_o, b2_n, b2_01, nar_b, nar_0, nar_1, Bool.false_eq_true, Bool.true_eq_false, hr.2.1, tb1, hb, e141_47, e141_48]
        rfl
      | true =>
        cases ha : M.2.2.2.2 i with
        | false =>
          simp (disch := omega) only [nI_add, pk_mul, nI_clamp, nI_leI, nI_ltI, nI_eq, inb_, iz1_, iz2_, iz3_, iz4_, iz5_, reduceIte, if_pos, if_neg, op_os, op_vIs, op_vLs, op_vRs, op_vNs, dI_at, dL_at, dI_2, dL_1, Nat.reduceEqDiff, Nat.reduceAdd, Nat.reduceMul, false_and, and_false, true_and, and_true, ne_eq, not_true_eq_false, not_false_eq_true, b2_z, b2_o, b2_n, b2_01, nar_b, nar_0, nar_1, Bool.false_eq_true, Bool.true_eq_false, hr.2.1, tb1, hb, x113 hm ⟨hn, hk.2⟩ hr hi, ha, e141_47, e141_48]
          rfl
        | true =>
          simp (disch := omega) only [nI_add, pk_mul, nI_clamp, nI_leI, nI_ltI, nI_eq, inb_, iz1_, iz2_, iz3_, iz4_, iz5_, reduceIte, if_pos, if_neg, op_os, op_vIs, op_vLs, op_vRs, op_vNs, dI_at, dL_at, dI_2, dL_1, Nat.reduceEqDiff, Nat.reduceAdd, Nat.reduceMul, false_and, and_false, true_and, and_true, ne_eq, not_true_eq_false, not_false_eq_true, b2_z, b2_o, b2_n, b2_01, nar_b, nar_0, nar_1, Bool.false_eq_true, Bool.true_eq_false, hr.2.1, tb1, hb, x113 hm ⟨hn, hk.2⟩ hr hi, ha, e141_43, e141_48]
          rfl)
  refine this.trans ?_
  show k141_6 w (d + 2) (nI m) (lN S) (b2_ (hac_ M S)) (nI (M.2.1)) D = _
  rw [e141_6]
  simp (disch := omega) only [nI_add, pk_mul, nI_clamp, nI_leI, nI_ltI, nI_eq, inb_, iz1_, iz2_, iz3_, iz4_, iz5_, reduceIte, if_pos, if_neg, op_os, op_vIs, op_vLs, op_vRs, op_vNs, dI_at, dL_at, dI_2, dL_1, Nat.reduceEqDiff, Nat.reduceAdd, Nat.reduceMul, false_and, and_false, true_and, and_true, ne_eq, not_true_eq_false, not_false_eq_true, b2_z, b2_o, b2_n, b2_01, nar_b, nar_0, nar_1, Bool.false_eq_true, Bool.true_eq_false, hr.2.1, Nat.le_refl]
/-- the loops that all three have -/
def rq5_ (g : Nat × Nat → Nat → Nat × Nat) (k : Nat) (x0 : Nat × Nat) (ai : Nat → Bool) (D : dy_) (n i l e : Nat) (E : dy_) : Prop := rs5_ E (kf_ g k x0 n50_) n ∧ (∀ i' l', l' < k → bef_ i' l' i l → E.1 358 (4 * i' + l') = nI (kt_ g k x0 n50_ i' l')) ∧ (∀ i', i' < e → E.1 359 i' = b2_ (ai i')) ∧ rw_ D E
theorem y76 {g : Nat × Nat → Nat → Nat × Nat} {k : Nat} {x0 : Nat × Nat} {ai : Nat → Bool} (F : Nat → dy_ → rd_) (G : Nat → Nat → dy_ → rd_) (hk : 1 ≤ k ∧ k ≤ 4) (hdom : ∀ x, x ∈ kq_ g k x0 n50_ → dm_ x) (hdg : ∀ x l, x ∈ kq_ g k x0 n50_ → l < k → dm_ (g x l)) (hF : ∀ i E n, rw_ D E → rs5_ E (kf_ g k x0 n50_) n → i < n → n ≤ 500 → i < (kq_ g k x0 n50_).length → F i E = G i 0 (dI_ E 359 i (b2_ (ai i)))) (hG : ∀ i l E n, rw_ D E → rs5_ E (kf_ g k x0 n50_) n → i < n → n ≤ 500 → i < (kq_ g k x0 n50_).length → l < k → G i l E = op_o (k135_0 w (d + 1) (nI (g (kf_ g k x0 n50_ i) l).1) (lN (g (kf_ g k x0 n50_ i) l).2) E) none (fun p1 => op_vI p1.1 none (fun n1 => if n1 ≠ (-1) then (mk_inb (nI (4 * i + l)) 14400 none (G i (l + 1) (dI_ p1.2 358 (4 * i + l) n1))) else (some (some (.int (nI 0)), p1.2))))) (hGe : ∀ i E, rw_ D E → i < 500 → G i k E = F (i + 1) E) (hFe : ∀ i E n, rw_ D E → rs5_ E (kf_ g k x0 n50_) n → n ≤ i → i ≤ 501 → F i E = some (some (.int (nI 1)), dI_ (dI_ E 351 8 (nI k)) 351 9 (nI n))) {E0 : dy_} (h0 : rs5_ E0 (kf_ g k x0 n50_) 1) (hr0 : rw_ D E0) : ∃ D', F 0 E0 = some (some (.int (b2_ (decide ((kq_ g k x0 n50_).length ≤ 500)))), D') ∧ rw_ D D' ∧ ((kq_ g k x0 n50_).length ≤ 500 → bg_ D' (gsm_ k g x0 ai)) := by
  have h50 := n50_e
  -- letters
  have letters : ∀ i, i < 500 → i < (kq_ g k x0 i).length → ∀ u l (E : dy_), l + u = k → (li_ g (kf_ g k x0 n50_ i) (kq_ g k x0 i) l).length ≤ 500 → rq5_ g k x0 ai D (li_ g (kf_ g k x0 n50_ i) (kq_ g k x0 i) l).length i l (i + 1) E → (∃ D', G i l E = F (i + 1) D' ∧ (kq_ g k x0 (i + 1)).length ≤ 500 ∧ rq5_ g k x0 ai D (kq_ g k x0 (i + 1)).length (i + 1) 0 (i + 1) D') ∨ (∃ D', G i l E = some (some (.int (nI 0)), D') ∧ 500 < (kq_ g k x0 n50_).length ∧ rw_ D D') := by
    intro i hi5 hin
    have hst := kq_step g k x0 (N := n50_) (show i ≤ n50_ by omega) hin
    have pI := kq_p g k x0 (show i ≤ n50_ by omega)
    have hiN := Nat.lt_of_lt_of_le hin pI.length_le
    intro u
    induction u with
    | zero =>
      intro l E hu hlen q
      obtain rfl : l = k := by omega
      rw [← hst] at hlen q
      exact Or.inl ⟨E, hGe i E q.2.2.2 hi5, hlen, q.1, fun i' l' h1 h2 => q.2.1 i' l' h1 (by unfold bef_ at *; omega), q.2.2⟩
    | succ u ih =>
      intro l E hu hlen q
      have hl : l < k := by omega
      have pK := li_f g k x0 (N := n50_) (l := l) (show i < n50_ by omega) hin (by omega)
      have hfd : ∀ j, j < (li_ g (kf_ g k x0 n50_ i) (kq_ g k x0 i) l).length → dm_ (kf_ g k x0 n50_ j) := fun j hj => hdom _ (pK.subset (kf_mem g k x0 pK hj))
      have hil : i < (li_ g (kf_ g k x0 n50_ i) (kq_ g k x0 i) l).length := Nat.lt_of_lt_of_le hin (li_p g _ _ (Nat.zero_le l)).length_le
      have hdx := hdg _ l (pK.subset (kf_mem g k x0 pK hil)) hl
      have hinj : ∀ i' j, i' < (li_ g (kf_ g k x0 n50_ i) (kq_ g k x0 i) l).length → j < (li_ g (kf_ g k x0 n50_ i) (kq_ g k x0 i) l).length → kf_ g k x0 n50_ i' = kf_ g k x0 n50_ j → i' = j := fun i' j h1 h2 e => kf_inj g k x0 (Nat.lt_of_lt_of_le h1 pK.length_le) (Nat.lt_of_lt_of_le h2 pK.length_le) e
      have st := hG i l E _ q.2.2.2 q.1 hil hlen hiN hl
      have rows : ∀ (E2 : dy_), (∀ i' l', l' < k → bef_ i' l' i l → E2.1 358 (4 * i' + l') = nI (kt_ g k x0 n50_ i' l')) → ∀ i' l', l' < k → bef_ i' l' i (l + 1) → (dI_ E2 358 (4 * i + l) (nI (kt_ g k x0 n50_ i l))).1 358 (4 * i' + l') = nI (kt_ g k x0 n50_ i' l') := by
        intro E2 hE2 i' l' h1 h2
        simp (disch := omega) only [nI_add, pk_mul, nI_clamp, nI_leI, nI_ltI, nI_eq, inb_, iz1_, iz2_, iz3_, iz4_, iz5_, reduceIte, op_os, op_vIs, op_vLs, op_vRs, op_vNs, dI_at, dL_at, dI_2, dL_1, Nat.reduceEqDiff, Nat.reduceAdd, Nat.reduceMul, false_and, and_false, true_and, and_true, ne_eq, not_true_eq_false, not_false_eq_true, b2_z, b2_o, b2_n, b2_01, nar_b, nar_0, nar_1, Bool.false_eq_true, Bool.true_eq_false]
        by_cases z : 4 * i' + l' = 4 * i + l
        · rw [if_pos z, show i' = i by omega, show l' = l by omega]
        · rw [if_neg z]
          exact hE2 i' l' h1 (by unfold bef_ at *; omega)
      by_cases c : g (kf_ g k x0 n50_ i) l ∈ li_ g (kf_ g k x0 n50_ i) (kq_ g k x0 i) l
      · obtain ⟨k1, k2, k3⟩ := kt_t1 g k x0 (show i < n50_ by omega) hin hl c
        have hm := x135i (w := w) (d := d) q.1 hlen hfd hdx hinj k2 k3
        have := ih (l + 1) (dI_ E 358 (4 * i + l) (nI (kt_ g k x0 n50_ i l))) (by omega) (by rw [k1]; exact hlen) (by
          rw [k1]
          exact ⟨rs5_fr q.1 (by rw [dI_ne (by omega)]) (dI_ne (by omega)) rfl, rows E q.2.1, fun i' hi' => by simp (disch := omega) only [nI_add, pk_mul, nI_clamp, nI_leI, nI_ltI, nI_eq, inb_, iz1_, iz2_, iz3_, iz4_, iz5_, reduceIte, if_pos, if_neg, op_os, op_vIs, op_vLs, op_vRs, op_vNs, dI_at, dL_at, dI_2, dL_1, Nat.reduceEqDiff, Nat.reduceAdd, Nat.reduceMul, false_and, and_false, true_and, and_true, ne_eq, not_true_eq_false, not_false_eq_true, b2_z, b2_o, b2_n, b2_01, nar_b, nar_0, nar_1, Bool.false_eq_true, Bool.true_eq_false]; exact q.2.2.1 i' hi', rw_1 q.2.2.2 (by omega)⟩)
        rw [st, hm]
        simp (disch := omega) only [nI_add, pk_mul, nI_clamp, nI_leI, nI_ltI, nI_eq, inb_, iz1_, iz2_, iz3_, iz4_, iz5_, reduceIte, if_pos, if_neg, op_os, op_vIs, op_vLs, op_vRs, op_vNs, dI_at, dL_at, dI_2, dL_1, Nat.reduceEqDiff, Nat.reduceAdd, Nat.reduceMul, false_and, and_false, true_and, and_true, ne_eq, not_true_eq_false, not_false_eq_true, b2_z, b2_o, b2_n, b2_01, nar_b, nar_0, nar_1, Bool.false_eq_true, Bool.true_eq_false]
        exact this
      · obtain ⟨k1, k2, k3, k4⟩ := kt_t2 g k x0 (show i < n50_ by omega) hin hl c
        have hne : ∀ j, j < (li_ g (kf_ g k x0 n50_ i) (kq_ g k x0 i) l).length → kf_ g k x0 n50_ j ≠ g (kf_ g k x0 n50_ i) l := fun j hj e => c (by rw [← e]; exact kf_mem g k x0 pK hj)
        have hm := x135n (w := w) (d := d) q.1 hlen hfd hdx hne
        by_cases z : (li_ g (kf_ g k x0 n50_ i) (kq_ g k x0 i) l).length = 500
        · rw [if_pos z] at hm
          refine Or.inr ⟨E, ?_, by omega, q.2.2.2⟩
          rw [st, hm]
          simp (disch := omega) only [nI_add, pk_mul, nI_clamp, nI_leI, nI_ltI, nI_eq, inb_, iz1_, iz2_, iz3_, iz4_, iz5_, reduceIte, if_pos, if_neg, op_os, op_vIs, op_vLs, op_vRs, op_vNs, dI_at, dL_at, dI_2, dL_1, Nat.reduceEqDiff, Nat.reduceAdd, Nat.reduceMul, false_and, and_false, true_and, and_true, ne_eq, not_true_eq_false, not_false_eq_true, b2_z, b2_o, b2_n, b2_01, nar_b, nar_0, nar_1, Bool.false_eq_true, Bool.true_eq_false]
        · rw [if_neg z, ← k2] at hm
          generalize hE2 : dI_ (dI_ (dL_ E 373 (kt_ g k x0 n50_ i l) (lN (g (kf_ g k x0 n50_ i) l).2)) 374 (kt_ g k x0 n50_ i l) (nI (g (kf_ g k x0 n50_ i) l).1)) 351 31 (nI (kt_ g k x0 n50_ i l + 1)) = E2 at hm
          have hrw : rw_ D E2 := by
            rw [← hE2]
            exact rw_1 (rw_1 (rw_L q.2.2.2) (by omega)) (Or.inl ⟨rfl, by unfold wf8_; omega⟩)
          have hrs : rs5_ E2 (kf_ g k x0 n50_) ((li_ g (kf_ g k x0 n50_ i) (kq_ g k x0 i) l).length + 1) := by
            rw [← hE2, k2]
            refine ⟨by simp (disch := omega) only [nI_add, pk_mul, nI_clamp, nI_leI, nI_ltI, nI_eq, inb_, iz1_, iz2_, iz3_, iz4_, iz5_, reduceIte, if_pos, if_neg, op_os, op_vIs, op_vLs, op_vRs, op_vNs, dI_at, dL_at, dI_2, dL_1, Nat.reduceEqDiff, Nat.reduceAdd, Nat.reduceMul, false_and, and_false, true_and, and_true, ne_eq, not_true_eq_false, not_false_eq_true, b2_z, b2_o, b2_n, b2_01, nar_b, nar_0, nar_1, Bool.false_eq_true, Bool.true_eq_false], fun j hj => ?_⟩
            by_cases y : j = (li_ g (kf_ g k x0 n50_ i) (kq_ g k x0 i) l).length
            · rw [y, k3]
              exact ⟨by simp (disch := omega) only [nI_add, pk_mul, nI_clamp, nI_leI, nI_ltI, nI_eq, inb_, iz1_, iz2_, iz3_, iz4_, iz5_, reduceIte, if_pos, if_neg, op_os, op_vIs, op_vLs, op_vRs, op_vNs, dI_at, dL_at, dI_2, dL_1, Nat.reduceEqDiff, Nat.reduceAdd, Nat.reduceMul, false_and, and_false, true_and, and_true, ne_eq, not_true_eq_false, not_false_eq_true, b2_z, b2_o, b2_n, b2_01, nar_b, nar_0, nar_1, Bool.false_eq_true, Bool.true_eq_false], by simp (disch := omega) only [nI_add, pk_mul, nI_clamp, nI_leI, nI_ltI, nI_eq, inb_, iz1_, iz2_, iz3_, iz4_, iz5_, reduceIte, if_pos, if_neg, op_os, op_vIs, op_vLs, op_vRs, op_vNs, dI_at, dL_at, dI_2, dL_1, Nat.reduceEqDiff, Nat.reduceAdd, Nat.reduceMul, false_and, and_false, true_and, and_true, ne_eq, not_true_eq_false, not_false_eq_true, b2_z, b2_o, b2_n, b2_01, nar_b, nar_0, nar_1, Bool.false_eq_true, Bool.true_eq_false]⟩
            · obtain ⟨q1, q2⟩ := q.1.2 j (by omega)
              exact ⟨by simp (disch := omega) only [nI_add, pk_mul, nI_clamp, nI_leI, nI_ltI, nI_eq, inb_, iz1_, iz2_, iz3_, iz4_, iz5_, reduceIte, if_pos, if_neg, op_os, op_vIs, op_vLs, op_vRs, op_vNs, dI_at, dL_at, dI_2, dL_1, Nat.reduceEqDiff, Nat.reduceAdd, Nat.reduceMul, false_and, and_false, true_and, and_true, ne_eq, not_true_eq_false, not_false_eq_true, b2_z, b2_o, b2_n, b2_01, nar_b, nar_0, nar_1, Bool.false_eq_true, Bool.true_eq_false]; exact q1, by simp (disch := omega) only [nI_add, pk_mul, nI_clamp, nI_leI, nI_ltI, nI_eq, inb_, iz1_, iz2_, iz3_, iz4_, iz5_, reduceIte, if_pos, if_neg, op_os, op_vIs, op_vLs, op_vRs, op_vNs, dI_at, dL_at, dI_2, dL_1, Nat.reduceEqDiff, Nat.reduceAdd, Nat.reduceMul, false_and, and_false, true_and, and_true, ne_eq, not_true_eq_false, not_false_eq_true, b2_z, b2_o, b2_n, b2_01, nar_b, nar_0, nar_1, Bool.false_eq_true, Bool.true_eq_false]; exact q2⟩
          have := ih (l + 1) (dI_ E2 358 (4 * i + l) (nI (kt_ g k x0 n50_ i l))) (by omega) (by omega) (by
            rw [k1]
            exact ⟨rs5_fr hrs (by rw [dI_ne (by omega)]) (dI_ne (by omega)) rfl, rows E2 (fun i' l' h1 h2 => by rw [← hE2]; simp (disch := omega) only [nI_add, pk_mul, nI_clamp, nI_leI, nI_ltI, nI_eq, inb_, iz1_, iz2_, iz3_, iz4_, iz5_, reduceIte, if_pos, if_neg, op_os, op_vIs, op_vLs, op_vRs, op_vNs, dI_at, dL_at, dI_2, dL_1, Nat.reduceEqDiff, Nat.reduceAdd, Nat.reduceMul, false_and, and_false, true_and, and_true, ne_eq, not_true_eq_false, not_false_eq_true, b2_z, b2_o, b2_n, b2_01, nar_b, nar_0, nar_1, Bool.false_eq_true, Bool.true_eq_false]; exact q.2.1 i' l' h1 h2), fun i' hi' => by rw [← hE2]; simp (disch := omega) only [nI_add, pk_mul, nI_clamp, nI_leI, nI_ltI, nI_eq, inb_, iz1_, iz2_, iz3_, iz4_, iz5_, reduceIte, if_pos, if_neg, op_os, op_vIs, op_vLs, op_vRs, op_vNs, dI_at, dL_at, dI_2, dL_1, Nat.reduceEqDiff, Nat.reduceAdd, Nat.reduceMul, false_and, and_false, true_and, and_true, ne_eq, not_true_eq_false, not_false_eq_true, b2_z, b2_o, b2_n, b2_01, nar_b, nar_0, nar_1, Bool.false_eq_true, Bool.true_eq_false]; exact q.2.2.1 i' hi', rw_1 hrw (by omega)⟩)
          rw [st, hm]
          simp (disch := omega) only [nI_add, pk_mul, nI_clamp, nI_leI, nI_ltI, nI_eq, inb_, iz1_, iz2_, iz3_, iz4_, iz5_, reduceIte, if_pos, if_neg, op_os, op_vIs, op_vLs, op_vRs, op_vNs, dI_at, dL_at, dI_2, dL_1, Nat.reduceEqDiff, Nat.reduceAdd, Nat.reduceMul, false_and, and_false, true_and, and_true, ne_eq, not_true_eq_false, not_false_eq_true, b2_z, b2_o, b2_n, b2_01, nar_b, nar_0, nar_1, Bool.false_eq_true, Bool.true_eq_false]
          exact this
  have main : ∀ u i (E : dy_), i + u = 501 → (kq_ g k x0 i).length ≤ 500 → rq5_ g k x0 ai D (kq_ g k x0 i).length i 0 i E → ∃ D', F i E = some (some (.int (b2_ (decide ((kq_ g k x0 n50_).length ≤ 500)))), D') ∧ rw_ D D' ∧ ((kq_ g k x0 n50_).length ≤ 500 → bg_ D' (gsm_ k g x0 ai)) := by
    have fin : ∀ i E, i ≤ 501 → (kq_ g k x0 n50_).length ≤ i → (kq_ g k x0 n50_).length ≤ 500 → rq5_ g k x0 ai D (kq_ g k x0 n50_).length i 0 i E → ∃ D', F i E = some (some (.int (b2_ (decide ((kq_ g k x0 n50_).length ≤ 500)))), D') ∧ rw_ D D' ∧ ((kq_ g k x0 n50_).length ≤ 500 → bg_ D' (gsm_ k g x0 ai)) := by
      intro i E h1 h2 h3 q
      refine ⟨dI_ (dI_ E 351 8 (nI k)) 351 9 (nI (kq_ g k x0 n50_).length), ?_, rw_1 (rw_1 q.2.2.2 (Or.inl ⟨rfl, by unfold wf8_; omega⟩)) (Or.inl ⟨rfl, by unfold wf8_; omega⟩), fun _ => ⟨?_, ?_, fun i' l' a1 a2 => ?_, fun i' a1 => ?_⟩⟩
      · rw [hFe i E _ q.2.2.2 q.1 h2 h1, decide_eq_true h3]
        rfl
      · simp (disch := omega) only [nI_add, pk_mul, nI_clamp, nI_leI, nI_ltI, nI_eq, inb_, iz1_, iz2_, iz3_, iz4_, iz5_, reduceIte, if_pos, if_neg, op_os, op_vIs, op_vLs, op_vRs, op_vNs, dI_at, dL_at, dI_2, dL_1, Nat.reduceEqDiff, Nat.reduceAdd, Nat.reduceMul, false_and, and_false, true_and, and_true, ne_eq, not_true_eq_false, not_false_eq_true, b2_z, b2_o, b2_n, b2_01, nar_b, nar_0, nar_1, Bool.false_eq_true, Bool.true_eq_false]; rfl
      · simp (disch := omega) only [nI_add, pk_mul, nI_clamp, nI_leI, nI_ltI, nI_eq, inb_, iz1_, iz2_, iz3_, iz4_, iz5_, reduceIte, if_pos, if_neg, op_os, op_vIs, op_vLs, op_vRs, op_vNs, dI_at, dL_at, dI_2, dL_1, Nat.reduceEqDiff, Nat.reduceAdd, Nat.reduceMul, false_and, and_false, true_and, and_true, ne_eq, not_true_eq_false, not_false_eq_true, b2_z, b2_o, b2_n, b2_01, nar_b, nar_0, nar_1, Bool.false_eq_true, Bool.true_eq_false]; rfl
      · simp (disch := omega) only [nI_add, pk_mul, nI_clamp, nI_leI, nI_ltI, nI_eq, inb_, iz1_, iz2_, iz3_, iz4_, iz5_, reduceIte, if_pos, if_neg, op_os, op_vIs, op_vLs, op_vRs, op_vNs, dI_at, dL_at, dI_2, dL_1, Nat.reduceEqDiff, Nat.reduceAdd, Nat.reduceMul, false_and, and_false, true_and, and_true, ne_eq, not_true_eq_false, not_false_eq_true, b2_z, b2_o, b2_n, b2_01, nar_b, nar_0, nar_1, Bool.false_eq_true, Bool.true_eq_false]
        have a1' : i' < (kq_ g k x0 n50_).length := a1
        exact q.2.1 i' l' a2 (Or.inl (by omega))
      · simp (disch := omega) only [nI_add, pk_mul, nI_clamp, nI_leI, nI_ltI, nI_eq, inb_, iz1_, iz2_, iz3_, iz4_, iz5_, reduceIte, if_pos, if_neg, op_os, op_vIs, op_vLs, op_vRs, op_vNs, dI_at, dL_at, dI_2, dL_1, Nat.reduceEqDiff, Nat.reduceAdd, Nat.reduceMul, false_and, and_false, true_and, and_true, ne_eq, not_true_eq_false, not_false_eq_true, b2_z, b2_o, b2_n, b2_01, nar_b, nar_0, nar_1, Bool.false_eq_true, Bool.true_eq_false]
        have a1' : i' < (kq_ g k x0 n50_).length := a1
        exact q.2.2.1 i' (by omega)
    intro u
    induction u with
    | zero =>
      intro i E hu hlen q
      have hle := (kq_p g k x0 (show n50_ ≤ i by omega)).length_le
      have hst := kq_st g k x0 (i := n50_) (j := i) (by omega) (by omega)
      rw [hst] at hlen q
      exact fin i E (by omega) (by omega) hlen q
    | succ u ih =>
      intro i E hu hlen q
      by_cases z : (kq_ g k x0 i).length ≤ i
      · have hst := kq_st g k x0 (i := i) (j := n50_) (by omega) z
        rw [← hst] at hlen q z
        exact fin i E (by omega) z hlen q
      · have hin : i < (kq_ g k x0 i).length := by omega
        have pI := kq_p g k x0 (show i ≤ n50_ by omega)
        have st := hF i E _ q.2.2.2 q.1 hin hlen (Nat.lt_of_lt_of_le hin pI.length_le)
        rcases letters i (by omega) hin k 0 (dI_ E 359 i (b2_ (ai i))) (by omega) hlen ⟨rs5_fr q.1 (by rw [dI_ne (by omega)]) (dI_ne (by omega)) rfl, fun i' l' h1 h2 => by simp (disch := omega) only [nI_add, pk_mul, nI_clamp, nI_leI, nI_ltI, nI_eq, inb_, iz1_, iz2_, iz3_, iz4_, iz5_, reduceIte, if_pos, if_neg, op_os, op_vIs, op_vLs, op_vRs, op_vNs, dI_at, dL_at, dI_2, dL_1, Nat.reduceEqDiff, Nat.reduceAdd, Nat.reduceMul, false_and, and_false, true_and, and_true, ne_eq, not_true_eq_false, not_false_eq_true, b2_z, b2_o, b2_n, b2_01, nar_b, nar_0, nar_1, Bool.false_eq_true, Bool.true_eq_false]; exact q.2.1 i' l' h1 h2, fun i' hi' => by
          simp (disch := omega) only [nI_add, pk_mul, nI_clamp, nI_leI, nI_ltI, nI_eq, inb_, iz1_, iz2_, iz3_, iz4_, iz5_, reduceIte, op_os, op_vIs, op_vLs, op_vRs, op_vNs, dI_at, dL_at, dI_2, dL_1, Nat.reduceEqDiff, Nat.reduceAdd, Nat.reduceMul, false_and, and_false, true_and, and_true, ne_eq, not_true_eq_false, not_false_eq_true, b2_z, b2_o, b2_n, b2_01, nar_b, nar_0, nar_1, Bool.false_eq_true, Bool.true_eq_false]
          by_cases y : i' = i
          · rw [if_pos y, y]
          · rw [if_neg y]
            exact q.2.2.1 i' (by omega), rw_1 q.2.2.2 (by omega)⟩ with ⟨D', a1, a2, a3⟩ | ⟨D', a1, a2, a3⟩
        · obtain ⟨D2, b1, b2⟩ := ih (i + 1) D' (by omega) a2 a3
          exact ⟨D2, (st.trans a1).trans b1, b2⟩
        · refine ⟨D', ?_, a3, fun y => absurd y (by omega)⟩
          rw [st, a1, decide_eq_false (by omega)]
          rfl
  exact main 501 0 E0 (by omega) (by show 1 ≤ 500; omega) ⟨h0, fun i' l' _ h => absurd h (by unfold bef_; omega), fun i' h => absurd h (by omega), hr0⟩
/-- the first set -/
theorem x135z {f : Nat → Nat × Nat} {x : Nat × Nat} (e : f 0 = x) (hx : dm_ x) (h : D.1 351 31 = nI 0) : ∃ D', k135_0 w (d + 1) (nI x.1) (lN x.2) D = some (some (.int (nI 0)), D') ∧ rs5_ D' f 1 ∧ rw_ D D' := by
  have h0 : rs5_ D f 0 := ⟨h, fun j hj => absurd hj (by omega)⟩
  refine ⟨_, (x135n h0 (by omega) (fun j hj => absurd hj (by omega)) hx (fun j hj => absurd hj (by omega))).trans (if_neg (by omega)), ⟨by simp (disch := omega) only [nI_add, pk_mul, nI_clamp, nI_leI, nI_ltI, nI_eq, inb_, iz1_, iz2_, iz3_, iz4_, iz5_, reduceIte, if_pos, if_neg, op_os, op_vIs, op_vLs, op_vRs, op_vNs, dI_at, dL_at, dI_2, dL_1, Nat.reduceEqDiff, Nat.reduceAdd, Nat.reduceMul, false_and, and_false, true_and, and_true, ne_eq, not_true_eq_false, not_false_eq_true, b2_z, b2_o, b2_n, b2_01, nar_b, nar_0, nar_1, Bool.false_eq_true, Bool.true_eq_false], fun j hj => ?_⟩, rw_1 (rw_1 (rw_L (rw_r D)) (by omega)) (Or.inl ⟨rfl, by unfold wf8_; omega⟩)⟩
  rw [show j = 0 by omega, e]
  exact ⟨by simp (disch := omega) only [nI_add, pk_mul, nI_clamp, nI_leI, nI_ltI, nI_eq, inb_, iz1_, iz2_, iz3_, iz4_, iz5_, reduceIte, if_pos, if_neg, op_os, op_vIs, op_vLs, op_vRs, op_vNs, dI_at, dL_at, dI_2, dL_1, Nat.reduceEqDiff, Nat.reduceAdd, Nat.reduceMul, false_and, and_false, true_and, and_true, ne_eq, not_true_eq_false, not_false_eq_true, b2_z, b2_o, b2_n, b2_01, nar_b, nar_0, nar_1, Bool.false_eq_true, Bool.true_eq_false], by simp (disch := omega) only [nI_add, pk_mul, nI_clamp, nI_leI, nI_ltI, nI_eq, inb_, iz1_, iz2_, iz3_, iz4_, iz5_, reduceIte, if_pos, if_neg, op_os, op_vIs, op_vLs, op_vRs, op_vNs, dI_at, dL_at, dI_2, dL_1, Nat.reduceEqDiff, Nat.reduceAdd, Nat.reduceMul, false_and, and_false, true_and, and_true, ne_eq, not_true_eq_false, not_false_eq_true, b2_z, b2_o, b2_n, b2_01, nar_b, nar_0, nar_1, Bool.false_eq_true, Bool.true_eq_false]⟩
end REFS
