/-! the i-th word, and the number of a word -/
def fz_ (f : Nat → Nat) : Nat → Nat → Nat
  | 0, _ => 0
  | k + 1, r => if sm_ f k ≤ r then k else fz_ f k r
theorem fz_1 {f : Nat → Nat} {r : Nat} : ∀ {k : Nat}, r < sm_ f k → fz_ f k r < k ∧ sm_ f (fz_ f k r) ≤ r ∧ r < sm_ f (fz_ f k r + 1)
  | 0, h => absurd h (Nat.not_lt_zero _)
  | k + 1, h => by
    unfold fz_
    by_cases c : sm_ f k ≤ r
    · rw [if_pos c]
      exact ⟨Nat.lt_succ_self k, c, h⟩
    · rw [if_neg c]
      obtain ⟨h1, h2⟩ := fz_1 (k := k) (r := r) (f := f) (by omega)
      exact ⟨by omega, h2⟩
def wlt_ (M : ma_) (n : Nat) (x : Nat × Nat) : Nat := fz_ (fun l => wc_ M n (M.2.2.2.1 x.1 l)) (M.1) x.2
def wn_ (M : ma_) (n : Nat) (x : Nat × Nat) : Nat × Nat := (M.2.2.2.1 x.1 (wlt_ M n x), x.2 - sm_ (fun l => wc_ M n (M.2.2.2.1 x.1 l)) (wlt_ M n x))
def wst_ (M : ma_) (N r : Nat) : Nat → Nat × Nat
  | 0 => (M.2.2.1, r)
  | j + 1 => wn_ M (N - j - 1) (wst_ M N r j)
/-- the letters of the word -/
def wt_ (M : ma_) (N r : Nat) (j : Nat) : Nat := 97 + wlt_ M (N - j - 1) (wst_ M N r j)
def fl_ (M : ma_) : Nat → Nat → Nat → Option (Nat × Nat)
  | 0, _, _ => none
  | q + 1, m, r => if r < wc_ M m (M.2.2.1) then some (m, r) else fl_ M q (m + 1) (r - wc_ M m (M.2.2.1))
theorem fl_b {M : ma_} : ∀ {q m r : Nat} {x : Nat × Nat}, fl_ M q m r = some x → x.1 < m + q ∧ x.2 < wc_ M x.1 (M.2.2.1)
  | 0, m, r, x, h => by cases h
  | q + 1, m, r, x, h => by
    unfold fl_ at h
    by_cases c : r < wc_ M m (M.2.2.1)
    · rw [if_pos c] at h
      obtain rfl := Option.some.inj h
      exact ⟨by show m < m + (q + 1); omega, c⟩
    · rw [if_neg c] at h
      obtain ⟨h1, h2⟩ := fl_b (q := q) h
      exact ⟨by omega, h2⟩
theorem wst_v {M : ma_} (hM : wm_ M) {N r : Nat} (hr : r < wc_ M N (M.2.2.1)) : ∀ j, j ≤ N → (wst_ M N r j).1 < M.2.1 ∧ (wst_ M N r j).2 < wc_ M (N - j) (wst_ M N r j).1
  | 0, _ => ⟨hM.2.2.1, hr⟩
  | j + 1, h => by
    obtain ⟨h1, h2⟩ := wst_v hM hr j (by omega)
    rw [show N - j = (N - j - 1) + 1 by omega] at h2
    obtain ⟨g1, g2, g3⟩ := fz_1 (f := fun l => wc_ M (N - j - 1) (M.2.2.2.1 (wst_ M N r j).1 l)) (k := M.1) h2
    refine ⟨hM.2.2.2 _ _ h1 g1, ?_⟩
    rw [sm_s] at g3
    show (wst_ M N r j).2 - sm_ _ (wlt_ M (N - j - 1) (wst_ M N r j)) < wc_ M (N - (j + 1)) (M.2.2.2.1 (wst_ M N r j).1 (wlt_ M (N - j - 1) (wst_ M N r j)))
    rw [show N - (j + 1) = N - j - 1 by omega]
    unfold wlt_
    have : 0 + 0 = 0 := rfl
    omega
theorem wst_l {M : ma_} (hM : wm_ M) {N r : Nat} (hr : r < wc_ M N (M.2.2.1)) {j : Nat} (h : j < N) : wlt_ M (N - j - 1) (wst_ M N r j) < M.1 ∧ sm_ (fun l => wc_ M (N - j - 1) (M.2.2.2.1 (wst_ M N r j).1 l)) (wlt_ M (N - j - 1) (wst_ M N r j)) ≤ (wst_ M N r j).2 ∧ (wst_ M N r j).2 < sm_ (fun l => wc_ M (N - j - 1) (M.2.2.2.1 (wst_ M N r j).1 l)) (wlt_ M (N - j - 1) (wst_ M N r j) + 1) := by
  obtain ⟨h1, h2⟩ := wst_v hM hr j (by omega)
  rw [show N - j = (N - j - 1) + 1 by omega] at h2
  exact fz_1 (f := fun l => wc_ M (N - j - 1) (M.2.2.2.1 (wst_ M N r j).1 l)) (k := M.1) h2
theorem by4 {l : Nat} (h : l < 4) : vp_nar .byte ((nI (97 + l)).toInt8.toInt32) &&& nI 255 = nI (97 + l) := (show ∀ l ∈ List.range 4, vp_nar .byte ((nI (97 + l)).toInt8.toInt32) &&& nI 255 = nI (97 + l) by decide) l (List.mem_range.mpr h)
section WORD
variable {w : (Nat → Int32) × Nat} {d : Nat} {D : dy_} {S : sp_} {B : Nat} {a : Nat} {M : ma_}
theorem cm_sx {D' : dy_} {A : Nat → Prop} (h : cm_ D a M) (g : sx_ A D D') (h0 : ¬ A a) (h1 : ¬ A (a + 1)) (h2 : ¬ A (a + 2)) : cm_ D' a M := cm_fr h (g _ h0).1 (g _ h1).1 (g _ h2).1
/-- the search of one letter, the class -/
theorem x59a {N n p r j : Nat} (ha : a ∈ ml_) (hc : cm_ D a M) (hM : wm_ M) (hcap : M.2.1 ≤ cap_ a) (hn : M.2.1 ≤ 60) (h : cw_ (D.2 341) M (n + 1)) (hN : N - j - 1 = n) (hj : j < N) (hN3 : N ≤ 30) (hp : p < M.2.1) (hr : r < 2 ^ 62) {L : Nat} (hL : L < M.1) (h1 : sm_ (fun l => wc_ M n (M.2.2.2.1 p l)) L ≤ r) (h2 : r < sm_ (fun l => wc_ M n (M.2.2.2.1 p l)) (L + 1)) : ∀ q l, l + q = L → k59_46 w (d + 2) a (nI N) (lN (r - sm_ (fun l => wc_ M n (M.2.2.2.1 p l)) l)) (nI p) (nI j) (nI l) (lN (wc_ M n (M.2.2.2.1 p l))) D = k59_98 w (d + 2) a (nI N) (lN (r - sm_ (fun l => wc_ M n (M.2.2.2.1 p l)) L)) (nI p) (nI j) (nI L) D := by
  have hk := hM.1
  intro q
  induction q with
  | zero =>
    intro l hl
    obtain rfl : l = L := by omega
    rw [sm_s] at h2
    have hb := wc_b hk.2 (n := n) (M.2.2.2.1 p l) (by omega)
    have : r - sm_ (fun l => wc_ M n (M.2.2.2.1 p l)) l < wc_ M n (M.2.2.2.1 p l) := by
      have h2' : r < sm_ (fun l => wc_ M n (M.2.2.2.1 p l)) l + wc_ M n (M.2.2.2.1 p l) := h2
      omega
    rw [e59_46 ha]
    simp (disch := omega) only [nI_add, pk_mul, nI_clamp, nI_leI, nI_ltI, nI_eq, inb_, iz1_, iz2_, iz3_, iz4_, iz5_, reduceIte, if_pos, if_neg, op_os, op_vIs, op_vLs, op_vRs, op_vNs, dI_at, dL_at, dI_2, dL_1, Nat.reduceEqDiff, Nat.reduceAdd, Nat.reduceMul, false_and, and_false, true_and, and_true, ne_eq, not_true_eq_false, not_false_eq_true, b2_z, b2_o, b2_n, b2_01, nar_b, nar_0, nar_1, Bool.false_eq_true, Bool.true_eq_false, lcn1]
  | succ q ih =>
    intro l hl
    have h3 := Nat.le_trans (sm_mono (f := fun l => wc_ M n (M.2.2.2.1 p l)) (show l + 1 ≤ L by omega)) h1
    rw [sm_s] at h3
    have h3' : sm_ (fun l => wc_ M n (M.2.2.2.1 p l)) l + wc_ M n (M.2.2.2.1 p l) ≤ r := h3
    have hb := wc_b hk.2 (n := n) (M.2.2.2.1 p l) (by omega)
    rw [e59_46 ha]
    simp (disch := omega) only [nI_add, pk_mul, nI_clamp, nI_leI, nI_ltI, nI_eq, inb_, iz1_, iz2_, iz3_, iz4_, iz5_, reduceIte, if_pos, if_neg, op_os, op_vIs, op_vLs, op_vRs, op_vNs, dI_at, dL_at, dI_2, dL_1, Nat.reduceEqDiff, Nat.reduceAdd, Nat.reduceMul, false_and, and_false, true_and, and_true, ne_eq, not_true_eq_false, not_false_eq_true, b2_z, b2_o, b2_n, b2_01, nar_b, nar_0, nar_1, Bool.false_eq_true, Bool.true_eq_false, lcn1, hc.1, pk_sub, cx9 ha hc hcap hk.2 hp (show l + 1 < M.1 by omega), hN, x60 h (by omega) hn (Nat.lt_succ_self n) (hM.2.2.2 p (l + 1) hp (by omega)), lN_sub]
    have := ih (l + 1) (by omega)
    rw [sm_s, show r - (sm_ (fun l => wc_ M n (M.2.2.2.1 p l)) l + wc_ M n (M.2.2.2.1 p l)) = r - sm_ (fun l => wc_ M n (M.2.2.2.1 p l)) l - wc_ M n (M.2.2.2.1 p l) by omega] at this
    exact this
/-- spellOfLength -/
theorem x59 {N r : Nat} (ha : a ∈ ml_) (ha2 : a + 2 < 21) (hc : cm_ D a M) (hM : wm_ M) (hcap : M.2.1 ≤ cap_ a) (hn : M.2.1 ≤ 60) (h : cw_ (D.2 341) M (N + 1)) (hN : N ≤ 30) (hr : r < wc_ M N (M.2.2.1)) : ∃ D', k59_0 w (d + 2) a (nI N) (lN r) D = some (none, D') ∧ tp_ D' N (wt_ M N r) ∧ sx_ (fun b => b = 21 ∨ b = 22) D D' ∧ D'.2 = D.2 := by
  have hk := hM.1
  rw [e59_0 ha]
  simp (disch := omega) only [nI_add, pk_mul, nI_clamp, nI_leI, nI_ltI, nI_eq, inb_, iz1_, iz2_, iz3_, iz4_, iz5_, reduceIte, if_pos, if_neg, op_os, op_vIs, op_vLs, op_vRs, op_vNs, dI_at, dL_at, dI_2, dL_1, Nat.reduceEqDiff, Nat.reduceAdd, Nat.reduceMul, false_and, and_false, true_and, and_true, ne_eq, not_true_eq_false, not_false_eq_true, b2_z, b2_o, b2_n, b2_01, nar_b, nar_0, nar_1, Bool.false_eq_true, Bool.true_eq_false, hc.2.2.1]
  obtain ⟨D', e1, e2, e3, e4⟩ := lp_ (fun j (E : dy_) => k59_18 w (d + 2) a (nI N) (lN (wst_ M N r j).2) (nI (wst_ M N r j).1) (nI j) E) (fun j E => (E.1 21 1 = nI N ∧ ∀ i, i < j → E.1 22 i = nI (wt_ M N r i)) ∧ sx_ (fun b => b = 21 ∨ b = 22) D E ∧ E.2 = D.2) N (s := dI_ D 21 1 (nI N)) (by
    rintro j E hj ⟨t1, t2, t3⟩
    have hc' := cm_sx hc t2 (by omega) (by omega) (by omega)
    obtain ⟨v1, v2⟩ := wst_v hM hr j (by omega)
    obtain ⟨l1, l2, l3⟩ := wst_l hM hr hj
    have hb := wc_b hk.2 (n := N - j) (wst_ M N r j).1 (by omega)
    have hcw : cw_ (E.2 341) M (N - j - 1 + 1) := by
      rw [t3]
      exact fun m p hm hp => h m p (by omega) hp
    refine ⟨dI_ E 22 j (nI (wt_ M N r j)), ?_, ⟨?_, fun i hi => ?_⟩, sx_t t2 (sx_I (Or.inr rfl)), t3⟩
    · show k59_18 w (d + 2) a (nI N) (lN (wst_ M N r j).2) (nI (wst_ M N r j).1) (nI j) E = _
      rw [e59_18 ha]
      simp (disch := omega) only [nI_add, pk_mul, nI_clamp, nI_leI, nI_ltI, nI_eq, inb_, iz1_, iz2_, iz3_, iz4_, iz5_, reduceIte, if_pos, if_neg, op_os, op_vIs, op_vLs, op_vRs, op_vNs, dI_at, dL_at, dI_2, dL_1, Nat.reduceEqDiff, Nat.reduceAdd, Nat.reduceMul, false_and, and_false, true_and, and_true, ne_eq, not_true_eq_false, not_false_eq_true, b2_z, b2_o, b2_n, b2_01, nar_b, nar_0, nar_1, Bool.false_eq_true, Bool.true_eq_false, cx9 ha hc' hcap hk.2 v1 (show 0 < M.1 by omega), pk_sub, x60 hcw (by omega) hn (Nat.lt_succ_self _) (hM.2.2.2 _ 0 v1 (by omega))]
      refine (x59a ha hc' hM hcap hn hcw rfl hj hN v1 (by omega) l1 l2 l3 (wlt_ M (N - j - 1) (wst_ M N r j)) 0 (by omega)).trans ?_
      rw [e59_98 ha, e51_0]
      simp (disch := omega) only [nI_add, pk_mul, nI_clamp, nI_leI, nI_ltI, nI_eq, inb_, iz1_, iz2_, iz3_, iz4_, iz5_, reduceIte, if_pos, if_neg, op_os, op_vIs, op_vLs, op_vRs, op_vNs, dI_at, dL_at, dI_2, dL_1, Nat.reduceEqDiff, Nat.reduceAdd, Nat.reduceMul, false_and, and_false, true_and, and_true, ne_eq, not_true_eq_false, not_false_eq_true, b2_z, b2_o, b2_n, b2_01, nar_b, nar_0, nar_1, Bool.false_eq_true, Bool.true_eq_false]
      rw [cx9 ha (cm_sx (A := fun b => b = 22) hc' (sx_I rfl) (by omega) (by omega) (by omega)) hcap hk.2 v1 l1]
      rfl
    · simp (disch := omega) only [nI_add, pk_mul, nI_clamp, nI_leI, nI_ltI, nI_eq, inb_, iz1_, iz2_, iz3_, iz4_, iz5_, reduceIte, if_pos, if_neg, op_os, op_vIs, op_vLs, op_vRs, op_vNs, dI_at, dL_at, dI_2, dL_1, Nat.reduceEqDiff, Nat.reduceAdd, Nat.reduceMul, false_and, and_false, true_and, and_true, ne_eq, not_true_eq_false, not_false_eq_true, b2_z, b2_o, b2_n, b2_01, nar_b, nar_0, nar_1, Bool.false_eq_true, Bool.true_eq_false]
      exact t1.1
    · simp (disch := omega) only [nI_add, pk_mul, nI_clamp, nI_leI, nI_ltI, nI_eq, inb_, iz1_, iz2_, iz3_, iz4_, iz5_, reduceIte, op_os, op_vIs, op_vLs, op_vRs, op_vNs, dI_at, dL_at, dI_2, dL_1, Nat.reduceEqDiff, Nat.reduceAdd, Nat.reduceMul, false_and, and_false, true_and, and_true, ne_eq, not_true_eq_false, not_false_eq_true, b2_z, b2_o, b2_n, b2_01, nar_b, nar_0, nar_1, Bool.false_eq_true, Bool.true_eq_false]
      by_cases z : i = j
      · rw [if_pos z, z]
      · rw [if_neg z]
        exact t1.2 i (by omega)) ⟨⟨by simp (disch := omega) only [nI_add, pk_mul, nI_clamp, nI_leI, nI_ltI, nI_eq, inb_, iz1_, iz2_, iz3_, iz4_, iz5_, reduceIte, if_pos, if_neg, op_os, op_vIs, op_vLs, op_vRs, op_vNs, dI_at, dL_at, dI_2, dL_1, Nat.reduceEqDiff, Nat.reduceAdd, Nat.reduceMul, false_and, and_false, true_and, and_true, ne_eq, not_true_eq_false, not_false_eq_true, b2_z, b2_o, b2_n, b2_01, nar_b, nar_0, nar_1, Bool.false_eq_true, Bool.true_eq_false], fun i hi => absurd hi (by omega)⟩, sx_I (Or.inl rfl), rfl⟩
  refine ⟨D', e1.trans ?_, e2, e3, e4⟩
  show k59_18 w (d + 2) a (nI N) (lN (wst_ M N r N).2) (nI (wst_ M N r N).1) (nI N) D' = _
  rw [e59_18 ha]
  simp (disch := omega) only [nI_add, pk_mul, nI_clamp, nI_leI, nI_ltI, nI_eq, inb_, iz1_, iz2_, iz3_, iz4_, iz5_, reduceIte, if_pos, if_neg, op_os, op_vIs, op_vLs, op_vRs, op_vNs, dI_at, dL_at, dI_2, dL_1, Nat.reduceEqDiff, Nat.reduceAdd, Nat.reduceMul, false_and, and_false, true_and, and_true, ne_eq, not_true_eq_false, not_false_eq_true, b2_z, b2_o, b2_n, b2_01, nar_b, nar_0, nar_1, Bool.false_eq_true, Bool.true_eq_false, Nat.le_refl]
/-- spell -/
theorem x57 (ha : a ∈ ml_) (ha2 : a + 2 < 21) (hc : cm_ D a M) (hM : wm_ M) (hcap : M.2.1 ≤ cap_ a) (hn : M.2.1 ≤ 60) : ∀ q m r (E : dy_), m + q = 31 → ol_ 341 D E → cw_ (E.2 341) M m → r < 2 ^ 63 → (fl_ M q m r = none → ∃ D', k57_6 w (d + 4) a (lN r) (nI m) E = some (some (.int (-1)), D') ∧ ol_ 341 D D') ∧ ∀ x, fl_ M q m r = some x → ∃ D', k57_6 w (d + 4) a (lN r) (nI m) E = some (some (.int (nI x.1)), D') ∧ tp_ D' x.1 (wt_ M x.1 x.2) ∧ sx_ (fun b => b = 21 ∨ b = 22 ∨ b = 341) D D' ∧ ∀ c, c ≠ 21 → c ≠ 22 → D'.1 c = D.1 c := by
  have hk := hM.1
  intro q
  induction q with
  | zero =>
    intro m r E hq t1 t2 hr
    refine ⟨fun _ => ⟨E, ?_, t1⟩, fun x hx => by cases hx⟩
    rw [e57_6 ha]
    simp (disch := omega) only [nI_add, pk_mul, nI_clamp, nI_leI, nI_ltI, nI_eq, inb_, iz1_, iz2_, iz3_, iz4_, iz5_, reduceIte, if_pos, if_neg, op_os, op_vIs, op_vLs, op_vRs, op_vNs, dI_at, dL_at, dI_2, dL_1, Nat.reduceEqDiff, Nat.reduceAdd, Nat.reduceMul, false_and, and_false, true_and, and_true, ne_eq, not_true_eq_false, not_false_eq_true, b2_z, b2_o, b2_n, b2_01, nar_b, nar_0, nar_1, Bool.false_eq_true, Bool.true_eq_false]
  | succ q ih =>
    intro m r E hq t1 t2 hr
    have hb := wc_b hk.2 (n := m) (M.2.2.1) (by omega)
    obtain ⟨E', f1, f2, f3⟩ := x61 (w := w) (d := d) ha (cm_ol hc t1.1) hM hcap hn t2 (by omega)
    have f4 := ol_t t1 f2
    have hc' := cm_ol hc f4.1
    unfold fl_
    rw [e57_6 ha]
    by_cases c : r < wc_ M m (M.2.2.1)
    · rw [if_pos c]
      refine ⟨fun z => (by cases z), fun x hx => ?_⟩
      obtain rfl := Option.some.inj hx
      obtain ⟨D', g1, g2, g3, g4⟩ := x59 (w := w) (d := d + 1) ha ha2 hc' hM hcap hn f3 (by omega) c
      refine ⟨D', ?_, g2, fun b hb => ?_, fun c h1 h2 => ?_⟩
      · simp (disch := omega) only [nI_add, pk_mul, nI_clamp, nI_leI, nI_ltI, nI_eq, inb_, iz1_, iz2_, iz3_, iz4_, iz5_, reduceIte, if_pos, if_neg, op_os, op_vIs, op_vLs, op_vRs, op_vNs, dI_at, dL_at, dI_2, dL_1, Nat.reduceEqDiff, Nat.reduceAdd, Nat.reduceMul, false_and, and_false, true_and, and_true, ne_eq, not_true_eq_false, not_false_eq_true, b2_z, b2_o, b2_n, b2_01, nar_b, nar_0, nar_1, Bool.false_eq_true, Bool.true_eq_false, f1, hc'.2.2.1, x60 f3 (by omega) hn (Nat.lt_succ_self m) hM.2.2.1, lcn2, g1]
      · rw [(g3 b (by omega)).1, (g3 b (by omega)).2, f4.1, f4.2 b (by omega)]
        exact ⟨rfl, rfl⟩
      · rw [(g3 c (by omega)).1, f4.1]
    · rw [if_neg c]
      simp (disch := omega) only [nI_add, pk_mul, nI_clamp, nI_leI, nI_ltI, nI_eq, inb_, iz1_, iz2_, iz3_, iz4_, iz5_, reduceIte, if_pos, if_neg, op_os, op_vIs, op_vLs, op_vRs, op_vNs, dI_at, dL_at, dI_2, dL_1, Nat.reduceEqDiff, Nat.reduceAdd, Nat.reduceMul, false_and, and_false, true_and, and_true, ne_eq, not_true_eq_false, not_false_eq_true, b2_z, b2_o, b2_n, b2_01, nar_b, nar_0, nar_1, Bool.false_eq_true, Bool.true_eq_false, f1, hc'.2.2.1, x60 f3 (by omega) hn (Nat.lt_succ_self m) hM.2.2.1, lcn2, lN_sub]
      exact ih (m + 1) (r - wc_ M m (M.2.2.1)) E' (by omega) f4 f3 (by omega)
/-- the search of one letter, the reference -/
theorem x172a {m N n p r j : Nat} (hm : m < 110) (hr0 : rm_ D m M) (hM : wm_ M) (hn : M.2.1 ≤ 60) (h : cw_ (D.2 383) M (n + 1)) (hN : N - j - 1 = n) (hj : j < N) (hN3 : N ≤ 30) (hp : p < M.2.1) (hr : r < 2 ^ 62) {L : Nat} (hL : L < M.1) (h1 : sm_ (fun l => wc_ M n (M.2.2.2.1 p l)) L ≤ r) (h2 : r < sm_ (fun l => wc_ M n (M.2.2.2.1 p l)) (L + 1)) : ∀ q l, l + q = L → k172_126 w (d + 2) (nI m) (lN (r - sm_ (fun l => wc_ M n (M.2.2.2.1 p l)) l)) (nI N) (nI p) (nI j) (nI l) D = k172_116 w (d + 2) (nI m) (lN (r - sm_ (fun l => wc_ M n (M.2.2.2.1 p l)) L)) (nI N) (nI (M.2.2.2.1 p L)) (nI (j + 1)) (dI_ D 357 j (vp_nar .byte ((nI (97 + L)).toInt8.toInt32))) := by
  have hk := hM.1
  intro q
  induction q with
  | zero =>
    intro l hl
    obtain rfl : l = L := by omega
    rw [sm_s] at h2
    have hb := wc_b hk.2 (n := n) (M.2.2.2.1 p l) (by omega)
    have : r - sm_ (fun l => wc_ M n (M.2.2.2.1 p l)) l < wc_ M n (M.2.2.2.1 p l) := by
      have h2' : r < sm_ (fun l => wc_ M n (M.2.2.2.1 p l)) l + wc_ M n (M.2.2.2.1 p l) := h2
      omega
    have h5 := hM.2.2.2 p l hp hL
    have h6 := h n (M.2.2.2.1 p l) (by omega) h5
    rw [Nat.mul_comm] at h6
    rw [e172_126]
    simp (disch := omega) only [nI_add, pk_mul, nI_clamp, nI_leI, nI_ltI, nI_eq, inb_, iz1_, iz2_, iz3_, iz4_, iz5_, reduceIte, if_pos, if_neg, op_os, op_vIs, op_vLs, op_vRs, op_vNs, dI_at, dL_at, dI_2, dL_1, Nat.reduceEqDiff, Nat.reduceAdd, Nat.reduceMul, false_and, and_false, true_and, and_true, ne_eq, not_true_eq_false, not_false_eq_true, b2_z, b2_o, b2_n, b2_01, nar_b, nar_0, nar_1, Bool.false_eq_true, Bool.true_eq_false, x112 hm ⟨hn, hk.2⟩ hr0 hp hL, pk_sub, hN, h6, lcn1]
    rw [x112 hm ⟨hn, hk.2⟩ (rm_fr hr0 fun c hc => by funext z; simp (disch := omega) only [nI_add, pk_mul, nI_clamp, nI_leI, nI_ltI, nI_eq, inb_, iz1_, iz2_, iz3_, iz4_, iz5_, reduceIte, if_pos, if_neg, op_os, op_vIs, op_vLs, op_vRs, op_vNs, dI_at, dL_at, dI_2, dL_1, Nat.reduceEqDiff, Nat.reduceAdd, Nat.reduceMul, false_and, and_false, true_and, and_true, ne_eq, not_true_eq_false, not_false_eq_true, b2_z, b2_o, b2_n, b2_01, nar_b, nar_0, nar_1, Bool.false_eq_true, Bool.true_eq_false]) hp hL]
    simp (disch := omega) only [nI_add, pk_mul, nI_clamp, nI_leI, nI_ltI, nI_eq, inb_, iz1_, iz2_, iz3_, iz4_, iz5_, reduceIte, if_pos, if_neg, op_os, op_vIs, op_vLs, op_vRs, op_vNs, dI_at, dL_at, dI_2, dL_1, Nat.reduceEqDiff, Nat.reduceAdd, Nat.reduceMul, false_and, and_false, true_and, and_true, ne_eq, not_true_eq_false, not_false_eq_true, b2_z, b2_o, b2_n, b2_01, nar_b, nar_0, nar_1, Bool.false_eq_true, Bool.true_eq_false]
  | succ q ih =>
    intro l hl
    have h3 := Nat.le_trans (sm_mono (f := fun l => wc_ M n (M.2.2.2.1 p l)) (show l + 1 ≤ L by omega)) h1
    rw [sm_s] at h3
    have h3' : sm_ (fun l => wc_ M n (M.2.2.2.1 p l)) l + wc_ M n (M.2.2.2.1 p l) ≤ r := h3
    have hb := wc_b hk.2 (n := n) (M.2.2.2.1 p l) (by omega)
    have h5 := hM.2.2.2 p l hp (by omega)
    have h6 := h n (M.2.2.2.1 p l) (by omega) h5
    rw [Nat.mul_comm] at h6
    rw [e172_126]
    simp (disch := omega) only [nI_add, pk_mul, nI_clamp, nI_leI, nI_ltI, nI_eq, inb_, iz1_, iz2_, iz3_, iz4_, iz5_, reduceIte, if_pos, if_neg, op_os, op_vIs, op_vLs, op_vRs, op_vNs, dI_at, dL_at, dI_2, dL_1, Nat.reduceEqDiff, Nat.reduceAdd, Nat.reduceMul, false_and, and_false, true_and, and_true, ne_eq, not_true_eq_false, not_false_eq_true, b2_z, b2_o, b2_n, b2_01, nar_b, nar_0, nar_1, Bool.false_eq_true, Bool.true_eq_false, x112 hm ⟨hn, hk.2⟩ hr0 hp (show l < M.1 by omega), pk_sub, hN, h6, lcn1, lN_sub]
    have := ih (l + 1) (by omega)
    rw [sm_s, show r - (sm_ (fun l => wc_ M n (M.2.2.2.1 p l)) l + wc_ M n (M.2.2.2.1 p l)) = r - sm_ (fun l => wc_ M n (M.2.2.2.1 p l)) l - wc_ M n (M.2.2.2.1 p l) by omega] at this
    exact this
/-- the word of the reference -/
theorem x172b {m N r : Nat} (hm : m < 110) (hr0 : rm_ D m M) (hM : wm_ M) (hn : M.2.1 ≤ 60) (h : cw_ (D.2 383) M 31) (hN : N ≤ 30) (hr : r < wc_ M N (M.2.2.1)) : ∃ D', k172_90 w (d + 2) (nI m) (lN r) (nI N) D = some (some (.int (nI N)), D') ∧ yp_ D' N (wt_ M N r) ∧ (∀ c, c ≠ 351 → c ≠ 357 → D'.1 c = D.1 c) ∧ (∀ j, j ≠ 7 → D'.1 351 j = D.1 351 j) ∧ D'.2 = D.2 := by
  have hk := hM.1
  rw [e172_90]
  simp (disch := omega) only [nI_add, pk_mul, nI_clamp, nI_leI, nI_ltI, nI_eq, inb_, iz1_, iz2_, iz3_, iz4_, iz5_, reduceIte, if_pos, if_neg, op_os, op_vIs, op_vLs, op_vRs, op_vNs, dI_at, dL_at, dI_2, dL_1, Nat.reduceEqDiff, Nat.reduceAdd, Nat.reduceMul, false_and, and_false, true_and, and_true, ne_eq, not_true_eq_false, not_false_eq_true, b2_z, b2_o, b2_n, b2_01, nar_b, nar_0, nar_1, Bool.false_eq_true, Bool.true_eq_false, hr0.2.2.1]
  obtain ⟨D', e1, e2, e3, e4, e5⟩ := lp_ (fun j (E : dy_) => k172_116 w (d + 2) (nI m) (lN (wst_ M N r j).2) (nI N) (nI (wst_ M N r j).1) (nI j) E) (fun j E => (E.1 351 7 = nI N ∧ ∀ i, i < j → E.1 357 i &&& nI 255 = nI (wt_ M N r i)) ∧ (∀ c, c ≠ 351 → c ≠ 357 → E.1 c = D.1 c) ∧ (∀ j, j ≠ 7 → E.1 351 j = D.1 351 j) ∧ E.2 = D.2) N (s := dI_ D 351 7 (nI N)) (by
    rintro j E hj ⟨t1, t2, t3, t4⟩
    have hr' := rm_fr hr0 (D' := E) fun c hc => t2 c (by omega) (by omega)
    obtain ⟨v1, v2⟩ := wst_v hM hr j (by omega)
    obtain ⟨l1, l2, l3⟩ := wst_l hM hr hj
    have hb := wc_b hk.2 (n := N - j) (wst_ M N r j).1 (by omega)
    have hcw : cw_ (E.2 383) M (N - j - 1 + 1) := by
      rw [t4]
      exact fun m p hm hp => h m p (by omega) hp
    refine ⟨dI_ E 357 j (vp_nar .byte ((nI (wt_ M N r j)).toInt8.toInt32)), ?_, ⟨?_, fun i hi => ?_⟩, fun c h1 h2 => ?_, fun i h1 => ?_, t4⟩
    · show k172_116 w (d + 2) (nI m) (lN (wst_ M N r j).2) (nI N) (nI (wst_ M N r j).1) (nI j) E = _
      rw [e172_116]
      simp (disch := omega) only [nI_add, pk_mul, nI_clamp, nI_leI, nI_ltI, nI_eq, inb_, iz1_, iz2_, iz3_, iz4_, iz5_, reduceIte, if_pos, if_neg, op_os, op_vIs, op_vLs, op_vRs, op_vNs, dI_at, dL_at, dI_2, dL_1, Nat.reduceEqDiff, Nat.reduceAdd, Nat.reduceMul, false_and, and_false, true_and, and_true, ne_eq, not_true_eq_false, not_false_eq_true, b2_z, b2_o, b2_n, b2_01, nar_b, nar_0, nar_1, Bool.false_eq_true, Bool.true_eq_false]
      exact x172a hm hr' hM hn hcw rfl hj hN v1 (by omega) l1 l2 l3 (wlt_ M (N - j - 1) (wst_ M N r j)) 0 (by omega)
    · simp (disch := omega) only [nI_add, pk_mul, nI_clamp, nI_leI, nI_ltI, nI_eq, inb_, iz1_, iz2_, iz3_, iz4_, iz5_, reduceIte, if_pos, if_neg, op_os, op_vIs, op_vLs, op_vRs, op_vNs, dI_at, dL_at, dI_2, dL_1, Nat.reduceEqDiff, Nat.reduceAdd, Nat.reduceMul, false_and, and_false, true_and, and_true, ne_eq, not_true_eq_false, not_false_eq_true, b2_z, b2_o, b2_n, b2_01, nar_b, nar_0, nar_1, Bool.false_eq_true, Bool.true_eq_false]
      exact t1.1
    · simp (disch := omega) only [nI_add, pk_mul, nI_clamp, nI_leI, nI_ltI, nI_eq, inb_, iz1_, iz2_, iz3_, iz4_, iz5_, reduceIte, op_os, op_vIs, op_vLs, op_vRs, op_vNs, dI_at, dL_at, dI_2, dL_1, Nat.reduceEqDiff, Nat.reduceAdd, Nat.reduceMul, false_and, and_false, true_and, and_true, ne_eq, not_true_eq_false, not_false_eq_true, b2_z, b2_o, b2_n, b2_01, nar_b, nar_0, nar_1, Bool.false_eq_true, Bool.true_eq_false]
      by_cases z : i = j
      · rw [if_pos z, z]
        exact by4 (show wlt_ M (N - j - 1) (wst_ M N r j) < 4 by omega)
      · rw [if_neg z]
        exact t1.2 i (by omega)
    · rw [← t2 c h1 h2]
      funext z
      simp (disch := omega) only [nI_add, pk_mul, nI_clamp, nI_leI, nI_ltI, nI_eq, inb_, iz1_, iz2_, iz3_, iz4_, iz5_, reduceIte, if_pos, if_neg, op_os, op_vIs, op_vLs, op_vRs, op_vNs, dI_at, dL_at, dI_2, dL_1, Nat.reduceEqDiff, Nat.reduceAdd, Nat.reduceMul, false_and, and_false, true_and, and_true, ne_eq, not_true_eq_false, not_false_eq_true, b2_z, b2_o, b2_n, b2_01, nar_b, nar_0, nar_1, Bool.false_eq_true, Bool.true_eq_false]
    · rw [← t3 i h1]
      simp (disch := omega) only [nI_add, pk_mul, nI_clamp, nI_leI, nI_ltI, nI_eq, inb_, iz1_, iz2_, iz3_, iz4_, iz5_, reduceIte, if_pos, if_neg, op_os, op_vIs, op_vLs, op_vRs, op_vNs, dI_at, dL_at, dI_2, dL_1, Nat.reduceEqDiff, Nat.reduceAdd, Nat.reduceMul, false_and, and_false, true_and, and_true, ne_eq, not_true_eq_false, not_false_eq_true, b2_z, b2_o, b2_n, b2_01, nar_b, nar_0, nar_1, Bool.false_eq_true, Bool.true_eq_false]) ⟨⟨by simp (disch := omega) only [nI_add, pk_mul, nI_clamp, nI_leI, nI_ltI, nI_eq, inb_, iz1_, iz2_, iz3_, iz4_, iz5_, reduceIte, if_pos, if_neg, op_os, op_vIs, op_vLs, op_vRs, op_vNs, dI_at, dL_at, dI_2, dL_1, Nat.reduceEqDiff, Nat.reduceAdd, Nat.reduceMul, false_and, and_false, true_and, and_true, ne_eq, not_true_eq_false, not_false_eq_true, b2_z, b2_o, b2_n, b2_01, nar_b, nar_0, nar_1, Bool.false_eq_true, Bool.true_eq_false], fun i hi => absurd hi (by omega)⟩, fun c h1 h2 => by funext z; simp (disch := omega) only [nI_add, pk_mul, nI_clamp, nI_leI, nI_ltI, nI_eq, inb_, iz1_, iz2_, iz3_, iz4_, iz5_, reduceIte, if_pos, if_neg, op_os, op_vIs, op_vLs, op_vRs, op_vNs, dI_at, dL_at, dI_2, dL_1, Nat.reduceEqDiff, Nat.reduceAdd, Nat.reduceMul, false_and, and_false, true_and, and_true, ne_eq, not_true_eq_false, not_false_eq_true, b2_z, b2_o, b2_n, b2_01, nar_b, nar_0, nar_1, Bool.false_eq_true, Bool.true_eq_false], fun i h1 => by simp (disch := omega) only [nI_add, pk_mul, nI_clamp, nI_leI, nI_ltI, nI_eq, inb_, iz1_, iz2_, iz3_, iz4_, iz5_, reduceIte, if_pos, if_neg, op_os, op_vIs, op_vLs, op_vRs, op_vNs, dI_at, dL_at, dI_2, dL_1, Nat.reduceEqDiff, Nat.reduceAdd, Nat.reduceMul, false_and, and_false, true_and, and_true, ne_eq, not_true_eq_false, not_false_eq_true, b2_z, b2_o, b2_n, b2_01, nar_b, nar_0, nar_1, Bool.false_eq_true, Bool.true_eq_false], rfl⟩
  refine ⟨D', e1.trans ?_, e2, e3, e4, e5⟩
  show k172_116 w (d + 2) (nI m) (lN (wst_ M N r N).2) (nI N) (nI (wst_ M N r N).1) (nI N) D' = _
  rw [e172_116]
  simp (disch := omega) only [nI_add, pk_mul, nI_clamp, nI_leI, nI_ltI, nI_eq, inb_, iz1_, iz2_, iz3_, iz4_, iz5_, reduceIte, if_pos, if_neg, op_os, op_vIs, op_vLs, op_vRs, op_vNs, dI_at, dL_at, dI_2, dL_1, Nat.reduceEqDiff, Nat.reduceAdd, Nat.reduceMul, false_and, and_false, true_and, and_true, ne_eq, not_true_eq_false, not_false_eq_true, b2_z, b2_o, b2_n, b2_01, nar_b, nar_0, nar_1, Bool.false_eq_true, Bool.true_eq_false, Nat.le_refl]
theorem x172c {i : Nat} (hm : i < 110) (hr0 : rm_ D i M) (hM : wm_ M) (hn : M.2.1 ≤ 60) (h : cw_ (D.2 383) M 31) : ∀ q m r, m + q = 31 → r < 2 ^ 63 → (fl_ M q m r = none → k172_32 w (d + 2) (nI i) (lN r) (nI m) D = some (some (.int (-1)), D)) ∧ ∀ x, fl_ M q m r = some x → k172_32 w (d + 2) (nI i) (lN r) (nI m) D = k172_90 w (d + 2) (nI i) (lN x.2) (nI x.1) D := by
  have hk := hM.1
  have h1 := hM.2.2.1
  intro q
  induction q with
  | zero =>
    intro m r hq hr
    refine ⟨fun _ => ?_, fun x hx => by cases hx⟩
    rw [e172_32]
    simp (disch := omega) only [nI_add, pk_mul, nI_clamp, nI_leI, nI_ltI, nI_eq, inb_, iz1_, iz2_, iz3_, iz4_, iz5_, reduceIte, if_pos, if_neg, op_os, op_vIs, op_vLs, op_vRs, op_vNs, dI_at, dL_at, dI_2, dL_1, Nat.reduceEqDiff, Nat.reduceAdd, Nat.reduceMul, false_and, and_false, true_and, and_true, ne_eq, not_true_eq_false, not_false_eq_true, b2_z, b2_o, b2_n, b2_01, nar_b, nar_0, nar_1, Bool.false_eq_true, Bool.true_eq_false, e172_90]
  | succ q ih =>
    intro m r hq hr
    have hb := wc_b hk.2 (n := m) (M.2.2.1) (by omega)
    have h6 := h m (M.2.2.1) (by omega) h1
    rw [Nat.mul_comm] at h6
    unfold fl_
    rw [e172_32]
    by_cases c : r < wc_ M m (M.2.2.1)
    · rw [if_pos c]
      refine ⟨fun z => (by cases z), fun x hx => ?_⟩
      obtain rfl := Option.some.inj hx
      simp (disch := omega) only [nI_add, pk_mul, nI_clamp, nI_leI, nI_ltI, nI_eq, inb_, iz1_, iz2_, iz3_, iz4_, iz5_, reduceIte, if_pos, if_neg, op_os, op_vIs, op_vLs, op_vRs, op_vNs, dI_at, dL_at, dI_2, dL_1, Nat.reduceEqDiff, Nat.reduceAdd, Nat.reduceMul, false_and, and_false, true_and, and_true, ne_eq, not_true_eq_false, not_false_eq_true, b2_z, b2_o, b2_n, b2_01, nar_b, nar_0, nar_1, Bool.false_eq_true, Bool.true_eq_false, hr0.2.2.1, h6, lcn1]
    · rw [if_neg c]
      simp (disch := omega) only [nI_add, pk_mul, nI_clamp, nI_leI, nI_ltI, nI_eq, inb_, iz1_, iz2_, iz3_, iz4_, iz5_, reduceIte, if_pos, if_neg, op_os, op_vIs, op_vLs, op_vRs, op_vNs, dI_at, dL_at, dI_2, dL_1, Nat.reduceEqDiff, Nat.reduceAdd, Nat.reduceMul, false_and, and_false, true_and, and_true, ne_eq, not_true_eq_false, not_false_eq_true, b2_z, b2_o, b2_n, b2_01, nar_b, nar_0, nar_1, Bool.false_eq_true, Bool.true_eq_false, hr0.2.2.1, h6, lcn1, lN_sub]
      exact ih (m + 1) (r - wc_ M m (M.2.2.1)) (by omega) (by omega)
theorem bo_word (hS : ok_ S) (s : Int32) (x : Int64) : bo_ S B (fun D => k98_0 w (d + 200) s x D) (fun D => k172_0 w (d + 200) s x D) := by
  by_cases c1 : ls_ 6 s = true
  · obtain ⟨i, rfl, hi⟩ := ls_t (by omega) c1
    obtain ⟨hM, hn⟩ := hS.1 i hi
    have hk4 := hM.1.2
    by_cases c2 : x < 0
    · have g : (nI 0 ≤ lg_cmp x (lN 0)) ↔ False := by
        rw [← Int32.not_lt]
        exact ⟨fun z => z ((lc_lt _ _).mpr c2), False.elim⟩
      refine bo_o (.int (-102)) hS (fun D h => ?_) (fun D h => ?_)
      · rw [e98_0, x106s, c1]
        simp (disch := omega) only [nI_add, pk_mul, nI_clamp, nI_leI, nI_ltI, nI_eq, inb_, iz1_, iz2_, iz3_, iz4_, iz5_, reduceIte, if_pos, if_neg, op_os, op_vIs, op_vLs, op_vRs, op_vNs, dI_at, dL_at, dI_2, dL_1, Nat.reduceEqDiff, Nat.reduceAdd, Nat.reduceMul, false_and, and_false, true_and, and_true, ne_eq, not_true_eq_false, not_false_eq_true, b2_z, b2_o, b2_n, b2_01, nar_b, nar_0, nar_1, Bool.false_eq_true, Bool.true_eq_false, g]
      · rw [e172_0, x114s, c1]
        simp (disch := omega) only [nI_add, pk_mul, nI_clamp, nI_leI, nI_ltI, nI_eq, inb_, iz1_, iz2_, iz3_, iz4_, iz5_, reduceIte, if_pos, if_neg, op_os, op_vIs, op_vLs, op_vRs, op_vNs, dI_at, dL_at, dI_2, dL_1, Nat.reduceEqDiff, Nat.reduceAdd, Nat.reduceMul, false_and, and_false, true_and, and_true, ne_eq, not_true_eq_false, not_false_eq_true, b2_z, b2_o, b2_n, b2_01, nar_b, nar_0, nar_1, Bool.false_eq_true, Bool.true_eq_false, g]
    · obtain ⟨r, hr, rfl⟩ := pk_lOf c2
      cases c3 : fl_ (S.1 i) 31 0 r with
      | none =>
        refine bo_i (.int (-1)) S hS (fun D h => ?_) (fun D h => ?_)
        · obtain ⟨D', e1, e2⟩ := (x57 (w := w) (d := d + 195) (sl_ hi).2 (by omega) (h.1 i hi) hM (by rw [sl4_ hi]; exact hn) hn 31 0 r D rfl (ol_r _ _) (fun m' p hm' => absurd hm' (by omega)) hr).1 c3
          refine ⟨D', ?_, rc_m (rc_ol h e2.1) (by omega), hi_ol e2 (by omega)⟩
          rw [e98_0, x106s, c1]
          simp (disch := omega) only [nI_add, pk_mul, nI_clamp, nI_leI, nI_ltI, nI_eq, inb_, iz1_, iz2_, iz3_, iz4_, iz5_, reduceIte, if_pos, if_neg, op_os, op_vIs, op_vLs, op_vRs, op_vNs, dI_at, dL_at, dI_2, dL_1, Nat.reduceEqDiff, Nat.reduceAdd, Nat.reduceMul, false_and, and_false, true_and, and_true, ne_eq, not_true_eq_false, not_false_eq_true, b2_z, b2_o, b2_n, b2_01, nar_b, nar_0, nar_1, Bool.false_eq_true, Bool.true_eq_false, lcn2, sl1_, e57_0 (sl_ hi).2, e1]
        · have h' := mr_0 (v := nI 0) h
          obtain ⟨D', e1, e2, e3⟩ := x170 (w := w) (d := d + 197) (show i < 110 by omega) (h'.1 i hi) hM hn
          refine ⟨D', ?_, mr_ol h' e2.1, lw_t (lw_I (by omega)) (lw_ol e2 (by omega))⟩
          rw [e172_0, x114s, c1]
          simp (disch := omega) only [nI_add, pk_mul, nI_clamp, nI_leI, nI_ltI, nI_eq, inb_, iz1_, iz2_, iz3_, iz4_, iz5_, reduceIte, if_pos, if_neg, op_os, op_vIs, op_vLs, op_vRs, op_vNs, dI_at, dL_at, dI_2, dL_1, Nat.reduceEqDiff, Nat.reduceAdd, Nat.reduceMul, false_and, and_false, true_and, and_true, ne_eq, not_true_eq_false, not_false_eq_true, b2_z, b2_o, b2_n, b2_01, nar_b, nar_0, nar_1, Bool.false_eq_true, Bool.true_eq_false, lcn2, e1]
          exact (x172c (show i < 110 by omega) (rm_ol (h'.1 i hi) e2.1) hM hn e3 31 0 r rfl hr).1 c3
      | some x =>
        obtain ⟨b1, b2⟩ := fl_b c3
        have hb4 : ∀ j, j < x.1 → wt_ (S.1 i) x.1 x.2 j < 256 := by
          intro j hj
          have := (wst_l hM b2 hj).1
          show 97 + wlt_ _ _ _ < 256
          omega
        refine bo_i (.int (nI x.1)) (ut_ S x.1 (wt_ (S.1 i) x.1 x.2)) (ut_ok hS (by omega) hb4) (fun D h => ?_) (fun D h => ?_)
        · obtain ⟨D', e1, e2, e3, e4⟩ := (x57 (w := w) (d := d + 195) (sl_ hi).2 (by omega) (h.1 i hi) hM (by rw [sl4_ hi]; exact hn) hn 31 0 r D rfl (ol_r _ _) (fun m' p hm' => absurd hm' (by omega)) hr).2 x c3
          refine ⟨D', ?_, rc_m (rc_ut h e2 e4) (by omega), fun b hb => e3 b (by omega)⟩
          rw [e98_0, x106s, c1]
          simp (disch := omega) only [nI_add, pk_mul, nI_clamp, nI_leI, nI_ltI, nI_eq, inb_, iz1_, iz2_, iz3_, iz4_, iz5_, reduceIte, if_pos, if_neg, op_os, op_vIs, op_vLs, op_vRs, op_vNs, dI_at, dL_at, dI_2, dL_1, Nat.reduceEqDiff, Nat.reduceAdd, Nat.reduceMul, false_and, and_false, true_and, and_true, ne_eq, not_true_eq_false, not_false_eq_true, b2_z, b2_o, b2_n, b2_01, nar_b, nar_0, nar_1, Bool.false_eq_true, Bool.true_eq_false, lcn2, sl1_, e57_0 (sl_ hi).2, e1]
        · have h' := mr_0 (v := nI 0) h
          obtain ⟨D', e1, e2, e3⟩ := x170 (w := w) (d := d + 197) (show i < 110 by omega) (h'.1 i hi) hM hn
          obtain ⟨D2, f1, f2, f3, f4, f5⟩ := x172b (w := w) (d := d + 198) (show i < 110 by omega) (rm_ol (h'.1 i hi) e2.1) hM hn e3 (by omega) b2
          refine ⟨D2, ?_, mr_ut h' f2 (fun c h1 h2 _ => by rw [f3 c h1 h2, e2.1]) (fun j h1 h2 => by rw [f4 j h1, e2.1]), fun b hb => ⟨?_, ?_⟩⟩
          · rw [e172_0, x114s, c1]
            simp (disch := omega) only [nI_add, pk_mul, nI_clamp, nI_leI, nI_ltI, nI_eq, inb_, iz1_, iz2_, iz3_, iz4_, iz5_, reduceIte, if_pos, if_neg, op_os, op_vIs, op_vLs, op_vRs, op_vNs, dI_at, dL_at, dI_2, dL_1, Nat.reduceEqDiff, Nat.reduceAdd, Nat.reduceMul, false_and, and_false, true_and, and_true, ne_eq, not_true_eq_false, not_false_eq_true, b2_z, b2_o, b2_n, b2_01, nar_b, nar_0, nar_1, Bool.false_eq_true, Bool.true_eq_false, lcn2, e1]
            exact ((x172c (show i < 110 by omega) (rm_ol (h'.1 i hi) e2.1) hM hn e3 31 0 r rfl hr).2 x c3).trans f1
          · rw [f3 b (by omega) (by omega), e2.1]
            funext z
            simp (disch := omega) only [nI_add, pk_mul, nI_clamp, nI_leI, nI_ltI, nI_eq, inb_, iz1_, iz2_, iz3_, iz4_, iz5_, reduceIte, if_pos, if_neg, op_os, op_vIs, op_vLs, op_vRs, op_vNs, dI_at, dL_at, dI_2, dL_1, Nat.reduceEqDiff, Nat.reduceAdd, Nat.reduceMul, false_and, and_false, true_and, and_true, ne_eq, not_true_eq_false, not_false_eq_true, b2_z, b2_o, b2_n, b2_01, nar_b, nar_0, nar_1, Bool.false_eq_true, Bool.true_eq_false]
          · rw [f5, e2.2 b (by omega)]
            rfl
  · refine bo_o (.int (-102)) hS (fun D h => ?_) (fun D h => ?_)
    · rw [e98_0, x106s, bf_ c1]
      rfl
    · rw [e172_0, x114s, bf_ c1]
      rfl
/-- the number of a word -/
def rkn_ (M : ma_) (N : Nat) (t : Nat → Nat) : Nat → Nat
  | 0 => sm_ (fun n => wc_ M n (M.2.2.1)) N
  | i + 1 => rkn_ M N t i + sm_ (fun l => wc_ M (N - i - 1) (M.2.2.2.1 (wy_ M t i) l)) (t i - 97)
/-- rank -/
theorem x58 {N : Nat} {t : Nat → Nat} (ha : a ∈ ml_) (hc : cm_ D a M) (hM : wm_ M) (hcap : M.2.1 ≤ cap_ a) (hn : M.2.1 ≤ 60) (hN : N ≤ 30) (ht : tp_ D N t) (hw : aw_ (M.1) t N = true) : ∃ D', k58_0 w (d + 4) a D = some (some (.long (lN (rkn_ M N t N))), D') ∧ ol_ 341 D D' := by
  have hk := hM.1
  have h1 := hM.2.2.1
  rw [e58_0 ha]
  obtain ⟨E, e1, e2, e3⟩ := lp_ (fun j (E : dy_) => k58_5 w (d + 4) a (lN (sm_ (fun n => wc_ M n (M.2.2.1)) (min j N))) (nI j) E) (fun j E => ol_ 341 D E ∧ cw_ (E.2 341) M j) (N + 1) (s := D) (by
    rintro j E hj ⟨t1, t2⟩
    obtain ⟨E', f1, f2, f3⟩ := x61 (w := w) (d := d) ha (cm_ol hc t1.1) hM hcap hn t2 (by omega)
    have f4 := ol_t t1 f2
    have hc' := cm_ol hc f4.1
    have g1 : E.1 21 1 = nI N := by rw [t1.1]; exact ht.1
    have g2 : E'.1 21 1 = nI N := by rw [f4.1]; exact ht.1
    refine ⟨E', ?_, f4, f3⟩
    show k58_5 w (d + 4) a (lN (sm_ (fun n => wc_ M n (M.2.2.1)) (min j N))) (nI j) E = k58_5 w (d + 4) a (lN (sm_ (fun n => wc_ M n (M.2.2.1)) (min (j + 1) N))) (nI (j + 1)) E'
    rw [e58_5 ha]
    by_cases z : j = N
    · rw [show min (j + 1) N = min j N by omega]
      simp (disch := omega) only [nI_add, pk_mul, nI_clamp, nI_leI, nI_ltI, nI_eq, inb_, iz1_, iz2_, iz3_, iz4_, iz5_, reduceIte, if_pos, if_neg, op_os, op_vIs, op_vLs, op_vRs, op_vNs, dI_at, dL_at, dI_2, dL_1, Nat.reduceEqDiff, Nat.reduceAdd, Nat.reduceMul, false_and, and_false, true_and, and_true, ne_eq, not_true_eq_false, not_false_eq_true, b2_z, b2_o, b2_n, b2_01, nar_b, nar_0, nar_1, Bool.false_eq_true, Bool.true_eq_false, g1, g2, f1, e58_43 ha]
    · rw [show min (j + 1) N = j + 1 by omega, show min j N = j by omega, sm_s]
      simp (disch := omega) only [nI_add, pk_mul, nI_clamp, nI_leI, nI_ltI, nI_eq, inb_, iz1_, iz2_, iz3_, iz4_, iz5_, reduceIte, if_pos, if_neg, op_os, op_vIs, op_vLs, op_vRs, op_vNs, dI_at, dL_at, dI_2, dL_1, Nat.reduceEqDiff, Nat.reduceAdd, Nat.reduceMul, false_and, and_false, true_and, and_true, ne_eq, not_true_eq_false, not_false_eq_true, b2_z, b2_o, b2_n, b2_01, nar_b, nar_0, nar_1, Bool.false_eq_true, Bool.true_eq_false, g1, g2, f1, e58_43 ha, hc'.2.2.1, x60 f3 (by omega) hn (Nat.lt_succ_self j) h1, lN_add]) ⟨ol_r _ _, fun m' p hm' => absurd hm' (by omega)⟩
  have hc' := cm_ol hc e2.1
  have ht' : tp_ E N t := by
    unfold tp_
    rw [e2.1]
    exact ht
  refine ⟨E, ?_, e2⟩
  refine e1.trans ?_
  show k58_5 w (d + 4) a (lN (sm_ (fun n => wc_ M n (M.2.2.1)) (min (N + 1) N))) (nI (N + 1)) E = _
  rw [e58_5 ha, show min (N + 1) N = N by omega]
  simp (disch := omega) only [nI_add, pk_mul, nI_clamp, nI_leI, nI_ltI, nI_eq, inb_, iz1_, iz2_, iz3_, iz4_, iz5_, reduceIte, if_pos, if_neg, op_os, op_vIs, op_vLs, op_vRs, op_vNs, dI_at, dL_at, dI_2, dL_1, Nat.reduceEqDiff, Nat.reduceAdd, Nat.reduceMul, false_and, and_false, true_and, and_true, ne_eq, not_true_eq_false, not_false_eq_true, b2_z, b2_o, b2_n, b2_01, nar_b, nar_0, nar_1, Bool.false_eq_true, Bool.true_eq_false, ht'.1, hc'.2.2.1]
  have := lq_ (fun i (x : Nat × Nat) => k58_58 w (d + 4) a (lN x.1) (nI x.2) (nI i) E) (fun i => (rkn_ M N t i, wy_ M t i)) N (by
    intro i hi
    have hl := aw_l hw hi
    have hy := wy_lt hM (aw_m hw (Nat.le_of_lt hi))
    show k58_58 w (d + 4) a (lN (rkn_ M N t i)) (nI (wy_ M t i)) (nI i) E = _
    rw [e58_58 ha]
    simp (disch := omega) only [nI_add, pk_mul, nI_clamp, nI_leI, nI_ltI, nI_eq, inb_, iz1_, iz2_, iz3_, iz4_, iz5_, reduceIte, if_pos, if_neg, op_os, op_vIs, op_vLs, op_vRs, op_vNs, dI_at, dL_at, dI_2, dL_1, Nat.reduceEqDiff, Nat.reduceAdd, Nat.reduceMul, false_and, and_false, true_and, and_true, ne_eq, not_true_eq_false, not_false_eq_true, b2_z, b2_o, b2_n, b2_01, nar_b, nar_0, nar_1, Bool.false_eq_true, Bool.true_eq_false, ht'.1, x52 ht' (by omega) hi, pk_sub]
    have := lq_ (fun l (x : Nat) => k58_78 w (d + 4) a (lN (rkn_ M N t i + x)) (nI (wy_ M t i)) (nI i) (nI (t i - 97)) (nI l) E) (fun l => sm_ (fun l => wc_ M (N - i - 1) (M.2.2.2.1 (wy_ M t i) l)) l) (t i - 97) (by
      intro l hl2
      show k58_78 w (d + 4) a (lN (rkn_ M N t i + _)) (nI (wy_ M t i)) (nI i) (nI (t i - 97)) (nI l) E = _
      rw [e58_78 ha]
      simp (disch := omega) only [nI_add, pk_mul, nI_clamp, nI_leI, nI_ltI, nI_eq, inb_, iz1_, iz2_, iz3_, iz4_, iz5_, reduceIte, if_pos, if_neg, op_os, op_vIs, op_vLs, op_vRs, op_vNs, dI_at, dL_at, dI_2, dL_1, Nat.reduceEqDiff, Nat.reduceAdd, Nat.reduceMul, false_and, and_false, true_and, and_true, ne_eq, not_true_eq_false, not_false_eq_true, b2_z, b2_o, b2_n, b2_01, nar_b, nar_0, nar_1, Bool.false_eq_true, Bool.true_eq_false, cx9 ha hc' hcap hk.2 hy (show l < M.1 by omega), ht'.1, pk_sub, x60 e3 (by omega) hn (show N - i - 1 < N + 1 by omega) (hM.2.2.2 _ l hy (by omega)), lN_add, Nat.add_assoc]
      rfl)
    refine this.trans ?_
    show k58_78 w (d + 4) a (lN (rkn_ M N t i + _)) (nI (wy_ M t i)) (nI i) (nI (t i - 97)) (nI (t i - 97)) E = _
    rw [e58_78 ha]
    simp (disch := omega) only [nI_add, pk_mul, nI_clamp, nI_leI, nI_ltI, nI_eq, inb_, iz1_, iz2_, iz3_, iz4_, iz5_, reduceIte, if_pos, if_neg, op_os, op_vIs, op_vLs, op_vRs, op_vNs, dI_at, dL_at, dI_2, dL_1, Nat.reduceEqDiff, Nat.reduceAdd, Nat.reduceMul, false_and, and_false, true_and, and_true, ne_eq, not_true_eq_false, not_false_eq_true, b2_z, b2_o, b2_n, b2_01, nar_b, nar_0, nar_1, Bool.false_eq_true, Bool.true_eq_false, Nat.le_refl, cx9 ha hc' hcap hk.2 hy hl.2]
    rfl)
  refine this.trans ?_
  show k58_58 w (d + 4) a (lN (rkn_ M N t N)) (nI (wy_ M t N)) (nI N) E = _
  rw [e58_58 ha]
  simp (disch := omega) only [nI_add, pk_mul, nI_clamp, nI_leI, nI_ltI, nI_eq, inb_, iz1_, iz2_, iz3_, iz4_, iz5_, reduceIte, if_pos, if_neg, op_os, op_vIs, op_vLs, op_vRs, op_vNs, dI_at, dL_at, dI_2, dL_1, Nat.reduceEqDiff, Nat.reduceAdd, Nat.reduceMul, false_and, and_false, true_and, and_true, ne_eq, not_true_eq_false, not_false_eq_true, b2_z, b2_o, b2_n, b2_01, nar_b, nar_0, nar_1, Bool.false_eq_true, Bool.true_eq_false, ht'.1, Nat.le_refl]
theorem x173 {m N : Nat} {t : Nat → Nat} (hm : m < 110) (hr0 : rm_ D m M) (hM : wm_ M) (hn : M.2.1 ≤ 60) (h : cw_ (D.2 383) M 31) (hN : N ≤ 30) (ht : yp_ D N t) (hw : aw_ (M.1) t N = true) : k173_59 w (d + 2) (nI m) (lN 0) (nI 0) D = some (some (.long (lN (rkn_ M N t N))), D) := by
  have hk := hM.1
  have h1 := hM.2.2.1
  have := lq_ (fun j (x : Nat) => k173_59 w (d + 2) (nI m) (lN x) (nI j) D) (fun j => sm_ (fun n => wc_ M n (M.2.2.1)) j) N (by
    intro j hj
    have h6 := h j (M.2.2.1) (by omega) h1
    rw [Nat.mul_comm] at h6
    show k173_59 w (d + 2) (nI m) (lN (sm_ (fun n => wc_ M n (M.2.2.1)) j)) (nI j) D = _
    rw [e173_59]
    simp (disch := omega) only [nI_add, pk_mul, nI_clamp, nI_leI, nI_ltI, nI_eq, inb_, iz1_, iz2_, iz3_, iz4_, iz5_, reduceIte, if_pos, if_neg, op_os, op_vIs, op_vLs, op_vRs, op_vNs, dI_at, dL_at, dI_2, dL_1, Nat.reduceEqDiff, Nat.reduceAdd, Nat.reduceMul, false_and, and_false, true_and, and_true, ne_eq, not_true_eq_false, not_false_eq_true, b2_z, b2_o, b2_n, b2_01, nar_b, nar_0, nar_1, Bool.false_eq_true, Bool.true_eq_false, ht.1, hr0.2.2.1, h6, lN_add]
    rfl)
  refine this.trans ?_
  show k173_59 w (d + 2) (nI m) (lN (sm_ (fun n => wc_ M n (M.2.2.1)) N)) (nI N) D = _
  rw [e173_59]
  simp (disch := omega) only [nI_add, pk_mul, nI_clamp, nI_leI, nI_ltI, nI_eq, inb_, iz1_, iz2_, iz3_, iz4_, iz5_, reduceIte, if_pos, if_neg, op_os, op_vIs, op_vLs, op_vRs, op_vNs, dI_at, dL_at, dI_2, dL_1, Nat.reduceEqDiff, Nat.reduceAdd, Nat.reduceMul, false_and, and_false, true_and, and_true, ne_eq, not_true_eq_false, not_false_eq_true, b2_z, b2_o, b2_n, b2_01, nar_b, nar_0, nar_1, Bool.false_eq_true, Bool.true_eq_false, ht.1, Nat.le_refl, hr0.2.2.1]
  have := lq_ (fun i (x : Nat × Nat) => k173_105 w (d + 2) (nI m) (lN x.1) (nI x.2) (nI i) D) (fun i => (rkn_ M N t i, wy_ M t i)) N (by
    intro i hi
    have hl := aw_l hw hi
    have hy := wy_lt hM (aw_m hw (Nat.le_of_lt hi))
    show k173_105 w (d + 2) (nI m) (lN (rkn_ M N t i)) (nI (wy_ M t i)) (nI i) D = _
    rw [e173_105]
    simp (disch := omega) only [nI_add, pk_mul, nI_clamp, nI_leI, nI_ltI, nI_eq, inb_, iz1_, iz2_, iz3_, iz4_, iz5_, reduceIte, if_pos, if_neg, op_os, op_vIs, op_vLs, op_vRs, op_vNs, dI_at, dL_at, dI_2, dL_1, Nat.reduceEqDiff, Nat.reduceAdd, Nat.reduceMul, false_and, and_false, true_and, and_true, ne_eq, not_true_eq_false, not_false_eq_true, b2_z, b2_o, b2_n, b2_01, nar_b, nar_0, nar_1, Bool.false_eq_true, Bool.true_eq_false, ht.1, x148 ht (by omega) hi, pk_sub]
    have := lq_ (fun l (x : Nat) => k173_128 w (d + 2) (nI m) (lN (rkn_ M N t i + x)) (nI (wy_ M t i)) (nI i) (nI (t i - 97)) (nI l) D) (fun l => sm_ (fun l => wc_ M (N - i - 1) (M.2.2.2.1 (wy_ M t i) l)) l) (t i - 97) (by
      intro l hl2
      have h5 := hM.2.2.2 _ l hy (show l < M.1 by omega)
      have h6 := h (N - i - 1) _ (by omega) h5
      rw [Nat.mul_comm] at h6
      show k173_128 w (d + 2) (nI m) (lN (rkn_ M N t i + _)) (nI (wy_ M t i)) (nI i) (nI (t i - 97)) (nI l) D = _
      rw [e173_128]
      simp (disch := omega) only [nI_add, pk_mul, nI_clamp, nI_leI, nI_ltI, nI_eq, inb_, iz1_, iz2_, iz3_, iz4_, iz5_, reduceIte, if_pos, if_neg, op_os, op_vIs, op_vLs, op_vRs, op_vNs, dI_at, dL_at, dI_2, dL_1, Nat.reduceEqDiff, Nat.reduceAdd, Nat.reduceMul, false_and, and_false, true_and, and_true, ne_eq, not_true_eq_false, not_false_eq_true, b2_z, b2_o, b2_n, b2_01, nar_b, nar_0, nar_1, Bool.false_eq_true, Bool.true_eq_false, x112 hm ⟨hn, hk.2⟩ hr0 hy (show l < M.1 by omega), ht.1, pk_sub, h6, lN_add, Nat.add_assoc]
      rfl)
    refine this.trans ?_
    show k173_128 w (d + 2) (nI m) (lN (rkn_ M N t i + _)) (nI (wy_ M t i)) (nI i) (nI (t i - 97)) (nI (t i - 97)) D = _
    rw [e173_128]
    simp (disch := omega) only [nI_add, pk_mul, nI_clamp, nI_leI, nI_ltI, nI_eq, inb_, iz1_, iz2_, iz3_, iz4_, iz5_, reduceIte, if_pos, if_neg, op_os, op_vIs, op_vLs, op_vRs, op_vNs, dI_at, dL_at, dI_2, dL_1, Nat.reduceEqDiff, Nat.reduceAdd, Nat.reduceMul, false_and, and_false, true_and, and_true, ne_eq, not_true_eq_false, not_false_eq_true, b2_z, b2_o, b2_n, b2_01, nar_b, nar_0, nar_1, Bool.false_eq_true, Bool.true_eq_false, Nat.le_refl, x112 hm ⟨hn, hk.2⟩ hr0 hy hl.2]
    rfl)
  refine this.trans ?_
  show k173_105 w (d + 2) (nI m) (lN (rkn_ M N t N)) (nI (wy_ M t N)) (nI N) D = _
  rw [e173_105]
  simp (disch := omega) only [nI_add, pk_mul, nI_clamp, nI_leI, nI_ltI, nI_eq, inb_, iz1_, iz2_, iz3_, iz4_, iz5_, reduceIte, if_pos, if_neg, op_os, op_vIs, op_vLs, op_vRs, op_vNs, dI_at, dL_at, dI_2, dL_1, Nat.reduceEqDiff, Nat.reduceAdd, Nat.reduceMul, false_and, and_false, true_and, and_true, ne_eq, not_true_eq_false, not_false_eq_true, b2_z, b2_o, b2_n, b2_01, nar_b, nar_0, nar_1, Bool.false_eq_true, Bool.true_eq_false, ht.1, Nat.le_refl]
theorem bo_number (hS : ok_ S) (s : Int32) : bo_ S B (fun D => k99_0 w (d + 200) s D) (fun D => k173_0 w (d + 200) s D) := by
  have hl := hS.2.1.1
  by_cases c1 : ls_ 6 s = true
  · obtain ⟨i, rfl, hi⟩ := ls_t (by omega) c1
    obtain ⟨hM, hn⟩ := hS.1 i hi
    have hk4 := hM.1.2
    by_cases c2 : aw_ ((S.1 i).1) S.2.1.2 S.2.1.1 = true
    · have hlt := wy_lt hM c2
      by_cases c3 : S.2.1.1 ≤ 30
      · cases c4 : (S.1 i).2.2.2.2 (wy_ (S.1 i) S.2.1.2 S.2.1.1) with
        | true =>
          refine bo_i (.long (lN (rkn_ (S.1 i) S.2.1.1 S.2.1.2 S.2.1.1))) S hS (fun D h => ?_) (fun D h => ?_)
          · have hc := h.1 i hi
            obtain ⟨D', e1, e2⟩ := x58 (w := w) (d := d + 195) (sl_ hi).2 hc hM (by rw [sl4_ hi]; exact hn) hn c3 h.2.1 c2
            refine ⟨D', ?_, rc_m (rc_ol h e2.1) (by omega), hi_ol e2 (by omega)⟩
            rw [e99_0, x106s, c1]
            simp (disch := omega) only [nI_add, pk_mul, nI_clamp, nI_leI, nI_ltI, nI_eq, inb_, iz1_, iz2_, iz3_, iz4_, iz5_, reduceIte, if_pos, if_neg, op_os, op_vIs, op_vLs, op_vRs, op_vNs, dI_at, dL_at, dI_2, dL_1, Nat.reduceEqDiff, Nat.reduceAdd, Nat.reduceMul, false_and, and_false, true_and, and_true, ne_eq, not_true_eq_false, not_false_eq_true, b2_z, b2_o, b2_n, b2_01, nar_b, nar_0, nar_1, Bool.false_eq_true, Bool.true_eq_false, h.2.1.1, sl1_, sl2_, sl3_, sl5_, x53 (sl_ hi).2 hc hk4 h.2.1 hl hS.2.1.2, c2, x54 (sl_ hi).2 hc hM (by rw [sl4_ hi]; exact hn) h.2.1 hl c2, hc.2.2.2.2 _ hlt, c4, e1]
          · have h' := mr_0 (v := nI 0) h
            obtain ⟨D', e1, e2, e3⟩ := x170 (w := w) (d := d + 197) (show i < 110 by omega) (h'.1 i hi) hM hn
            have ht' : yp_ D' S.2.1.1 S.2.1.2 := by
              unfold yp_
              rw [e2.1]
              exact h'.2.1
            refine ⟨D', ?_, mr_ol h' e2.1, lw_t (lw_I (by omega)) (lw_ol e2 (by omega))⟩
            rw [e173_0, x114s, c1]
            simp (disch := omega) only [nI_add, pk_mul, nI_clamp, nI_leI, nI_ltI, nI_eq, inb_, iz1_, iz2_, iz3_, iz4_, iz5_, reduceIte, if_pos, if_neg, op_os, op_vIs, op_vLs, op_vRs, op_vNs, dI_at, dL_at, dI_2, dL_1, Nat.reduceEqDiff, Nat.reduceAdd, Nat.reduceMul, false_and, and_false, true_and, and_true, ne_eq, not_true_eq_false, not_false_eq_true, b2_z, b2_o, b2_n, b2_01, nar_b, nar_0, nar_1, Bool.false_eq_true, Bool.true_eq_false, x164 (show i < 110 by omega) hM hn (h'.1 i hi) h'.2.1 hl hS.2.1.2, c2, e173_21, x113 (show i < 110 by omega) ⟨hn, hk4⟩ (h'.1 i hi) hlt, h.2.1.1, c4, e1, x173 (show i < 110 by omega) (rm_ol (h'.1 i hi) e2.1) hM hn e3 c3 ht' c2]
        | false =>
          refine bo_o (.long (-1)) hS (fun D h => ?_) (fun D h => ?_)
          · have hc := h.1 i hi
            rw [e99_0, x106s, c1]
            simp (disch := omega) only [nI_add, pk_mul, nI_clamp, nI_leI, nI_ltI, nI_eq, inb_, iz1_, iz2_, iz3_, iz4_, iz5_, reduceIte, if_pos, if_neg, op_os, op_vIs, op_vLs, op_vRs, op_vNs, dI_at, dL_at, dI_2, dL_1, Nat.reduceEqDiff, Nat.reduceAdd, Nat.reduceMul, false_and, and_false, true_and, and_true, ne_eq, not_true_eq_false, not_false_eq_true, b2_z, b2_o, b2_n, b2_01, nar_b, nar_0, nar_1, Bool.false_eq_true, Bool.true_eq_false, h.2.1.1, sl1_, sl2_, sl3_, sl5_, x53 (sl_ hi).2 hc hk4 h.2.1 hl hS.2.1.2, c2, x54 (sl_ hi).2 hc hM (by rw [sl4_ hi]; exact hn) h.2.1 hl c2, hc.2.2.2.2 _ hlt, c4]
          · have h' := mr_0 (v := nI 0) h
            rw [e173_0, x114s, c1]
            simp (disch := omega) only [nI_add, pk_mul, nI_clamp, nI_leI, nI_ltI, nI_eq, inb_, iz1_, iz2_, iz3_, iz4_, iz5_, reduceIte, if_pos, if_neg, op_os, op_vIs, op_vLs, op_vRs, op_vNs, dI_at, dL_at, dI_2, dL_1, Nat.reduceEqDiff, Nat.reduceAdd, Nat.reduceMul, false_and, and_false, true_and, and_true, ne_eq, not_true_eq_false, not_false_eq_true, b2_z, b2_o, b2_n, b2_01, nar_b, nar_0, nar_1, Bool.false_eq_true, Bool.true_eq_false, x164 (show i < 110 by omega) hM hn (h'.1 i hi) h'.2.1 hl hS.2.1.2, c2, e173_21, x113 (show i < 110 by omega) ⟨hn, hk4⟩ (h'.1 i hi) hlt, h.2.1.1, c4]
      · refine bo_o (.long (-1)) hS (fun D h => ?_) (fun D h => ?_)
        · rw [e99_0, x106s, c1, op_os, op_vIs]
          dsimp only
          rw [if_neg (by decide), h.2.1.1, if_pos ((nI_ltI (by omega) (by omega)).mpr (by omega))]
        · have h' := mr_0 (v := nI 0) h
          rw [e173_0, x114s, c1]
          simp (disch := omega) only [nI_add, pk_mul, nI_clamp, nI_leI, nI_ltI, nI_eq, inb_, iz1_, iz2_, iz3_, iz4_, iz5_, reduceIte, if_pos, if_neg, op_os, op_vIs, op_vLs, op_vRs, op_vNs, dI_at, dL_at, dI_2, dL_1, Nat.reduceEqDiff, Nat.reduceAdd, Nat.reduceMul, false_and, and_false, true_and, and_true, ne_eq, not_true_eq_false, not_false_eq_true, b2_z, b2_o, b2_n, b2_01, nar_b, nar_0, nar_1, Bool.false_eq_true, Bool.true_eq_false, x164 (show i < 110 by omega) hM hn (h'.1 i hi) h'.2.1 hl hS.2.1.2, c2, e173_21, h.2.1.1]
    · refine bo_o (.long (-1)) hS (fun D h => ?_) (fun D h => ?_)
      · have hc := h.1 i hi
        rw [e99_0, x106s, c1, op_os, op_vIs]
        dsimp only
        rw [if_neg (by decide), h.2.1.1]
        by_cases c3 : 30 < S.2.1.1
        · rw [if_pos ((nI_ltI (by omega) (by omega)).mpr c3)]
        · rw [if_neg (fun z => c3 ((nI_ltI (by omega) (by omega)).mp z))]
          simp (disch := omega) only [nI_add, pk_mul, nI_clamp, nI_leI, nI_ltI, nI_eq, inb_, iz1_, iz2_, iz3_, iz4_, iz5_, reduceIte, if_pos, if_neg, op_os, op_vIs, op_vLs, op_vRs, op_vNs, dI_at, dL_at, dI_2, dL_1, Nat.reduceEqDiff, Nat.reduceAdd, Nat.reduceMul, false_and, and_false, true_and, and_true, ne_eq, not_true_eq_false, not_false_eq_true, b2_z, b2_o, b2_n, b2_01, nar_b, nar_0, nar_1, Bool.false_eq_true, Bool.true_eq_false, sl1_, sl2_, x53 (sl_ hi).2 hc hk4 h.2.1 hl hS.2.1.2, bf_ c2]
      · have h' := mr_0 (v := nI 0) h
        rw [e173_0, x114s, c1]
        simp (disch := omega) only [nI_add, pk_mul, nI_clamp, nI_leI, nI_ltI, nI_eq, inb_, iz1_, iz2_, iz3_, iz4_, iz5_, reduceIte, if_pos, if_neg, op_os, op_vIs, op_vLs, op_vRs, op_vNs, dI_at, dL_at, dI_2, dL_1, Nat.reduceEqDiff, Nat.reduceAdd, Nat.reduceMul, false_and, and_false, true_and, and_true, ne_eq, not_true_eq_false, not_false_eq_true, b2_z, b2_o, b2_n, b2_01, nar_b, nar_0, nar_1, Bool.false_eq_true, Bool.true_eq_false, x164 (show i < 110 by omega) hM hn (h'.1 i hi) h'.2.1 hl hS.2.1.2, bf_ c2, e173_21]
  · refine bo_o (.long (-1)) hS (fun D h => ?_) (fun D h => ?_)
    · rw [e99_0, x106s, bf_ c1]
      rfl
    · rw [e173_0, x114s, bf_ c1]
      simp (disch := omega) only [nI_add, pk_mul, nI_clamp, nI_leI, nI_ltI, nI_eq, inb_, iz1_, iz2_, iz3_, iz4_, iz5_, reduceIte, if_pos, if_neg, op_os, op_vIs, op_vLs, op_vRs, op_vNs, dI_at, dL_at, dI_2, dL_1, Nat.reduceEqDiff, Nat.reduceAdd, Nat.reduceMul, false_and, and_false, true_and, and_true, ne_eq, not_true_eq_false, not_false_eq_true, b2_z, b2_o, b2_n, b2_01, nar_b, nar_0, nar_1, Bool.false_eq_true, Bool.true_eq_false, e173_21]
end WORD
