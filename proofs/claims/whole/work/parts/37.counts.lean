/-! how many words are taken -/
theorem lcn1 {a b : Nat} (ha : a < 2 ^ 63) (hb : b < 2 ^ 63) : (lg_cmp (lN a) (lN b) < nI 0) ↔ a < b := (lc_lt _ _).trans (pk_lLT ha hb)
theorem lcn2 {a b : Nat} (ha : a < 2 ^ 63) (hb : b < 2 ^ 63) : (nI 0 ≤ lg_cmp (lN a) (lN b)) ↔ b ≤ a := by
  rw [← Int32.not_lt, lcn1 ha hb]
  omega
def sm_ (f : Nat → Nat) : Nat → Nat
  | 0 => 0
  | n + 1 => sm_ f n + f n
theorem sm_s (f : Nat → Nat) (n : Nat) : sm_ f (n + 1) = sm_ f n + f n := rfl
def wc_ (M : ma_) : Nat → Nat → Nat
  | 0, p => if M.2.2.2.2 p then 1 else 0
  | n + 1, p => sm_ (fun l => wc_ M n (M.2.2.2.1 p l)) (M.1)
theorem sm_le {f : Nat → Nat} {c : Nat} (n : Nat) (h : ∀ i, i < n → f i ≤ c) : sm_ f n ≤ n * c := by
  induction n with
  | zero => exact Nat.le_of_eq (by rw [Nat.zero_mul]; rfl)
  | succ n ih =>
    rw [sm_s, Nat.succ_mul]
    exact Nat.add_le_add (ih fun i hi => h i (by omega)) (h n (by omega))
theorem sm_mono {f : Nat → Nat} {a b : Nat} (h : a ≤ b) : sm_ f a ≤ sm_ f b := by
  induction b with
  | zero => rw [show a = 0 by omega]; exact Nat.le_refl _
  | succ b ih =>
    by_cases q : a = b + 1
    · rw [q]; exact Nat.le_refl _
    · rw [sm_s]
      have := ih (by omega)
      omega
theorem wc_le {M : ma_} (hk : M.1 ≤ 4) : ∀ n p, wc_ M n p ≤ 4 ^ n
  | 0, p => by
    show (if M.2.2.2.2 p then 1 else 0) ≤ 1
    cases M.2.2.2.2 p <;> decide
  | n + 1, p => by
    have h1 : sm_ (fun l => wc_ M n (M.2.2.2.1 p l)) (M.1) ≤ M.1 * 4 ^ n := sm_le _ fun i _ => wc_le hk n _
    show sm_ (fun l => wc_ M n (M.2.2.2.1 p l)) (M.1) ≤ 4 ^ (n + 1)
    rw [Nat.pow_succ, Nat.mul_comm (4 ^ n)]
    exact Nat.le_trans h1 (Nat.mul_le_mul_right _ hk)
theorem wc_b {M : ma_} (hk : M.1 ≤ 4) {n : Nat} (p : Nat) (h : n ≤ 30) : wc_ M n p < 2 ^ 62 :=
  Nat.lt_of_le_of_lt (wc_le hk n p) (Nat.lt_of_le_of_lt (Nat.pow_le_pow_right (by omega) h) (by decide))
/-- rows of counts -/
def cw_ (f : Nat → Int64) (M : ma_) (N : Nat) : Prop := ∀ m p, m < N → p < M.2.1 → f (m * 60 + p) = lN (wc_ M m p)
/-- only the longs of one cell -/
def ol_ (a : Nat) (D D' : dy_) : Prop := D'.1 = D.1 ∧ ∀ b, b ≠ a → D'.2 b = D.2 b
theorem ol_r (a : Nat) (D : dy_) : ol_ a D D := ⟨rfl, fun _ _ => rfl⟩
theorem ol_t {a : Nat} {D D' D'' : dy_} (h : ol_ a D D') (g : ol_ a D' D'') : ol_ a D D'' := ⟨g.1.trans h.1, fun b hb => (g.2 b hb).trans (h.2 b hb)⟩
theorem ol_L (a i : Nat) (D : dy_) (v : Int64) : ol_ a D (dL_ D a i v) := ⟨rfl, fun _ hb => up_ne (f := D.2) hb⟩
theorem cm_ol {a : Nat} {D D' : dy_} {M : ma_} (h : cm_ D a M) (g : D'.1 = D.1) : cm_ D' a M := by
  unfold cm_ at *
  rw [g]
  exact h
theorem rc_ol {D D' : dy_} {S : sp_} {B : Nat} (h : rc_ D S B) (g : D'.1 = D.1) : rc_ D' S B := by
  unfold rc_ rs_ rtp_ rmp_ rne_ rsp_ cm_ at *
  rw [g]
  exact h
theorem rm_ol {D D' : dy_} {m : Nat} {M : ma_} (h : rm_ D m M) (g : D'.1 = D.1) : rm_ D' m M := by
  unfold rm_ at *
  rw [g]
  exact h
theorem mr_ol {D D' : dy_} {S : sp_} (h : mr_ D S) (g : D'.1 = D.1) : mr_ D' S := by
  unfold mr_ ys_ yt_ ym_ rm_ at *
  rw [g]
  exact h
theorem hi_ol {D D' : dy_} {a : Nat} (h : ol_ a D D') (ha : a < 351) : hi_ D D' := fun b hb => ⟨by rw [h.1], h.2 b (by omega)⟩
theorem lw_ol {D D' : dy_} {a : Nat} (h : ol_ a D D') (ha : 351 ≤ a) : lw_ D D' := fun b hb => ⟨by rw [h.1], h.2 b (by omega)⟩
theorem mcap {a : Nat} (h : a ∈ ml_) : cap_ a ≤ 3600 := (mM_ h).2.2.2.2.2
theorem x111k {w : (Nat → Int32) × Nat} {d : Nat} {D : dy_} {n : Nat} (hn : n + 1 < 2 ^ 31) (x : Int32) : k111_0 w (d + 1) x.toInt64 (lN 0) (lN n) D = some (some (.int (b2_ (ls_ (n + 1) x))), D) := by
  rw [← x111n (by omega) hn x, pk_sub (by omega), Nat.add_sub_cancel, lt64 (n := n) (by omega)]
section COUNT
variable {w : (Nat → Int32) × Nat} {d : Nat} {D : dy_} {S : sp_} {B : Nat} {a : Nat} {M : ma_}
theorem x60 {N m p : Nat} (h : cw_ (D.2 341) M N) (hN : N ≤ 31) (hn : M.2.1 ≤ 60) (hm : m < N) (hp : p < M.2.1) : k60_0 w (d + 1) (nI p) (nI m) D = some (some (.long (lN (wc_ M m p))), D) := by
  rw [e60_0]
  simp (disch := omega) only [nI_add, pk_mul, nI_clamp, nI_leI, nI_ltI, nI_eq, inb_, iz1_, iz2_, iz3_, iz4_, iz5_, reduceIte, if_pos, if_neg, op_os, op_vIs, op_vLs, op_vRs, op_vNs, dI_at, dL_at, dI_2, dL_1, Nat.reduceEqDiff, Nat.reduceAdd, Nat.reduceMul, false_and, and_false, true_and, and_true, ne_eq, not_true_eq_false, not_false_eq_true, b2_z, b2_o, b2_n, b2_01, nar_b, nar_0, nar_1, Bool.false_eq_true, Bool.true_eq_false, h m p hm hp]
/-- sumAhead -/
theorem x62 {N m p : Nat} (ha : a ∈ ml_) (hc : cm_ D a M) (hM : wm_ M) (hcap : M.2.1 ≤ cap_ a) (hn : M.2.1 ≤ 60) (h : cw_ (D.2 341) M N) (hN : N ≤ 31) (hm : m < N) (hp : p < M.2.1) : k62_0 w (d + 2) a (nI p) (nI (m + 1)) D = some (some (.long (lN (wc_ M (m + 1) p))), D) := by
  have hk := hM.1
  rw [e62_0 ha]
  have := lq_ (fun i (x : Nat) => k62_6 w (d + 2) a (nI p) (nI (m + 1)) (lN x) (nI i) D) (fun i => sm_ (fun l => wc_ M m (M.2.2.2.1 p l)) i) (M.1) (by
    intro i hi
    show k62_6 w (d + 2) a (nI p) (nI (m + 1)) (lN (sm_ (fun l => wc_ M m (M.2.2.2.1 p l)) i)) (nI i) D = _
    rw [e62_6 ha]
    simp (disch := omega) only [nI_add, pk_mul, nI_clamp, nI_leI, nI_ltI, nI_eq, inb_, iz1_, iz2_, iz3_, iz4_, iz5_, reduceIte, if_pos, if_neg, op_os, op_vIs, op_vLs, op_vRs, op_vNs, dI_at, dL_at, dI_2, dL_1, Nat.reduceEqDiff, Nat.reduceAdd, Nat.reduceMul, false_and, and_false, true_and, and_true, ne_eq, not_true_eq_false, not_false_eq_true, b2_z, b2_o, b2_n, b2_01, nar_b, nar_0, nar_1, Bool.false_eq_true, Bool.true_eq_false, hc.1, cx9 ha hc hcap hk.2 hp hi, pk_sub, Nat.add_sub_cancel, x60 h hN hn hm (hM.2.2.2 p i hp hi), lN_add]
    rfl)
  refine this.trans ?_
  show k62_6 w (d + 2) a (nI p) (nI (m + 1)) (lN (sm_ (fun l => wc_ M m (M.2.2.2.1 p l)) (M.1))) (nI (M.1)) D = _
  rw [e62_6 ha]
  simp (disch := omega) only [nI_add, pk_mul, nI_clamp, nI_leI, nI_ltI, nI_eq, inb_, iz1_, iz2_, iz3_, iz4_, iz5_, reduceIte, if_pos, if_neg, op_os, op_vIs, op_vLs, op_vRs, op_vNs, dI_at, dL_at, dI_2, dL_1, Nat.reduceEqDiff, Nat.reduceAdd, Nat.reduceMul, false_and, and_false, true_and, and_true, ne_eq, not_true_eq_false, not_false_eq_true, b2_z, b2_o, b2_n, b2_01, nar_b, nar_0, nar_1, Bool.false_eq_true, Bool.true_eq_false, hc.1, Nat.le_refl]
  rfl
/-- countRow -/
theorem x61 {m : Nat} (ha : a ∈ ml_) (hc : cm_ D a M) (hM : wm_ M) (hcap : M.2.1 ≤ cap_ a) (hn : M.2.1 ≤ 60) (h : cw_ (D.2 341) M m) (hm : m ≤ 30) : ∃ D', k61_0 w (d + 3) a (nI m) D = some (none, D') ∧ ol_ 341 D D' ∧ cw_ (D'.2 341) M (m + 1) := by
  rw [e61_0 ha]
  obtain ⟨D', e1, e2, e3, e4⟩ := lp_ (fun i (E : dy_) => k61_2 w (d + 3) a (nI m) (nI i) E) (fun i E => ol_ 341 D E ∧ cw_ (E.2 341) M m ∧ ∀ p, p < i → E.2 341 (m * 60 + p) = lN (wc_ M m p)) (M.2.1) (s := D) (by
    rintro i E hi ⟨t1, t2, t3⟩
    have hc' := cm_ol hc t1.1
    have hcp := mcap ha
    have key : k61_2 w (d + 3) a (nI m) (nI i) E = k61_44 w (d + 3) a (nI m) (nI i) 341 (nI (m * 60 + i)) (lN (wc_ M m i)) E := by
      rw [e61_2 ha]
      by_cases z : m = 0
      · subst z
        simp (disch := omega) only [nI_add, pk_mul, nI_clamp, nI_leI, nI_ltI, nI_eq, inb_, iz1_, iz2_, iz3_, iz4_, iz5_, reduceIte, if_pos, if_neg, op_os, op_vIs, op_vLs, op_vRs, op_vNs, dI_at, dL_at, dI_2, dL_1, Nat.reduceEqDiff, Nat.reduceAdd, Nat.reduceMul, false_and, and_false, true_and, and_true, ne_eq, not_true_eq_false, not_false_eq_true, b2_z, b2_o, b2_n, b2_01, nar_b, nar_0, nar_1, Bool.false_eq_true, Bool.true_eq_false, hc'.2.1, hc'.2.2.2.2 i hi, x105]
        rw [show wc_ M 0 i = if M.2.2.2.2 i then 1 else 0 from rfl]
        cases M.2.2.2.2 i <;> rfl
      · obtain ⟨m, rfl⟩ : ∃ m', m = m' + 1 := ⟨m - 1, by omega⟩
        simp (disch := omega) only [nI_add, pk_mul, nI_clamp, nI_leI, nI_ltI, nI_eq, inb_, iz1_, iz2_, iz3_, iz4_, iz5_, reduceIte, if_pos, if_neg, op_os, op_vIs, op_vLs, op_vRs, op_vNs, dI_at, dL_at, dI_2, dL_1, Nat.reduceEqDiff, Nat.reduceAdd, Nat.reduceMul, false_and, and_false, true_and, and_true, ne_eq, not_true_eq_false, not_false_eq_true, b2_z, b2_o, b2_n, b2_01, nar_b, nar_0, nar_1, Bool.false_eq_true, Bool.true_eq_false, hc'.2.1, x62 ha hc' hM hcap hn t2 (by omega) (Nat.lt_succ_self m) hi]
    refine ⟨dL_ E 341 (m * 60 + i) (lN (wc_ M m i)), key.trans ?_, ol_t t1 (ol_L _ _ _ _), fun m' p hm' hp => ?_, fun p hp => ?_⟩
    · rw [e61_44 ha]
      simp (disch := omega) only [nI_add, pk_mul, nI_clamp, nI_leI, nI_ltI, nI_eq, inb_, iz1_, iz2_, iz3_, iz4_, iz5_, reduceIte, if_pos, if_neg, op_os, op_vIs, op_vLs, op_vRs, op_vNs, dI_at, dL_at, dI_2, dL_1, Nat.reduceEqDiff, Nat.reduceAdd, Nat.reduceMul, false_and, and_false, true_and, and_true, ne_eq, not_true_eq_false, not_false_eq_true, b2_z, b2_o, b2_n, b2_01, nar_b, nar_0, nar_1, Bool.false_eq_true, Bool.true_eq_false, sf_341]
    · simp (disch := omega) only [nI_add, pk_mul, nI_clamp, nI_leI, nI_ltI, nI_eq, inb_, iz1_, iz2_, iz3_, iz4_, iz5_, reduceIte, if_pos, if_neg, op_os, op_vIs, op_vLs, op_vRs, op_vNs, dI_at, dL_at, dI_2, dL_1, Nat.reduceEqDiff, Nat.reduceAdd, Nat.reduceMul, false_and, and_false, true_and, and_true, ne_eq, not_true_eq_false, not_false_eq_true, b2_z, b2_o, b2_n, b2_01, nar_b, nar_0, nar_1, Bool.false_eq_true, Bool.true_eq_false]
      exact t2 m' p hm' hp
    · simp (disch := omega) only [nI_add, pk_mul, nI_clamp, nI_leI, nI_ltI, nI_eq, inb_, iz1_, iz2_, iz3_, iz4_, iz5_, reduceIte, op_os, op_vIs, op_vLs, op_vRs, op_vNs, dI_at, dL_at, dI_2, dL_1, Nat.reduceEqDiff, Nat.reduceAdd, Nat.reduceMul, false_and, and_false, true_and, and_true, ne_eq, not_true_eq_false, not_false_eq_true, b2_z, b2_o, b2_n, b2_01, nar_b, nar_0, nar_1, Bool.false_eq_true, Bool.true_eq_false]
      by_cases z : p = i
      · rw [if_pos (by omega), z]
      · rw [if_neg (by omega)]
        exact t3 p (by omega)) ⟨ol_r _ _, h, fun p hp => absurd hp (by omega)⟩
  refine ⟨D', e1.trans ?_, e2, fun m' p hm' hp => ?_⟩
  · show k61_2 w (d + 3) a (nI m) (nI (M.2.1)) D' = _
    rw [e61_2 ha]
    simp (disch := omega) only [nI_add, pk_mul, nI_clamp, nI_leI, nI_ltI, nI_eq, inb_, iz1_, iz2_, iz3_, iz4_, iz5_, reduceIte, if_pos, if_neg, op_os, op_vIs, op_vLs, op_vRs, op_vNs, dI_at, dL_at, dI_2, dL_1, Nat.reduceEqDiff, Nat.reduceAdd, Nat.reduceMul, false_and, and_false, true_and, and_true, ne_eq, not_true_eq_false, not_false_eq_true, b2_z, b2_o, b2_n, b2_01, nar_b, nar_0, nar_1, Bool.false_eq_true, Bool.true_eq_false, (cm_ol hc e2.1).2.1, Nat.le_refl]
  · by_cases z : m' = m
    · rw [z]; exact e4 p hp
    · exact e3 m' p (by omega) hp
/-- countAll -/
theorem x170 {m : Nat} (hm : m < 110) (hr : rm_ D m M) (hM : wm_ M) (hn : M.2.1 ≤ 60) : ∃ D', k170_0 w (d + 2) (nI m) D = some (none, D') ∧ ol_ 383 D D' ∧ cw_ (D'.2 383) M 31 := by
  have hk := hM.1
  rw [e170_0]
  obtain ⟨D', e1, e2, e3⟩ := lp_ (fun j (E : dy_) => k170_2 w (d + 2) (nI m) (nI j) E) (fun j E => ol_ 383 D E ∧ cw_ (E.2 383) M j) 31 (s := D) (by
    rintro j E hj ⟨t1, t2⟩
    obtain ⟨E', f1, f2, f3, f4⟩ := lp_ (fun i (E' : dy_) => k170_10 w (d + 2) (nI m) (nI j) (nI i) E') (fun i E' => ol_ 383 E E' ∧ cw_ (E'.2 383) M j ∧ ∀ p, p < i → E'.2 383 (j * 60 + p) = lN (wc_ M j p)) (M.2.1) (s := E) (by
      rintro i E' hi ⟨u1, u2, u3⟩
      have hr' := rm_ol hr (u1.1.trans t1.1)
      have key : k170_10 w (d + 2) (nI m) (nI j) (nI i) E' = k170_105 w (d + 2) (nI m) (nI j) (nI i) 383 (nI (60 * j + i)) (lN (wc_ M j i)) E' := by
        rw [e170_10]
        simp (disch := omega) only [nI_add, pk_mul, nI_clamp, nI_leI, nI_ltI, nI_eq, inb_, iz1_, iz2_, iz3_, iz4_, iz5_, reduceIte, if_pos, if_neg, op_os, op_vIs, op_vLs, op_vRs, op_vNs, dI_at, dL_at, dI_2, dL_1, Nat.reduceEqDiff, Nat.reduceAdd, Nat.reduceMul, false_and, and_false, true_and, and_true, ne_eq, not_true_eq_false, not_false_eq_true, b2_z, b2_o, b2_n, b2_01, nar_b, nar_0, nar_1, Bool.false_eq_true, Bool.true_eq_false, hr'.2.1]
        by_cases z : j = 0
        · subst z
          rw [e170_26]
          simp (disch := omega) only [nI_add, pk_mul, nI_clamp, nI_leI, nI_ltI, nI_eq, inb_, iz1_, iz2_, iz3_, iz4_, iz5_, reduceIte, if_pos, if_neg, op_os, op_vIs, op_vLs, op_vRs, op_vNs, dI_at, dL_at, dI_2, dL_1, Nat.reduceEqDiff, Nat.reduceAdd, Nat.reduceMul, false_and, and_false, true_and, and_true, ne_eq, not_true_eq_false, not_false_eq_true, b2_z, b2_o, b2_n, b2_01, nar_b, nar_0, nar_1, Bool.false_eq_true, Bool.true_eq_false, hr'.1, e170_72, x113 hm ⟨hn, hk.2⟩ hr' hi]
          rw [show wc_ M 0 i = if M.2.2.2.2 i then 1 else 0 from rfl]
          cases M.2.2.2.2 i <;> rfl
        · obtain ⟨j, rfl⟩ : ∃ j', j = j' + 1 := ⟨j - 1, by omega⟩
          have := lq_ (fun l (x : Nat) => k170_26 w (d + 2) (nI m) (nI (j + 1)) (nI i) (lN x) (nI l) E') (fun l => sm_ (fun l => wc_ M j (M.2.2.2.1 i l)) l) (M.1) (by
            intro l hl
            have h5 := hM.2.2.2 i l hi hl
            have h6 := u2 j (M.2.2.2.1 i l) (by omega) h5
            rw [Nat.mul_comm] at h6
            show k170_26 w (d + 2) (nI m) (nI (j + 1)) (nI i) (lN (sm_ (fun l => wc_ M j (M.2.2.2.1 i l)) l)) (nI l) E' = _
            rw [e170_26]
            simp (disch := omega) only [nI_add, pk_mul, nI_clamp, nI_leI, nI_ltI, nI_eq, inb_, iz1_, iz2_, iz3_, iz4_, iz5_, reduceIte, if_pos, if_neg, op_os, op_vIs, op_vLs, op_vRs, op_vNs, dI_at, dL_at, dI_2, dL_1, Nat.reduceEqDiff, Nat.reduceAdd, Nat.reduceMul, false_and, and_false, true_and, and_true, ne_eq, not_true_eq_false, not_false_eq_true, b2_z, b2_o, b2_n, b2_01, nar_b, nar_0, nar_1, Bool.false_eq_true, Bool.true_eq_false, hr'.1, x112 hm ⟨hn, hk.2⟩ hr' hi hl, pk_sub, Nat.add_sub_cancel, h6, lN_add]
            rfl)
          refine this.trans ?_
          show k170_26 w (d + 2) (nI m) (nI (j + 1)) (nI i) (lN (sm_ (fun l => wc_ M j (M.2.2.2.1 i l)) (M.1))) (nI (M.1)) E' = _
          rw [e170_26]
          simp (disch := omega) only [nI_add, pk_mul, nI_clamp, nI_leI, nI_ltI, nI_eq, inb_, iz1_, iz2_, iz3_, iz4_, iz5_, reduceIte, if_pos, if_neg, op_os, op_vIs, op_vLs, op_vRs, op_vNs, dI_at, dL_at, dI_2, dL_1, Nat.reduceEqDiff, Nat.reduceAdd, Nat.reduceMul, false_and, and_false, true_and, and_true, ne_eq, not_true_eq_false, not_false_eq_true, b2_z, b2_o, b2_n, b2_01, nar_b, nar_0, nar_1, Bool.false_eq_true, Bool.true_eq_false, hr'.1, Nat.le_refl, e170_72]
          rfl
      refine ⟨dL_ E' 383 (60 * j + i) (lN (wc_ M j i)), key.trans ?_, ol_t u1 (ol_L _ _ _ _), fun m' p hm' hp => ?_, fun p hp => ?_⟩
      · rw [e170_105]
        simp (disch := omega) only [nI_add, pk_mul, nI_clamp, nI_leI, nI_ltI, nI_eq, inb_, iz1_, iz2_, iz3_, iz4_, iz5_, reduceIte, if_pos, if_neg, op_os, op_vIs, op_vLs, op_vRs, op_vNs, dI_at, dL_at, dI_2, dL_1, Nat.reduceEqDiff, Nat.reduceAdd, Nat.reduceMul, false_and, and_false, true_and, and_true, ne_eq, not_true_eq_false, not_false_eq_true, b2_z, b2_o, b2_n, b2_01, nar_b, nar_0, nar_1, Bool.false_eq_true, Bool.true_eq_false, sf_383]
      · simp (disch := omega) only [nI_add, pk_mul, nI_clamp, nI_leI, nI_ltI, nI_eq, inb_, iz1_, iz2_, iz3_, iz4_, iz5_, reduceIte, if_pos, if_neg, op_os, op_vIs, op_vLs, op_vRs, op_vNs, dI_at, dL_at, dI_2, dL_1, Nat.reduceEqDiff, Nat.reduceAdd, Nat.reduceMul, false_and, and_false, true_and, and_true, ne_eq, not_true_eq_false, not_false_eq_true, b2_z, b2_o, b2_n, b2_01, nar_b, nar_0, nar_1, Bool.false_eq_true, Bool.true_eq_false]
        exact u2 m' p hm' hp
      · simp (disch := omega) only [nI_add, pk_mul, nI_clamp, nI_leI, nI_ltI, nI_eq, inb_, iz1_, iz2_, iz3_, iz4_, iz5_, reduceIte, op_os, op_vIs, op_vLs, op_vRs, op_vNs, dI_at, dL_at, dI_2, dL_1, Nat.reduceEqDiff, Nat.reduceAdd, Nat.reduceMul, false_and, and_false, true_and, and_true, ne_eq, not_true_eq_false, not_false_eq_true, b2_z, b2_o, b2_n, b2_01, nar_b, nar_0, nar_1, Bool.false_eq_true, Bool.true_eq_false]
        by_cases z : p = i
        · rw [if_pos (by omega), z]
        · rw [if_neg (by omega)]
          exact u3 p (by omega)) ⟨ol_r _ _, t2, fun p hp => absurd hp (by omega)⟩
    refine ⟨E', ?_, ol_t t1 f2, fun m' p hm' hp => ?_⟩
    · show k170_2 w (d + 2) (nI m) (nI j) E = _
      rw [e170_2]
      simp (disch := omega) only [nI_add, pk_mul, nI_clamp, nI_leI, nI_ltI, nI_eq, inb_, iz1_, iz2_, iz3_, iz4_, iz5_, reduceIte, if_pos, if_neg, op_os, op_vIs, op_vLs, op_vRs, op_vNs, dI_at, dL_at, dI_2, dL_1, Nat.reduceEqDiff, Nat.reduceAdd, Nat.reduceMul, false_and, and_false, true_and, and_true, ne_eq, not_true_eq_false, not_false_eq_true, b2_z, b2_o, b2_n, b2_01, nar_b, nar_0, nar_1, Bool.false_eq_true, Bool.true_eq_false]
      refine f1.trans ?_
      show k170_10 w (d + 2) (nI m) (nI j) (nI (M.2.1)) E' = _
      rw [e170_10]
      simp (disch := omega) only [nI_add, pk_mul, nI_clamp, nI_leI, nI_ltI, nI_eq, inb_, iz1_, iz2_, iz3_, iz4_, iz5_, reduceIte, if_pos, if_neg, op_os, op_vIs, op_vLs, op_vRs, op_vNs, dI_at, dL_at, dI_2, dL_1, Nat.reduceEqDiff, Nat.reduceAdd, Nat.reduceMul, false_and, and_false, true_and, and_true, ne_eq, not_true_eq_false, not_false_eq_true, b2_z, b2_o, b2_n, b2_01, nar_b, nar_0, nar_1, Bool.false_eq_true, Bool.true_eq_false, (rm_ol hr (f2.1.trans t1.1)).2.1, Nat.le_refl]
    · by_cases z : m' = j
      · rw [z]; exact f4 p hp
      · exact f3 m' p (by omega) hp) ⟨ol_r _ _, fun m' p hm' => absurd hm' (by omega)⟩
  refine ⟨D', e1.trans ?_, e2, e3⟩
  show k170_2 w (d + 2) (nI m) (nI 31) D' = _
  rw [e170_2]
  simp (disch := omega) only [nI_add, pk_mul, nI_clamp, nI_leI, nI_ltI, nI_eq, inb_, iz1_, iz2_, iz3_, iz4_, iz5_, reduceIte, if_pos, if_neg, op_os, op_vIs, op_vLs, op_vRs, op_vNs, dI_at, dL_at, dI_2, dL_1, Nat.reduceEqDiff, Nat.reduceAdd, Nat.reduceMul, false_and, and_false, true_and, and_true, ne_eq, not_true_eq_false, not_false_eq_true, b2_z, b2_o, b2_n, b2_01, nar_b, nar_0, nar_1, Bool.false_eq_true, Bool.true_eq_false]
/-- ofLength -/
theorem x56 {m : Nat} (ha : a ∈ ml_) (hc : cm_ D a M) (hM : wm_ M) (hcap : M.2.1 ≤ cap_ a) (hn : M.2.1 ≤ 60) (hm : m ≤ 30) : ∃ D', k56_0 w (d + 4) a (nI m) D = some (some (.long (lN (wc_ M m (M.2.2.1)))), D') ∧ ol_ 341 D D' := by
  rw [e56_0 ha]
  obtain ⟨D', e1, e2, e3⟩ := lp_ (fun j (E : dy_) => k56_2 w (d + 4) a (nI m) (nI j) E) (fun j E => ol_ 341 D E ∧ cw_ (E.2 341) M j) (m + 1) (s := D) (by
    rintro j E hj ⟨t1, t2⟩
    obtain ⟨E', f1, f2, f3⟩ := x61 (w := w) (d := d) ha (cm_ol hc t1.1) hM hcap hn t2 (by omega)
    refine ⟨E', ?_, ol_t t1 f2, f3⟩
    show k56_2 w (d + 4) a (nI m) (nI j) E = _
    rw [e56_2 ha]
    simp (disch := omega) only [nI_add, pk_mul, nI_clamp, nI_leI, nI_ltI, nI_eq, inb_, iz1_, iz2_, iz3_, iz4_, iz5_, reduceIte, if_pos, if_neg, op_os, op_vIs, op_vLs, op_vRs, op_vNs, dI_at, dL_at, dI_2, dL_1, Nat.reduceEqDiff, Nat.reduceAdd, Nat.reduceMul, false_and, and_false, true_and, and_true, ne_eq, not_true_eq_false, not_false_eq_true, b2_z, b2_o, b2_n, b2_01, nar_b, nar_0, nar_1, Bool.false_eq_true, Bool.true_eq_false, f1]) ⟨ol_r _ _, fun m' p hm' => absurd hm' (by omega)⟩
  refine ⟨D', e1.trans ?_, e2⟩
  show k56_2 w (d + 4) a (nI m) (nI (m + 1)) D' = _
  rw [e56_2 ha]
  simp (disch := omega) only [nI_add, pk_mul, nI_clamp, nI_leI, nI_ltI, nI_eq, inb_, iz1_, iz2_, iz3_, iz4_, iz5_, reduceIte, if_pos, if_neg, op_os, op_vIs, op_vLs, op_vRs, op_vNs, dI_at, dL_at, dI_2, dL_1, Nat.reduceEqDiff, Nat.reduceAdd, Nat.reduceMul, false_and, and_false, true_and, and_true, ne_eq, not_true_eq_false, not_false_eq_true, b2_z, b2_o, b2_n, b2_01, nar_b, nar_0, nar_1, Bool.false_eq_true, Bool.true_eq_false, (cm_ol hc e2.1).2.2.1, x60 e3 (by omega) hn (Nat.lt_succ_self m) hM.2.2.1]
theorem bo_words (hS : ok_ S) (s n : Int32) : bo_ S B (fun D => k97_0 w (d + 200) s n D) (fun D => k171_0 w (d + 200) s n D) := by
  by_cases c1 : ls_ 6 s = true
  · obtain ⟨i, rfl, hi⟩ := ls_t (by omega) c1
    obtain ⟨hM, hn⟩ := hS.1 i hi
    by_cases c2 : ls_ 31 n = true
    · obtain ⟨m, rfl, hm⟩ := ls_t (by omega) c2
      have h1 := hM.2.2.1
      refine bo_i (.long (lN (wc_ (S.1 i) m ((S.1 i).2.2.1)))) S hS (fun D h => ?_) (fun D h => ?_)
      · obtain ⟨D', e1, e2⟩ := x56 (w := w) (d := d + 195) (m := m) (sl_ hi).2 (h.1 i hi) hM (by rw [sl4_ hi]; exact hn) hn (by omega)
        refine ⟨D', ?_, rc_m (rc_ol h e2.1) (by omega), hi_ol e2 (by omega)⟩
        rw [e97_0, x106s, c1]
        simp (disch := omega) only [nI_add, pk_mul, nI_clamp, nI_leI, nI_ltI, nI_eq, inb_, iz1_, iz2_, iz3_, iz4_, iz5_, reduceIte, if_pos, if_neg, op_os, op_vIs, op_vLs, op_vRs, op_vNs, dI_at, dL_at, dI_2, dL_1, Nat.reduceEqDiff, Nat.reduceAdd, Nat.reduceMul, false_and, and_false, true_and, and_true, ne_eq, not_true_eq_false, not_false_eq_true, b2_z, b2_o, b2_n, b2_01, nar_b, nar_0, nar_1, Bool.false_eq_true, Bool.true_eq_false, sl1_, e1]
      · have h' := mr_0 (v := nI 0) h
        obtain ⟨D', e1, e2, e3⟩ := x170 (w := w) (d := d + 197) (show i < 110 by omega) (h'.1 i hi) hM hn
        refine ⟨D', ?_, mr_ol h' e2.1, lw_t (lw_I (by omega)) (lw_ol e2 (by omega))⟩
        have h6 := e3 m ((S.1 i).2.2.1) (by omega) h1
        rw [Nat.mul_comm] at h6
        have h7 := (rm_ol (h'.1 i hi) e2.1).2.2.1
        rw [e171_0, x114s, c1]
        simp (disch := omega) only [nI_add, pk_mul, nI_clamp, nI_leI, nI_ltI, nI_eq, inb_, iz1_, iz2_, iz3_, iz4_, iz5_, reduceIte, if_pos, if_neg, op_os, op_vIs, op_vLs, op_vRs, op_vNs, dI_at, dL_at, dI_2, dL_1, Nat.reduceEqDiff, Nat.reduceAdd, Nat.reduceMul, false_and, and_false, true_and, and_true, ne_eq, not_true_eq_false, not_false_eq_true, b2_z, b2_o, b2_n, b2_01, nar_b, nar_0, nar_1, Bool.false_eq_true, Bool.true_eq_false, x111k, c2, e1, h7, h6]
    · refine bo_o (.long (-1)) hS (fun D h => ?_) (fun D h => ?_)
      · rw [e97_0, x106s, c1]
        simp (disch := omega) only [nI_add, pk_mul, nI_clamp, nI_leI, nI_ltI, nI_eq, inb_, iz1_, iz2_, iz3_, iz4_, iz5_, reduceIte, op_os, op_vIs, op_vLs, op_vRs, op_vNs, dI_at, dL_at, dI_2, dL_1, Nat.reduceEqDiff, Nat.reduceAdd, Nat.reduceMul, false_and, and_false, true_and, and_true, ne_eq, not_true_eq_false, not_false_eq_true, b2_z, b2_o, b2_n, b2_01, nar_b, nar_0, nar_1, Bool.false_eq_true, Bool.true_eq_false]
        rcases ic_ n with ⟨m, hm, rfl⟩ | hm
        · have : ¬ m < 31 := fun q => c2 (ls_n q (by omega))
          simp (disch := omega) only [nI_add, pk_mul, nI_clamp, nI_leI, nI_ltI, nI_eq, inb_, iz1_, iz2_, iz3_, iz4_, iz5_, reduceIte, if_pos, if_neg, op_os, op_vIs, op_vLs, op_vRs, op_vNs, dI_at, dL_at, dI_2, dL_1, Nat.reduceEqDiff, Nat.reduceAdd, Nat.reduceMul, false_and, and_false, true_and, and_true, ne_eq, not_true_eq_false, not_false_eq_true, b2_z, b2_o, b2_n, b2_01, nar_b, nar_0, nar_1, Bool.false_eq_true, Bool.true_eq_false]
        · rw [if_pos (show n < nI 0 from hm)]
      · rw [e171_0, x114s, c1]
        simp (disch := omega) only [nI_add, pk_mul, nI_clamp, nI_leI, nI_ltI, nI_eq, inb_, iz1_, iz2_, iz3_, iz4_, iz5_, reduceIte, if_pos, if_neg, op_os, op_vIs, op_vLs, op_vRs, op_vNs, dI_at, dL_at, dI_2, dL_1, Nat.reduceEqDiff, Nat.reduceAdd, Nat.reduceMul, false_and, and_false, true_and, and_true, ne_eq, not_true_eq_false, not_false_eq_true, b2_z, b2_o, b2_n, b2_01, nar_b, nar_0, nar_1, Bool.false_eq_true, Bool.true_eq_false, x111k, bf_ c2]
  · refine bo_o (.long (-1)) hS (fun D h => ?_) (fun D h => ?_)
    · rw [e97_0, x106s, bf_ c1]
      rfl
    · rw [e171_0, x114s, bf_ c1]
      rfl
end COUNT
