/-! mapping -/
/-- all of them -/
def aln_ (g : Nat → Bool) : Nat → Bool
  | 0 => true
  | n + 1 => aln_ g n && g n
theorem aln_t {g : Nat → Bool} {n : Nat} : aln_ g n = true ↔ ∀ p, p < n → g p = true := by
  induction n with
  | zero => exact ⟨fun _ p hp => absurd hp (by omega), fun _ => rfl⟩
  | succ n ih =>
    show (aln_ g n && g n) = true ↔ _
    rw [Bool.and_eq_true_iff, ih]
    constructor
    · rintro ⟨h1, h2⟩ p hp
      by_cases z : p = n
      · rw [z]; exact h2
      · exact h1 p (by omega)
    · exact fun h => ⟨fun p hp => h p (by omega), h n (by omega)⟩
theorem aln_f {g : Nat → Bool} {n p : Nat} (hp : p < n) (h : g p = false) : aln_ g n = false := by
  refine bf_ fun z => ?_
  have := aln_t.mp z p hp
  rw [h] at this
  cases this
theorem bool_e {a b : Bool} (h : a = true ↔ b = true) : a = b := by
  cases a <;> cases b
  · rfl
  · exact absurd (h.mpr rfl) (by decide)
  · exact absurd (h.mp rfl) (by decide)
  · rfl
theorem cq_aln (g : Nat → Bool) (n : Nat) : decide (cq_ g n = n) = aln_ g n := by
  refine bool_e ?_
  rw [decide_eq_true_iff, aln_t]
  constructor
  · intro h p hp
    refine cq_all (f := g) (h := fun _ => true) (n := n) (fun _ _ _ => rfl) ?_ p hp rfl
    rw [h]
    exact cq_le _ _
  · intro h
    have h1 := cq_le g n
    have h2 : cq_ (fun _ => true) n ≤ cq_ g n := cq_mono fun x hx _ => h x hx
    have h3 : ∀ m, cq_ (fun _ => true) m = m := by
      intro m
      induction m with
      | zero => rfl
      | succ m ih => rw [cq_s, if_pos rfl, ih]
    rw [h3] at h2
    omega
/-- j times -/
def itr_ (f : Nat → Nat) : Nat → Nat → Nat
  | 0, p => p
  | j + 1, p => f (itr_ f j p)
theorem itr_a (f : Nat → Nat) (a : Nat) : ∀ b p, itr_ f (a + b) p = itr_ f b (itr_ f a p) := by
  intro b
  induction b with
  | zero => exact fun _ => rfl
  | succ b ih => exact fun p => congrArg f (ih p)
theorem itr_lt {f : Nat → Nat} {n : Nat} (hf : ∀ p, p < n → f p < n) {p : Nat} (hp : p < n) : ∀ j, itr_ f j p < n
  | 0 => hp
  | j + 1 => hf _ (itr_lt hf hp j)
/-- 60 times are enough -/
theorem itr_60 {f : Nat → Nat} {n : Nat} (hn : n ≤ 60) (hf : ∀ p, p < n → f p < n) {p : Nat} (hp : p < n) : (f (itr_ f 60 p) = itr_ f 60 p) ↔ (f (itr_ f 64 p) = itr_ f 64 p) := by
  have fix : ∀ y, f y = y → ∀ j, itr_ f j y = y := by
    intro y hy j
    induction j with
    | zero => rfl
    | succ j ih => show f (itr_ f j y) = y; rw [ih, hy]
  constructor
  · intro h
    have e : itr_ f 64 p = itr_ f 60 p := (itr_a f 60 4 p).trans (fix _ h 4)
    rw [e]
    exact h
  · intro h
    have rep : ∃ i j, i < j ∧ j ≤ 60 ∧ itr_ f i p = itr_ f j p := by
      refine Classical.byContradiction fun z => ?_
      have := nodup_enc (enc := fun j => itr_ f j p) (n := n) (List.range 61) List.nodup_range (by
        intro a b ha hb e
        have ha := List.mem_range.mp ha
        have hb := List.mem_range.mp hb
        rcases Nat.lt_trichotomy a b with y | y | y
        · exact absurd ⟨a, b, y, by omega, e⟩ z
        · exact y
        · exact absurd ⟨b, a, y, by omega, e.symm⟩ z) (by
        intro a _
        exact itr_lt hf hp a)
      rw [List.length_range] at this
      omega
    obtain ⟨i, j, h1, h2, h3⟩ := rep
    have per : ∀ t, itr_ f (i + t) p = itr_ f (j + t) p := fun t => by rw [itr_a, itr_a, h3]
    have st : ∀ m, itr_ f 60 p = itr_ f (60 + m * (j - i)) p := by
      intro m
      induction m with
      | zero => rw [Nat.zero_mul, Nat.add_zero]
      | succ m ih =>
        rw [ih]
        have := per (60 + m * (j - i) - i)
        rw [show i + (60 + m * (j - i) - i) = 60 + m * (j - i) by omega, show j + (60 + m * (j - i) - i) = 60 + (m + 1) * (j - i) by rw [Nat.succ_mul]; omega] at this
        exact this
    have e : itr_ f 60 p = itr_ f 64 p := by
      rw [st 4, show 60 + 4 * (j - i) = 64 + (4 * (j - i) - 4) by omega, itr_a f 64]
      exact fix _ h _
    rw [e]
    exact h
/-- what is asked of the mappings -/
def qi_ (n : Nat) (f : Nat → Nat) : Bool := aln_ (fun p => decide (f (f p) = f p)) n
def qs1_ (n : Nat) (f : Nat → Nat) : Bool := aln_ (fun p => decide (f (itr_ f 60 p) = itr_ f 60 p)) n
def qd_ (n : Nat) (f : Nat → Nat) : Nat := pcr_ 8 (orf_ (fun p => 2 ^ f p) n)
def qc_ (Q : ma_) : Bool := aln_ (fun l => aln_ (fun h => aln_ (fun p => decide (Q.2.2.2.1 (Q.2.2.2.1 p l) h = Q.2.2.2.1 (Q.2.2.2.1 p h) l)) (Q.2.1)) (Q.1)) (Q.1)
section MAPPING
variable {w : (Nat → Int32) × Nat} {d : Nat} {D : dy_} {Q : ma_} {S : sp_} {B0 c : Nat} {f : Nat → Nat → Nat}
/-- what the class's methods go by -/
def mh_ (Q : ma_) (c : Nat) (f : Nat → Nat → Nat) (D : dy_) : Prop := D.1 342 6 = nI c ∧ cm_ D 343 Q ∧ ∀ i p, i < c → p < Q.2.1 → D.1 346 (i * 60 + p) = nI (f i p)
theorem mh_fr {D D' : dy_} (h : mh_ Q c f D) (g : sx_ (fun b => b = 349 ∨ b = 350) D D') : mh_ Q c f D' := ⟨by rw [(g 342 (by omega)).1]; exact h.1, cm_sx h.2.1 g (by omega) (by omega) (by omega), fun i p hi hp => by rw [(g 346 (by omega)).1]; exact h.2.2 i p hi hp⟩
theorem y17 {i p : Nat} (h : mh_ Q c f D) (hc : c ≤ 400) (hn : Q.2.1 ≤ 60) (hi : i < c) (hp : p < Q.2.1) : k17_0 w (d + 1) (nI i) (nI p) D = some (some (.int (nI (f i p))), D) := by
  rw [e17_0]
  simp (disch := omega) only [nI_add, pk_mul, nI_clamp, nI_leI, nI_ltI, nI_eq, inb_, iz1_, iz2_, iz3_, iz4_, iz5_, reduceIte, if_pos, if_neg, op_os, op_vIs, op_vLs, op_vRs, op_vNs, dI_at, dL_at, dI_2, dL_1, Nat.reduceEqDiff, Nat.reduceAdd, Nat.reduceMul, false_and, and_false, true_and, and_true, ne_eq, not_true_eq_false, not_false_eq_true, b2_z, b2_o, b2_n, b2_01, nar_b, nar_0, nar_1, Bool.false_eq_true, Bool.true_eq_false, h.2.2 i p hi hp]
/-- countIdempotent -/
theorem x21 (h : mh_ Q c f D) (hc : c ≤ 400) (hn : Q.2.1 ≤ 60) (hf : ∀ i p, i < c → p < Q.2.1 → f i p < Q.2.1) : k21_0 w (d + 2) D = some (some (.int (nI (cq_ (fun i => qi_ (Q.2.1) (f i)) c))), D) := by
  have h3 := h.2.1.2.1
  rw [e21_0]
  have := lq_ (fun i (x : Nat) => k21_4 w (d + 2) (nI x) (nI i) D) (fun i => cq_ (fun i => qi_ (Q.2.1) (f i)) i) c (by
    intro i hi
    have hcq := cq_le (fun i => qi_ (Q.2.1) (f i)) i
    show k21_4 w (d + 2) (nI (cq_ (fun i => qi_ (Q.2.1) (f i)) i)) (nI i) D = k21_4 w (d + 2) (nI (cq_ (fun i => qi_ (Q.2.1) (f i)) (i + 1))) (nI (i + 1)) D
    rw [e21_4]
    simp (disch := omega) only [nI_add, pk_mul, nI_clamp, nI_leI, nI_ltI, nI_eq, inb_, iz1_, iz2_, iz3_, iz4_, iz5_, reduceIte, if_pos, if_neg, op_os, op_vIs, op_vLs, op_vRs, op_vNs, dI_at, dL_at, dI_2, dL_1, Nat.reduceEqDiff, Nat.reduceAdd, Nat.reduceMul, false_and, and_false, true_and, and_true, ne_eq, not_true_eq_false, not_false_eq_true, b2_z, b2_o, b2_n, b2_01, nar_b, nar_0, nar_1, Bool.false_eq_true, Bool.true_eq_false, h.1]
    have l2 := lq_ (fun p (x : Nat) => k21_17 w (d + 2) (nI (cq_ (fun i => qi_ (Q.2.1) (f i)) i)) (nI i) (nI x) (nI p) D) (fun p => cq_ (fun p => decide (f i (f i p) = f i p)) p) (Q.2.1) (by
      intro p hp
      have b1 := hf i p hi hp
      have b2 := hf i _ hi b1
      have hcp := cq_le (fun p => decide (f i (f i p) = f i p)) p
      show k21_17 w (d + 2) _ (nI i) (nI (cq_ (fun p => decide (f i (f i p) = f i p)) p)) (nI p) D = k21_17 w (d + 2) _ (nI i) (nI (cq_ (fun p => decide (f i (f i p) = f i p)) (p + 1))) (nI (p + 1)) D
      rw [e21_17, cq_s]
      by_cases z : f i (f i p) = f i p
      · rw [decide_eq_true z, if_pos rfl]
        simp (disch := omega) only [nI_add, pk_mul, nI_clamp, nI_leI, nI_ltI, nI_eq, inb_, iz1_, iz2_, iz3_, iz4_, iz5_, reduceIte, if_pos, if_neg, op_os, op_vIs, op_vLs, op_vRs, op_vNs, dI_at, dL_at, dI_2, dL_1, Nat.reduceEqDiff, Nat.reduceAdd, Nat.reduceMul, false_and, and_false, true_and, and_true, ne_eq, not_true_eq_false, not_false_eq_true, b2_z, b2_o, b2_n, b2_01, nar_b, nar_0, nar_1, Bool.false_eq_true, Bool.true_eq_false, h3, y17 h hc hn hi hp, y17 h hc hn hi b1, z, e21_54]
      · rw [decide_eq_false z, if_neg (show ¬ false = true by decide)]
        simp (disch := omega) only [nI_add, pk_mul, nI_clamp, nI_leI, nI_ltI, nI_eq, inb_, iz1_, iz2_, iz3_, iz4_, iz5_, reduceIte, if_pos, if_neg, op_os, op_vIs, op_vLs, op_vRs, op_vNs, dI_at, dL_at, dI_2, dL_1, Nat.reduceEqDiff, Nat.reduceAdd, Nat.reduceMul, false_and, and_false, true_and, and_true, ne_eq, not_true_eq_false, not_false_eq_true, b2_z, b2_o, b2_n, b2_01, nar_b, nar_0, nar_1, Bool.false_eq_true, Bool.true_eq_false, h3, y17 h hc hn hi hp, y17 h hc hn hi b1, e21_54])
    refine Eq.trans (show _ = k21_17 w (d + 2) (nI (cq_ (fun i => qi_ (Q.2.1) (f i)) i)) (nI i) (nI (cq_ (fun p => decide (f i (f i p) = f i p)) (Q.2.1))) (nI (Q.2.1)) D from l2) ?_
    have hcn := cq_le (fun p => decide (f i (f i p) = f i p)) (Q.2.1)
    rw [e21_17, cq_s]
    have hq : qi_ (Q.2.1) (f i) = decide (cq_ (fun p => decide (f i (f i p) = f i p)) (Q.2.1) = Q.2.1) := (cq_aln _ _).symm
    by_cases z : cq_ (fun p => decide (f i (f i p) = f i p)) (Q.2.1) = Q.2.1
    · rw [hq, decide_eq_true z, if_pos rfl]
      simp (disch := omega) only [nI_add, pk_mul, nI_clamp, nI_leI, nI_ltI, nI_eq, inb_, iz1_, iz2_, iz3_, iz4_, iz5_, reduceIte, if_pos, if_neg, op_os, op_vIs, op_vLs, op_vRs, op_vNs, dI_at, dL_at, dI_2, dL_1, Nat.reduceEqDiff, Nat.reduceAdd, Nat.reduceMul, false_and, and_false, true_and, and_true, ne_eq, not_true_eq_false, not_false_eq_true, b2_z, b2_o, b2_n, b2_01, nar_b, nar_0, nar_1, Bool.false_eq_true, Bool.true_eq_false, h3, z, Nat.le_refl, e21_74]
    · rw [hq, decide_eq_false z, if_neg (show ¬ false = true by decide)]
      simp (disch := omega) only [nI_add, pk_mul, nI_clamp, nI_leI, nI_ltI, nI_eq, inb_, iz1_, iz2_, iz3_, iz4_, iz5_, reduceIte, if_pos, if_neg, op_os, op_vIs, op_vLs, op_vRs, op_vNs, dI_at, dL_at, dI_2, dL_1, Nat.reduceEqDiff, Nat.reduceAdd, Nat.reduceMul, false_and, and_false, true_and, and_true, ne_eq, not_true_eq_false, not_false_eq_true, b2_z, b2_o, b2_n, b2_01, nar_b, nar_0, nar_1, Bool.false_eq_true, Bool.true_eq_false, h3, Nat.le_refl, e21_74])
  refine Eq.trans (show _ = k21_4 w (d + 2) (nI (cq_ (fun i => qi_ (Q.2.1) (f i)) c)) (nI c) D from this) ?_
  rw [e21_4]
  simp (disch := omega) only [nI_add, pk_mul, nI_clamp, nI_leI, nI_ltI, nI_eq, inb_, iz1_, iz2_, iz3_, iz4_, iz5_, reduceIte, if_pos, if_neg, op_os, op_vIs, op_vLs, op_vRs, op_vNs, dI_at, dL_at, dI_2, dL_1, Nat.reduceEqDiff, Nat.reduceAdd, Nat.reduceMul, false_and, and_false, true_and, and_true, ne_eq, not_true_eq_false, not_false_eq_true, b2_z, b2_o, b2_n, b2_01, nar_b, nar_0, nar_1, Bool.false_eq_true, Bool.true_eq_false, h.1, Nat.le_refl]
/-- countWithImages -/
theorem x22 {sz : Nat} (hsz : sz ≤ 60) (h : mh_ Q c f D) (hc : c ≤ 400) (hn : Q.2.1 ≤ 60) (hf : ∀ i p, i < c → p < Q.2.1 → f i p < Q.2.1) (hq : ∀ i, i < c → qd_ (Q.2.1) (f i) ≤ 60) : k22_0 w (d + 2) (nI sz) D = some (some (.int (nI (cq_ (fun i => decide (qd_ (Q.2.1) (f i) = sz)) c))), D) := by
  have h3 := h.2.1.2.1
  rw [e22_0]
  have := lq_ (fun i (x : Nat) => k22_4 w (d + 2) (nI sz) (nI x) (nI i) D) (fun i => cq_ (fun i => decide (qd_ (Q.2.1) (f i) = sz)) i) c (by
    intro i hi
    have hqi := hq i hi
    have hcq := cq_le (fun i => decide (qd_ (Q.2.1) (f i) = sz)) i
    show k22_4 w (d + 2) (nI sz) (nI (cq_ (fun i => decide (qd_ (Q.2.1) (f i) = sz)) i)) (nI i) D = k22_4 w (d + 2) (nI sz) (nI (cq_ (fun i => decide (qd_ (Q.2.1) (f i) = sz)) (i + 1))) (nI (i + 1)) D
    rw [e22_4]
    simp (disch := omega) only [nI_add, pk_mul, nI_clamp, nI_leI, nI_ltI, nI_eq, inb_, iz1_, iz2_, iz3_, iz4_, iz5_, reduceIte, if_pos, if_neg, op_os, op_vIs, op_vLs, op_vRs, op_vNs, dI_at, dL_at, dI_2, dL_1, Nat.reduceEqDiff, Nat.reduceAdd, Nat.reduceMul, false_and, and_false, true_and, and_true, ne_eq, not_true_eq_false, not_false_eq_true, b2_z, b2_o, b2_n, b2_01, nar_b, nar_0, nar_1, Bool.false_eq_true, Bool.true_eq_false, h.1]
    have l2 := lq_ (fun p (x : Nat) => k22_18 w (d + 2) (nI sz) (nI (cq_ (fun i => decide (qd_ (Q.2.1) (f i) = sz)) i)) (nI i) (lN x) (nI p) D) (fun p => orf_ (fun p => 2 ^ f i p) p) (Q.2.1) (by
      intro p hp
      have b1 := hf i p hi hp
      show k22_18 w (d + 2) (nI sz) _ (nI i) (lN (orf_ (fun p => 2 ^ f i p) p)) (nI p) D = k22_18 w (d + 2) (nI sz) _ (nI i) (lN (orf_ (fun p => 2 ^ f i p) p ||| 2 ^ f i p)) (nI (p + 1)) D
      rw [e22_18]
      simp (disch := omega) only [nI_add, pk_mul, nI_clamp, nI_leI, nI_ltI, nI_eq, inb_, iz1_, iz2_, iz3_, iz4_, iz5_, reduceIte, if_pos, if_neg, op_os, op_vIs, op_vLs, op_vRs, op_vNs, dI_at, dL_at, dI_2, dL_1, Nat.reduceEqDiff, Nat.reduceAdd, Nat.reduceMul, false_and, and_false, true_and, and_true, ne_eq, not_true_eq_false, not_false_eq_true, b2_z, b2_o, b2_n, b2_01, nar_b, nar_0, nar_1, Bool.false_eq_true, Bool.true_eq_false, h3, y17 h hc hn hi hp, sb1, lN_or])
    refine Eq.trans (show _ = k22_18 w (d + 2) (nI sz) (nI (cq_ (fun i => decide (qd_ (Q.2.1) (f i) = sz)) i)) (nI i) (lN (orf_ (fun p => 2 ^ f i p) (Q.2.1))) (nI (Q.2.1)) D from l2) ?_
    have hlt : orf_ (fun p => 2 ^ f i p) (Q.2.1) < 2 ^ 60 := orf_lt fun p hp => pw_lt (by have := hf i p hi hp; omega)
    have hpc : pcr_ 8 (orf_ (fun p => 2 ^ f i p) (Q.2.1)) = qd_ (Q.2.1) (f i) := rfl
    rw [e22_18, cq_s]
    by_cases z : qd_ (Q.2.1) (f i) = sz
    · rw [decide_eq_true z, if_pos rfl]
      simp (disch := omega) only [nI_add, pk_mul, nI_clamp, nI_leI, nI_ltI, nI_eq, inb_, iz1_, iz2_, iz3_, iz4_, iz5_, reduceIte, if_pos, if_neg, op_os, op_vIs, op_vLs, op_vRs, op_vNs, dI_at, dL_at, dI_2, dL_1, Nat.reduceEqDiff, Nat.reduceAdd, Nat.reduceMul, false_and, and_false, true_and, and_true, ne_eq, not_true_eq_false, not_false_eq_true, b2_z, b2_o, b2_n, b2_01, nar_b, nar_0, nar_1, Bool.false_eq_true, Bool.true_eq_false, h3, Nat.le_refl, x184 hlt, hpc, z, e22_62]
    · rw [decide_eq_false z, if_neg (show ¬ false = true by decide)]
      simp (disch := omega) only [nI_add, pk_mul, nI_clamp, nI_leI, nI_ltI, nI_eq, inb_, iz1_, iz2_, iz3_, iz4_, iz5_, reduceIte, if_pos, if_neg, op_os, op_vIs, op_vLs, op_vRs, op_vNs, dI_at, dL_at, dI_2, dL_1, Nat.reduceEqDiff, Nat.reduceAdd, Nat.reduceMul, false_and, and_false, true_and, and_true, ne_eq, not_true_eq_false, not_false_eq_true, b2_z, b2_o, b2_n, b2_01, nar_b, nar_0, nar_1, Bool.false_eq_true, Bool.true_eq_false, h3, Nat.le_refl, x184 hlt, hpc, e22_62])
  refine Eq.trans (show _ = k22_4 w (d + 2) (nI sz) (nI (cq_ (fun i => decide (qd_ (Q.2.1) (f i) = sz)) c)) (nI c) D from this) ?_
  rw [e22_4]
  simp (disch := omega) only [nI_add, pk_mul, nI_clamp, nI_leI, nI_ltI, nI_eq, inb_, iz1_, iz2_, iz3_, iz4_, iz5_, reduceIte, if_pos, if_neg, op_os, op_vIs, op_vLs, op_vRs, op_vNs, dI_at, dL_at, dI_2, dL_1, Nat.reduceEqDiff, Nat.reduceAdd, Nat.reduceMul, false_and, and_false, true_and, and_true, ne_eq, not_true_eq_false, not_false_eq_true, b2_z, b2_o, b2_n, b2_01, nar_b, nar_0, nar_1, Bool.false_eq_true, Bool.true_eq_false, h.1, Nat.le_refl]
/-- allCommute -/
theorem x23 (hQ : wm_ Q) (h : cm_ D 343 Q) (hn : Q.2.1 ≤ 60) : k23_0 w (d + 2) D = some (some (.int (b2_ (qc_ Q))), D) := by
  have hk := hQ.1
  have c9 : ∀ p l, p < Q.2.1 → l < Q.1 → k9_0 w (d + 1) 343 (nI p) (nI l) D = some (some (.int (nI (Q.2.2.2.1 p l))), D) := fun p l hp hl => cx9 ml_343 h (by rw [cap_343]; exact hn) hk.2 hp hl
  -- a pair that does not go together
  have bad : ∀ l r p, l < Q.1 → r < Q.1 → p < Q.2.1 → Q.2.2.2.1 (Q.2.2.2.1 p l) r ≠ Q.2.2.2.1 (Q.2.2.2.1 p r) l → qc_ Q = false := fun l r p hl hr hp z => by
    unfold qc_
    exact aln_f hl (aln_f hr (aln_f hp (decide_eq_false z)))
  have states : ∀ l r, l < Q.1 → r < Q.1 → ∀ u p, p + u = Q.2.1 → (∀ x, x < p → Q.2.2.2.1 (Q.2.2.2.1 x l) r = Q.2.2.2.1 (Q.2.2.2.1 x r) l) → (k23_30 w (d + 2) (nI l) (nI r) (nI p) D = k23_17 w (d + 2) (nI l) (nI (r + 1)) D ∧ ∀ x, x < Q.2.1 → Q.2.2.2.1 (Q.2.2.2.1 x l) r = Q.2.2.2.1 (Q.2.2.2.1 x r) l) ∨ (k23_30 w (d + 2) (nI l) (nI r) (nI p) D = some (some (.int (b2_ (qc_ Q))), D)) := by
    intro l r hl hr u
    induction u with
    | zero =>
      intro p hp he
      obtain rfl : p = Q.2.1 := by omega
      refine Or.inl ⟨?_, he⟩
      rw [e23_30]
      simp (disch := omega) only [nI_add, pk_mul, nI_clamp, nI_leI, nI_ltI, nI_eq, inb_, iz1_, iz2_, iz3_, iz4_, iz5_, reduceIte, if_pos, if_neg, op_os, op_vIs, op_vLs, op_vRs, op_vNs, dI_at, dL_at, dI_2, dL_1, Nat.reduceEqDiff, Nat.reduceAdd, Nat.reduceMul, false_and, and_false, true_and, and_true, ne_eq, not_true_eq_false, not_false_eq_true, b2_z, b2_o, b2_n, b2_01, nar_b, nar_0, nar_1, Bool.false_eq_true, Bool.true_eq_false, h.2.1, Nat.le_refl]
    | succ u ih =>
      intro p hp he
      have hp' : p < Q.2.1 := by omega
      have b1 := hQ.2.2.2 p l hp' hl
      have b2 := hQ.2.2.2 p r hp' hr
      have b3 := hQ.2.2.2 _ r b1 hr
      have b4 := hQ.2.2.2 _ l b2 hl
      rw [e23_30]
      by_cases z : Q.2.2.2.1 (Q.2.2.2.1 p l) r = Q.2.2.2.1 (Q.2.2.2.1 p r) l
      · simp (disch := omega) only [nI_add, pk_mul, nI_clamp, nI_leI, nI_ltI, nI_eq, inb_, iz1_, iz2_, iz3_, iz4_, iz5_, reduceIte, if_pos, if_neg, op_os, op_vIs, op_vLs, op_vRs, op_vNs, dI_at, dL_at, dI_2, dL_1, Nat.reduceEqDiff, Nat.reduceAdd, Nat.reduceMul, false_and, and_false, true_and, and_true, ne_eq, not_true_eq_false, not_false_eq_true, b2_z, b2_o, b2_n, b2_01, nar_b, nar_0, nar_1, Bool.false_eq_true, Bool.true_eq_false, h.2.1, c9 p l hp' hl, c9 _ r b1 hr, c9 p r hp' hr, c9 _ l b2 hl, z]
        exact ih (p + 1) (by omega) (fun x hx => by
          by_cases y : x = p
          · rw [y]; exact z
          · exact he x (by omega))
      · right
        rw [bad l r p hl hr hp' z]
        simp (disch := omega) only [nI_add, pk_mul, nI_clamp, nI_leI, nI_ltI, nI_eq, inb_, iz1_, iz2_, iz3_, iz4_, iz5_, reduceIte, if_pos, if_neg, op_os, op_vIs, op_vLs, op_vRs, op_vNs, dI_at, dL_at, dI_2, dL_1, Nat.reduceEqDiff, Nat.reduceAdd, Nat.reduceMul, false_and, and_false, true_and, and_true, ne_eq, not_true_eq_false, not_false_eq_true, b2_z, b2_o, b2_n, b2_01, nar_b, nar_0, nar_1, Bool.false_eq_true, Bool.true_eq_false, h.2.1, c9 p l hp' hl, c9 _ r b1 hr, c9 p r hp' hr, c9 _ l b2 hl]
        rfl
  have rights : ∀ l, l < Q.1 → ∀ u r, r + u = Q.1 → (∀ y, y < r → l < y → ∀ x, x < Q.2.1 → Q.2.2.2.1 (Q.2.2.2.1 x l) y = Q.2.2.2.1 (Q.2.2.2.1 x y) l) → (k23_17 w (d + 2) (nI l) (nI r) D = k23_2 w (d + 2) (nI (l + 1)) D ∧ ∀ y, y < Q.1 → l < y → ∀ x, x < Q.2.1 → Q.2.2.2.1 (Q.2.2.2.1 x l) y = Q.2.2.2.1 (Q.2.2.2.1 x y) l) ∨ (k23_17 w (d + 2) (nI l) (nI r) D = some (some (.int (b2_ (qc_ Q))), D)) := by
    intro l hl u
    induction u with
    | zero =>
      intro r hr he
      obtain rfl : r = Q.1 := by omega
      refine Or.inl ⟨?_, he⟩
      rw [e23_17]
      simp (disch := omega) only [nI_add, pk_mul, nI_clamp, nI_leI, nI_ltI, nI_eq, inb_, iz1_, iz2_, iz3_, iz4_, iz5_, reduceIte, if_pos, if_neg, op_os, op_vIs, op_vLs, op_vRs, op_vNs, dI_at, dL_at, dI_2, dL_1, Nat.reduceEqDiff, Nat.reduceAdd, Nat.reduceMul, false_and, and_false, true_and, and_true, ne_eq, not_true_eq_false, not_false_eq_true, b2_z, b2_o, b2_n, b2_01, nar_b, nar_0, nar_1, Bool.false_eq_true, Bool.true_eq_false, h.1, Nat.le_refl]
    | succ u ih =>
      intro r hr he
      have st : k23_17 w (d + 2) (nI l) (nI r) D = k23_30 w (d + 2) (nI l) (nI r) (nI 0) D := by
        rw [e23_17]
        simp (disch := omega) only [nI_add, pk_mul, nI_clamp, nI_leI, nI_ltI, nI_eq, inb_, iz1_, iz2_, iz3_, iz4_, iz5_, reduceIte, if_pos, if_neg, op_os, op_vIs, op_vLs, op_vRs, op_vNs, dI_at, dL_at, dI_2, dL_1, Nat.reduceEqDiff, Nat.reduceAdd, Nat.reduceMul, false_and, and_false, true_and, and_true, ne_eq, not_true_eq_false, not_false_eq_true, b2_z, b2_o, b2_n, b2_01, nar_b, nar_0, nar_1, Bool.false_eq_true, Bool.true_eq_false, h.1]
      rw [st]
      rcases states l r hl (by omega) (Q.2.1) 0 (by omega) (fun x hx => absurd hx (by omega)) with ⟨a1, a2⟩ | a1
      · rw [a1]
        exact ih (r + 1) (by omega) (fun y hy hly => by
          by_cases z : y = r
          · rw [z]; exact a2
          · exact he y (by omega) hly)
      · exact Or.inr a1
  have lefts : ∀ u l, l + u = Q.1 → (∀ z, z < l → ∀ y, y < Q.1 → z < y → ∀ x, x < Q.2.1 → Q.2.2.2.1 (Q.2.2.2.1 x z) y = Q.2.2.2.1 (Q.2.2.2.1 x y) z) → k23_2 w (d + 2) (nI l) D = some (some (.int (b2_ (qc_ Q))), D) := by
    intro u
    induction u with
    | zero =>
      intro l hl he
      obtain rfl : l = Q.1 := by omega
      have : qc_ Q = true := by
        unfold qc_
        refine aln_t.mpr fun a ha => aln_t.mpr fun b hb => aln_t.mpr fun x hx => decide_eq_true ?_
        rcases Nat.lt_trichotomy a b with y | y | y
        · exact he a ha b hb y x hx
        · rw [y]
        · exact (he b hb a ha y x hx).symm
      rw [this, e23_2]
      simp (disch := omega) only [nI_add, pk_mul, nI_clamp, nI_leI, nI_ltI, nI_eq, inb_, iz1_, iz2_, iz3_, iz4_, iz5_, reduceIte, if_pos, if_neg, op_os, op_vIs, op_vLs, op_vRs, op_vNs, dI_at, dL_at, dI_2, dL_1, Nat.reduceEqDiff, Nat.reduceAdd, Nat.reduceMul, false_and, and_false, true_and, and_true, ne_eq, not_true_eq_false, not_false_eq_true, b2_z, b2_o, b2_n, b2_01, nar_b, nar_0, nar_1, Bool.false_eq_true, Bool.true_eq_false, h.1, Nat.le_refl]
      rfl
    | succ u ih =>
      intro l hl he
      have st : k23_2 w (d + 2) (nI l) D = k23_17 w (d + 2) (nI l) (nI (l + 1)) D := by
        rw [e23_2]
        simp (disch := omega) only [nI_add, pk_mul, nI_clamp, nI_leI, nI_ltI, nI_eq, inb_, iz1_, iz2_, iz3_, iz4_, iz5_, reduceIte, if_pos, if_neg, op_os, op_vIs, op_vLs, op_vRs, op_vNs, dI_at, dL_at, dI_2, dL_1, Nat.reduceEqDiff, Nat.reduceAdd, Nat.reduceMul, false_and, and_false, true_and, and_true, ne_eq, not_true_eq_false, not_false_eq_true, b2_z, b2_o, b2_n, b2_01, nar_b, nar_0, nar_1, Bool.false_eq_true, Bool.true_eq_false, h.1]
      rw [st]
      rcases rights l (by omega) (Q.1 - (l + 1)) (l + 1) (by omega) (fun y hy hly => absurd hly (by omega)) with ⟨a1, a2⟩ | a1
      · rw [a1]
        exact ih (l + 1) (by omega) (fun z hz => by
          by_cases y : z = l
          · rw [y]; exact a2
          · exact he z (by omega))
      · exact a1
  rw [e23_0]
  exact lefts (Q.1) 0 (by omega) (fun z hz => absurd hz (by omega))
/-- squareTrial -/
theorem x26 {g : Nat → Nat} (h : mh_ Q c f D) (hn : Q.2.1 ≤ 60) (hg : ∀ p, p < Q.2.1 → g p < Q.2.1) (ht : ∀ p, p < Q.2.1 → D.1 349 p = nI (g p)) : ∃ D', k26_0 w (d + 1) D = some (none, D') ∧ (∀ p, p < Q.2.1 → D'.1 349 p = nI (g (g p))) ∧ sx_ (fun b => b = 349 ∨ b = 350) D D' := by
  rw [e26_0]
  obtain ⟨E, e1, e2, e3⟩ := lp_ (fun p (E : dy_) => k26_2 w (d + 1) (nI p) E) (fun p E => (∀ q, q < p → E.1 350 q = nI (g (g q))) ∧ sx_ (fun b => b = 350) D E) (Q.2.1) (s := D) (by
    rintro p E hp ⟨t1, t2⟩
    have hE := mh_fr h (sx_w t2 (fun b hb => Or.inr hb))
    have b1 := hg p hp
    have a1 : E.1 349 p = nI (g p) := by rw [(t2 349 (by omega)).1]; exact ht p hp
    have a2 : E.1 349 (g p) = nI (g (g p)) := by rw [(t2 349 (by omega)).1]; exact ht _ b1
    refine ⟨dI_ E 350 p (nI (g (g p))), ?_, fun q hq => ?_, sx_1 t2 rfl⟩
    · show k26_2 w (d + 1) (nI p) E = _
      rw [e26_2]
      simp (disch := omega) only [nI_add, pk_mul, nI_clamp, nI_leI, nI_ltI, nI_eq, inb_, iz1_, iz2_, iz3_, iz4_, iz5_, reduceIte, if_pos, if_neg, op_os, op_vIs, op_vLs, op_vRs, op_vNs, dI_at, dL_at, dI_2, dL_1, Nat.reduceEqDiff, Nat.reduceAdd, Nat.reduceMul, false_and, and_false, true_and, and_true, ne_eq, not_true_eq_false, not_false_eq_true, b2_z, b2_o, b2_n, b2_01, nar_b, nar_0, nar_1, Bool.false_eq_true, Bool.true_eq_false, hE.2.1.2.1, a1, a2]
    · simp (disch := omega) only [nI_add, pk_mul, nI_clamp, nI_leI, nI_ltI, nI_eq, inb_, iz1_, iz2_, iz3_, iz4_, iz5_, reduceIte, op_os, op_vIs, op_vLs, op_vRs, op_vNs, dI_at, dL_at, dI_2, dL_1, Nat.reduceEqDiff, Nat.reduceAdd, Nat.reduceMul, false_and, and_false, true_and, and_true, ne_eq, not_true_eq_false, not_false_eq_true, b2_z, b2_o, b2_n, b2_01, nar_b, nar_0, nar_1, Bool.false_eq_true, Bool.true_eq_false]
      by_cases y : q = p
      · rw [if_pos y, y]
      · rw [if_neg y]
        exact t1 q (by omega)) ⟨fun q hq => absurd hq (by omega), sx_r _ _⟩
  have hE := mh_fr h (sx_w e3 (fun b hb => Or.inr hb))
  refine ⟨dC_ E 350 0 349 0 (Q.2.1), ?_, fun p hp => by rw [dC_in hp]; exact e2 p hp, sx_t (sx_w e3 (fun b hb => Or.inr hb)) (fun b hb => ⟨dC_ne (by omega), rfl⟩)⟩
  refine Eq.trans (show _ = k26_2 w (d + 1) (nI (Q.2.1)) E from e1) ?_
  rw [e26_2]
  simp (disch := omega) only [nI_add, pk_mul, nI_clamp, nI_leI, nI_ltI, nI_eq, inb_, iz1_, iz2_, iz3_, iz4_, iz5_, reduceIte, if_pos, if_neg, op_os, op_vIs, op_vLs, op_vRs, op_vNs, dI_at, dL_at, dI_2, dL_1, Nat.reduceEqDiff, Nat.reduceAdd, Nat.reduceMul, false_and, and_false, true_and, and_true, ne_eq, not_true_eq_false, not_false_eq_true, b2_z, b2_o, b2_n, b2_01, nar_b, nar_0, nar_1, Bool.false_eq_true, Bool.true_eq_false, hE.2.1.2.1, Nat.le_refl, np0, mkca0, Nat.zero_add]
/-- settles -/
theorem x25 {i : Nat} (h : mh_ Q c f D) (hc : c ≤ 400) (hn : Q.2.1 ≤ 60) (hf : ∀ i p, i < c → p < Q.2.1 → f i p < Q.2.1) (hi : i < c) : ∃ D', k25_0 w (d + 2) (nI i) D = some (some (.int (b2_ (qs1_ (Q.2.1) (f i)))), D') ∧ sx_ (fun b => b = 349 ∨ b = 350) D D' := by
  have hfi := fun p hp => hf i p hi hp
  rw [e25_0]
  obtain ⟨E, e1, e2, e3⟩ := lp_ (fun p (E : dy_) => k25_2 w (d + 2) (nI i) (nI p) E) (fun p E => (∀ q, q < p → E.1 349 q = nI (f i q)) ∧ sx_ (fun b => b = 349 ∨ b = 350) D E) (Q.2.1) (s := D) (by
    rintro p E hp ⟨t1, t2⟩
    have hE := mh_fr h t2
    refine ⟨dI_ E 349 p (nI (f i p)), ?_, fun q hq => ?_, sx_1 t2 (Or.inl rfl)⟩
    · show k25_2 w (d + 2) (nI i) (nI p) E = _
      rw [e25_2]
      simp (disch := omega) only [nI_add, pk_mul, nI_clamp, nI_leI, nI_ltI, nI_eq, inb_, iz1_, iz2_, iz3_, iz4_, iz5_, reduceIte, if_pos, if_neg, op_os, op_vIs, op_vLs, op_vRs, op_vNs, dI_at, dL_at, dI_2, dL_1, Nat.reduceEqDiff, Nat.reduceAdd, Nat.reduceMul, false_and, and_false, true_and, and_true, ne_eq, not_true_eq_false, not_false_eq_true, b2_z, b2_o, b2_n, b2_01, nar_b, nar_0, nar_1, Bool.false_eq_true, Bool.true_eq_false, hE.2.1.2.1, y17 hE hc hn hi hp]
    · simp (disch := omega) only [nI_add, pk_mul, nI_clamp, nI_leI, nI_ltI, nI_eq, inb_, iz1_, iz2_, iz3_, iz4_, iz5_, reduceIte, op_os, op_vIs, op_vLs, op_vRs, op_vNs, dI_at, dL_at, dI_2, dL_1, Nat.reduceEqDiff, Nat.reduceAdd, Nat.reduceMul, false_and, and_false, true_and, and_true, ne_eq, not_true_eq_false, not_false_eq_true, b2_z, b2_o, b2_n, b2_01, nar_b, nar_0, nar_1, Bool.false_eq_true, Bool.true_eq_false]
      by_cases y : q = p
      · rw [if_pos y, y]
      · rw [if_neg y]
        exact t1 q (by omega)) ⟨fun q hq => absurd hq (by omega), sx_r _ _⟩
  obtain ⟨F, g1, g2, g3⟩ := lp_ (fun k (F : dy_) => k25_33 w (d + 2) (nI i) (nI k) F) (fun k F => (∀ q, q < Q.2.1 → F.1 349 q = nI (itr_ (f i) (2 ^ k) q)) ∧ sx_ (fun b => b = 349 ∨ b = 350) D F) 6 (s := E) (by
    rintro k F hk ⟨t1, t2⟩
    obtain ⟨F', a1, a2, a3⟩ := x26 (w := w) (d := d) (g := fun q => itr_ (f i) (2 ^ k) q) (mh_fr h t2) hn (fun p hp => itr_lt hfi hp _) t1
    refine ⟨F', ?_, fun q hq => ?_, sx_t t2 a3⟩
    · show k25_33 w (d + 2) (nI i) (nI k) F = _
      rw [e25_33]
      simp (disch := omega) only [nI_add, pk_mul, nI_clamp, nI_leI, nI_ltI, nI_eq, inb_, iz1_, iz2_, iz3_, iz4_, iz5_, reduceIte, if_pos, if_neg, op_os, op_vIs, op_vLs, op_vRs, op_vNs, dI_at, dL_at, dI_2, dL_1, Nat.reduceEqDiff, Nat.reduceAdd, Nat.reduceMul, false_and, and_false, true_and, and_true, ne_eq, not_true_eq_false, not_false_eq_true, b2_z, b2_o, b2_n, b2_01, nar_b, nar_0, nar_1, Bool.false_eq_true, Bool.true_eq_false, a1]
    · rw [a2 q hq]
      refine congrArg nI ?_
      rw [Nat.pow_succ, Nat.mul_two, itr_a]) ⟨fun q hq => e2 q hq, e3⟩
  have hF := mh_fr h g3
  have g2' : ∀ q, q < Q.2.1 → F.1 349 q = nI (itr_ (f i) 64 q) := g2
  have key : ∀ u p, p + u = Q.2.1 → (∀ x, x < p → f i (itr_ (f i) 64 x) = itr_ (f i) 64 x) → k25_51 w (d + 2) (nI i) (nI p) F = some (some (.int (b2_ (qs1_ (Q.2.1) (f i)))), F) := by
    intro u
    induction u with
    | zero =>
      intro p hp he
      obtain rfl : p = Q.2.1 := by omega
      have : qs1_ (Q.2.1) (f i) = true := by
        unfold qs1_
        exact aln_t.mpr fun x hx => decide_eq_true ((itr_60 hn hfi hx).mpr (he x hx))
      rw [this, e25_51]
      simp (disch := omega) only [nI_add, pk_mul, nI_clamp, nI_leI, nI_ltI, nI_eq, inb_, iz1_, iz2_, iz3_, iz4_, iz5_, reduceIte, if_pos, if_neg, op_os, op_vIs, op_vLs, op_vRs, op_vNs, dI_at, dL_at, dI_2, dL_1, Nat.reduceEqDiff, Nat.reduceAdd, Nat.reduceMul, false_and, and_false, true_and, and_true, ne_eq, not_true_eq_false, not_false_eq_true, b2_z, b2_o, b2_n, b2_01, nar_b, nar_0, nar_1, Bool.false_eq_true, Bool.true_eq_false, hF.2.1.2.1, Nat.le_refl]
      rfl
    | succ u ih =>
      intro p hp he
      have hp' : p < Q.2.1 := by omega
      have b1 := itr_lt hfi hp' 64
      have b2 := hfi _ b1
      rw [e25_51]
      by_cases z : f i (itr_ (f i) 64 p) = itr_ (f i) 64 p
      · simp (disch := omega) only [nI_add, pk_mul, nI_clamp, nI_leI, nI_ltI, nI_eq, inb_, iz1_, iz2_, iz3_, iz4_, iz5_, reduceIte, if_pos, if_neg, op_os, op_vIs, op_vLs, op_vRs, op_vNs, dI_at, dL_at, dI_2, dL_1, Nat.reduceEqDiff, Nat.reduceAdd, Nat.reduceMul, false_and, and_false, true_and, and_true, ne_eq, not_true_eq_false, not_false_eq_true, b2_z, b2_o, b2_n, b2_01, nar_b, nar_0, nar_1, Bool.false_eq_true, Bool.true_eq_false, hF.2.1.2.1, g2' p hp', y17 hF hc hn hi b1, z]
        exact ih (p + 1) (by omega) (fun x hx => by
          by_cases y : x = p
          · rw [y]; exact z
          · exact he x (by omega))
      · have : qs1_ (Q.2.1) (f i) = false := by
          unfold qs1_
          exact aln_f hp' (decide_eq_false fun y => z ((itr_60 hn hfi hp').mp y))
        rw [this]
        simp (disch := omega) only [nI_add, pk_mul, nI_clamp, nI_leI, nI_ltI, nI_eq, inb_, iz1_, iz2_, iz3_, iz4_, iz5_, reduceIte, if_pos, if_neg, op_os, op_vIs, op_vLs, op_vRs, op_vNs, dI_at, dL_at, dI_2, dL_1, Nat.reduceEqDiff, Nat.reduceAdd, Nat.reduceMul, false_and, and_false, true_and, and_true, ne_eq, not_true_eq_false, not_false_eq_true, b2_z, b2_o, b2_n, b2_01, nar_b, nar_0, nar_1, Bool.false_eq_true, Bool.true_eq_false, hF.2.1.2.1, g2' p hp', y17 hF hc hn hi b1]
        rfl
  refine ⟨F, ?_, g3⟩
  refine Eq.trans (show _ = k25_2 w (d + 2) (nI i) (nI (Q.2.1)) E from e1) ?_
  rw [e25_2]
  simp (disch := omega) only [nI_add, pk_mul, nI_clamp, nI_leI, nI_ltI, nI_eq, inb_, iz1_, iz2_, iz3_, iz4_, iz5_, reduceIte, if_pos, if_neg, op_os, op_vIs, op_vLs, op_vRs, op_vNs, dI_at, dL_at, dI_2, dL_1, Nat.reduceEqDiff, Nat.reduceAdd, Nat.reduceMul, false_and, and_false, true_and, and_true, ne_eq, not_true_eq_false, not_false_eq_true, b2_z, b2_o, b2_n, b2_01, nar_b, nar_0, nar_1, Bool.false_eq_true, Bool.true_eq_false, (mh_fr h e3).2.1.2.1, Nat.le_refl]
  refine Eq.trans (show _ = k25_33 w (d + 2) (nI i) (nI 6) F from g1) ?_
  rw [e25_33]
  simp (disch := omega) only [nI_add, pk_mul, nI_clamp, nI_leI, nI_ltI, nI_eq, inb_, iz1_, iz2_, iz3_, iz4_, iz5_, reduceIte, if_pos, if_neg, op_os, op_vIs, op_vLs, op_vRs, op_vNs, dI_at, dL_at, dI_2, dL_1, Nat.reduceEqDiff, Nat.reduceAdd, Nat.reduceMul, false_and, and_false, true_and, and_true, ne_eq, not_true_eq_false, not_false_eq_true, b2_z, b2_o, b2_n, b2_01, nar_b, nar_0, nar_1, Bool.false_eq_true, Bool.true_eq_false, Nat.le_refl]
  exact key (Q.2.1) 0 (by omega) (fun x hx => absurd hx (by omega))
/-- allSettle -/
theorem x24 (h : mh_ Q c f D) (hc : c ≤ 400) (hn : Q.2.1 ≤ 60) (hf : ∀ i p, i < c → p < Q.2.1 → f i p < Q.2.1) : ∃ D', k24_0 w (d + 3) D = some (some (.int (b2_ (aln_ (fun i => qs1_ (Q.2.1) (f i)) c))), D') ∧ sx_ (fun b => b = 349 ∨ b = 350) D D' := by
  have key : ∀ u i (E : dy_), i + u = c → (∀ x, x < i → qs1_ (Q.2.1) (f x) = true) → sx_ (fun b => b = 349 ∨ b = 350) D E → ∃ D', k24_2 w (d + 3) (nI i) E = some (some (.int (b2_ (aln_ (fun i => qs1_ (Q.2.1) (f i)) c))), D') ∧ sx_ (fun b => b = 349 ∨ b = 350) D D' := by
    intro u
    induction u with
    | zero =>
      intro i E hi he hE
      obtain rfl : i = c := by omega
      refine ⟨E, ?_, hE⟩
      rw [aln_t.mpr he, e24_2]
      simp (disch := omega) only [nI_add, pk_mul, nI_clamp, nI_leI, nI_ltI, nI_eq, inb_, iz1_, iz2_, iz3_, iz4_, iz5_, reduceIte, if_pos, if_neg, op_os, op_vIs, op_vLs, op_vRs, op_vNs, dI_at, dL_at, dI_2, dL_1, Nat.reduceEqDiff, Nat.reduceAdd, Nat.reduceMul, false_and, and_false, true_and, and_true, ne_eq, not_true_eq_false, not_false_eq_true, b2_z, b2_o, b2_n, b2_01, nar_b, nar_0, nar_1, Bool.false_eq_true, Bool.true_eq_false, (mh_fr h hE).1, Nat.le_refl]
      rfl
    | succ u ih =>
      intro i E hi he hE
      obtain ⟨E', a1, a2⟩ := x25 (w := w) (d := d) (i := i) (mh_fr h hE) hc hn hf (by omega)
      cases hq : qs1_ (Q.2.1) (f i) with
      | true =>
        rw [hq] at a1
        obtain ⟨D', b1, b2⟩ := ih (i + 1) E' (by omega) (fun x hx => by
          by_cases y : x = i
          · rw [y]; exact hq
          · exact he x (by omega)) (sx_t hE a2)
        refine ⟨D', ?_, b2⟩
        rw [e24_2]
        simp (disch := omega) only [nI_add, pk_mul, nI_clamp, nI_leI, nI_ltI, nI_eq, inb_, iz1_, iz2_, iz3_, iz4_, iz5_, reduceIte, if_pos, if_neg, op_os, op_vIs, op_vLs, op_vRs, op_vNs, dI_at, dL_at, dI_2, dL_1, Nat.reduceEqDiff, Nat.reduceAdd, Nat.reduceMul, false_and, and_false, true_and, and_true, ne_eq, not_true_eq_false, not_false_eq_true, b2_z, b2_o, b2_n, b2_01, nar_b, nar_0, nar_1, Bool.false_eq_true, Bool.true_eq_false, (mh_fr h hE).1, a1]
        exact b1
      | false =>
        rw [hq] at a1
        refine ⟨E', ?_, sx_t hE a2⟩
        rw [aln_f (g := fun i => qs1_ (Q.2.1) (f i)) (show i < c by omega) hq, e24_2]
        simp (disch := omega) only [nI_add, pk_mul, nI_clamp, nI_leI, nI_ltI, nI_eq, inb_, iz1_, iz2_, iz3_, iz4_, iz5_, reduceIte, if_pos, if_neg, op_os, op_vIs, op_vLs, op_vRs, op_vNs, dI_at, dL_at, dI_2, dL_1, Nat.reduceEqDiff, Nat.reduceAdd, Nat.reduceMul, false_and, and_false, true_and, and_true, ne_eq, not_true_eq_false, not_false_eq_true, b2_z, b2_o, b2_n, b2_01, nar_b, nar_0, nar_1, Bool.false_eq_true, Bool.true_eq_false, (mh_fr h hE).1, a1]
        rfl
  rw [e24_0]
  exact key c 0 D (by omega) (fun x hx => absurd hx (by omega)) (sx_r _ _)
end MAPPING
