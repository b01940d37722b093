/-! sets of states as bits -/
theorem sb1 {p : Nat} (h : p < 63) : (lN 1) <<< ((nI p).toInt64 &&& 63) = lN (2 ^ p) := (show ∀ p ∈ List.range 63, (lN 1) <<< ((nI p).toInt64 &&& 63) = lN (2 ^ p) by decide +kernel) p (List.mem_range.mpr h)
theorem sh64 {p : Nat} (h : p < 63) : ((nI p).toInt64 &&& 63).toBitVec.smod 64 = BitVec.ofNat 64 p := (show ∀ p ∈ List.range 63, ((nI p).toInt64 &&& 63).toBitVec.smod 64 = BitVec.ofNat 64 p by decide +kernel) p (List.mem_range.mpr h)
theorem sh64u {p : Nat} (h : p < 63) : ((nI p).toInt64.toUInt64 &&& Int64.toUInt64 63).toBitVec % 64 = BitVec.ofNat 64 p := (show ∀ p ∈ List.range 63, ((nI p).toInt64.toUInt64 &&& Int64.toUInt64 63).toBitVec % 64 = BitVec.ofNat 64 p by decide +kernel) p (List.mem_range.mpr h)
theorem bit1 (x : BitVec 64) (b : Bool) (h : x.getLsbD 0 = b) : x &&& 1#64 = BitVec.ofNat 64 (if b then 1 else 0) := by
  apply BitVec.eq_of_getLsbD_eq
  intro i hi
  rw [BitVec.getLsbD_and]
  by_cases z : i = 0
  · subst z
    rw [h]
    cases b <;> rfl
  · have h1 : (1#64).getLsbD i = false := by
      rw [BitVec.getLsbD_one]
      simp [z]
    rw [h1, Bool.and_false]
    cases b
    · simp
    · show false = (1#64).getLsbD i
      rw [h1]
theorem sb2 {a p : Nat} (hp : p < 63) : ((lN a) >>> ((nI p).toInt64 &&& 63)) &&& lN 1 = lN (if a.testBit p then 1 else 0) := by
  apply Int64.toBitVec_inj.mp
  rw [Int64.toBitVec_and, Int64.toBitVec_shiftRight, sh64 hp]
  show _ &&& 1#64 = BitVec.ofNat 64 _
  refine bit1 _ _ ?_
  rw [BitVec.sshiftRight_eq', BitVec.getLsbD_sshiftRight]
  have : (BitVec.ofNat 64 p).toNat = p := by
    rw [BitVec.toNat_ofNat, Nat.mod_eq_of_lt (by omega)]
  rw [this]
  simp
  rw [if_pos (by omega)]
  show (BitVec.ofNat 64 a).getLsbD p = _
  rw [BitVec.getLsbD_ofNat]
  simp
  omega
theorem sb3 {a p : Nat} (hp : p < 63) : ((lN a).toUInt64 >>> ((nI p).toInt64.toUInt64 &&& Int64.toUInt64 63)).toInt64 &&& lN 1 = lN (if a.testBit p then 1 else 0) := by
  apply Int64.toBitVec_inj.mp
  rw [Int64.toBitVec_and]
  show ((lN a).toUInt64 >>> ((nI p).toInt64.toUInt64 &&& Int64.toUInt64 63)).toBitVec &&& 1#64 = BitVec.ofNat 64 _
  rw [UInt64.toBitVec_shiftRight, sh64u hp]
  refine bit1 _ _ ?_
  rw [BitVec.ushiftRight_eq', BitVec.getLsbD_ushiftRight]
  have : (BitVec.ofNat 64 p).toNat = p := by
    rw [BitVec.toNat_ofNat, Nat.mod_eq_of_lt (by omega)]
  rw [this]
  show (BitVec.ofNat 64 a).getLsbD (p + 0) = _
  rw [BitVec.getLsbD_ofNat]
  simp
  omega
theorem bk512 {m : Nat} (h : m < 512) : ((UInt64.ofNat m).toInt64).toInt32 = nI m := (show ∀ m ∈ List.range 512, ((UInt64.ofNat m).toInt64).toInt32 = nI m by decide +kernel) m (List.mem_range.mpr h)
theorem bkt (y : Int64) : ∃ m, m < 512 ∧ ((y.toUInt64 >>> ((nI 55).toInt64.toUInt64 &&& Int64.toUInt64 63)).toInt64).toInt32 = nI m := by
  refine ⟨(y.toUInt64 >>> ((nI 55).toInt64.toUInt64 &&& Int64.toUInt64 63)).toNat, ?_, ?_⟩
  · rw [UInt64.toNat_shiftRight]
    rw [show ((nI 55).toInt64.toUInt64 &&& Int64.toUInt64 63).toNat % 64 = 55 by decide, Nat.shiftRight_eq_div_pow]
    have := y.toUInt64.toNat_lt
    omega
  · have h : (y.toUInt64 >>> ((nI 55).toInt64.toUInt64 &&& Int64.toUInt64 63)).toNat < 512 := by
      rw [UInt64.toNat_shiftRight]
      rw [show ((nI 55).toInt64.toUInt64 &&& Int64.toUInt64 63).toNat % 64 = 55 by decide, Nat.shiftRight_eq_div_pow]
      have := y.toUInt64.toNat_lt
      omega
    have := bk512 h
    rw [UInt64.ofNat_toNat] at this
    exact this
/-- or -/
def orf_ (f : Nat → Nat) : Nat → Nat
  | 0 => 0
  | n + 1 => orf_ f n ||| f n
theorem orf_t {f : Nat → Nat} {n i : Nat} : (orf_ f n).testBit i = true ↔ ∃ p, p < n ∧ (f p).testBit i = true := by
  induction n with
  | zero => exact ⟨fun h => (by simp [orf_] at h), fun ⟨p, hp, _⟩ => absurd hp (by omega)⟩
  | succ n ih =>
    show (orf_ f n ||| f n).testBit i = true ↔ _
    rw [Nat.testBit_or, Bool.or_eq_true_iff, ih]
    constructor
    · rintro (⟨p, h1, h2⟩ | h)
      · exact ⟨p, by omega, h2⟩
      · exact ⟨n, by omega, h⟩
    · rintro ⟨p, h1, h2⟩
      by_cases z : p = n
      · exact Or.inr (by rw [← z]; exact h2)
      · exact Or.inl ⟨p, by omega, h2⟩
theorem orf_lt {f : Nat → Nat} {n k : Nat} (h : ∀ p, p < n → f p < 2 ^ k) : orf_ f n < 2 ^ k := by
  induction n with
  | zero => exact Nat.two_pow_pos k
  | succ n ih => exact Nat.or_lt_two_pow (ih fun p hp => h p (by omega)) (h n (by omega))
theorem nz_bit {a : Nat} : a ≠ 0 ↔ ∃ i, a.testBit i = true := by
  constructor
  · exact fun h => Nat.exists_testBit_of_ne_zero h
  · rintro ⟨i, h⟩ z
    rw [z] at h
    simp at h
theorem lz0 {a b : Nat} (ha : a < 2 ^ 63) (hb : b < 2 ^ 63) : (lg_cmp (lN a) (lN b) = nI 0) ↔ a = b := by
  constructor
  · intro h
    have h1 : ¬ lg_cmp (lN a) (lN b) < nI 0 := by rw [h]; decide
    have h2 : nI 0 ≤ lg_cmp (lN b) (lN a) := by
      rw [lcn2 hb ha]
      rcases Nat.lt_or_ge b a with z | z
      · have := (lc_gt (lN a) (lN b)).mpr ((pk_lLT hb ha).mpr z)
        have : nI 0 < lg_cmp (lN a) (lN b) := this
        rw [h] at this
        exact absurd this (by decide)
      · exact z
    rw [lcn1 ha hb] at h1
    rw [lcn2 hb ha] at h2
    omega
  · rintro rfl
    have h1 : ¬ lg_cmp (lN a) (lN a) < nI 0 := by rw [lcn1 ha ha]; omega
    have h2 : ¬ nI 0 < lg_cmp (lN a) (lN a) := fun z => by
      have z' : (0 : Int32) < lg_cmp (lN a) (lN a) := z
      rw [lc_gt, pk_lLT ha ha] at z'
      omega
    exact Int32.le_antisymm (Int32.not_lt.mp h2) (Int32.not_lt.mp h1)
/-- a bit, the reference's way -/
theorem tb1 {a p : Nat} (hp : p < 63) : (lg_cmp (((lN a) >>> ((nI p).toInt64 &&& 63)) &&& lN 1) (lN 1) = nI 0) ↔ a.testBit p = true := by
  rw [sb2 hp]
  cases a.testBit p
  · rw [if_neg (by decide), lz0 (by decide) (by decide)]; decide
  · rw [if_pos rfl, lz0 (by decide) (by decide)]; decide
/-- a bit, the class's way -/
theorem tb2 {a p : Nat} (hp : p < 63) : (lg_cmp (((lN a).toUInt64 >>> ((nI p).toInt64.toUInt64 &&& Int64.toUInt64 63)).toInt64 &&& lN 1) (lN 0) = nI 0) ↔ a.testBit p = false := by
  rw [sb3 hp]
  cases a.testBit p
  · rw [if_neg (by decide), lz0 (by decide) (by decide)]; decide
  · rw [if_pos rfl, lz0 (by decide) (by decide)]; decide
theorem tb3 {a b : Nat} (ha : a < 2 ^ 60) : (lg_cmp (lN a &&& lN b) (lN 0) = nI 0) ↔ a &&& b = 0 := by
  rw [lN_and, lz0 (Nat.lt_of_le_of_lt Nat.and_le_left (by omega)) (by decide)]
/-- the accepting states -/
def ese_ (M : ma_) : Nat := orf_ (fun s => if M.2.2.2.2 s then 2 ^ s else 0) (M.2.1)
/-- on from a set, back from a set -/
def lon_ (M : ma_) (S l : Nat) : Nat := orf_ (fun s => if S.testBit s then 2 ^ M.2.2.2.1 s l else 0) (M.2.1)
def lbk_ (M : ma_) (S l : Nat) : Nat := orf_ (fun s => if S.testBit (M.2.2.2.1 s l) then 2 ^ s else 0) (M.2.1)
theorem pw_lt {p k : Nat} (h : p < k) : 2 ^ p < 2 ^ k := Nat.pow_lt_pow_right (by omega) h
theorem ite_lt {c : Bool} {p k : Nat} (h : p < k) : (if c then 2 ^ p else 0) < 2 ^ k := by
  cases c
  · exact Nat.two_pow_pos k
  · exact pw_lt h
theorem ese_lt {M : ma_} (h : M.2.1 ≤ 60) : ese_ M < 2 ^ 60 := orf_lt fun p hp => ite_lt (by omega)
theorem lon_lt {M : ma_} (hM : wm_ M) (h : M.2.1 ≤ 60) {S l : Nat} (hl : l < M.1) : lon_ M S l < 2 ^ 60 := orf_lt fun p hp => ite_lt (by have := hM.2.2.2 p l hp hl; omega)
theorem lbk_lt {M : ma_} (h : M.2.1 ≤ 60) {S l : Nat} : lbk_ M S l < 2 ^ 60 := orf_lt fun p hp => ite_lt (by omega)
theorem ite_t {c : Bool} {p i : Nat} : (if c then 2 ^ p else 0).testBit i = true ↔ c = true ∧ p = i := by
  cases c
  · simp
  · simp [Nat.testBit_two_pow]
theorem ese_t {M : ma_} {i : Nat} : (ese_ M).testBit i = true ↔ i < M.2.1 ∧ M.2.2.2.2 i = true := by
  unfold ese_
  rw [orf_t]
  constructor
  · rintro ⟨p, h1, h2⟩
    obtain ⟨h3, rfl⟩ := ite_t.mp h2
    exact ⟨h1, h3⟩
  · rintro ⟨h1, h2⟩
    exact ⟨i, h1, ite_t.mpr ⟨h2, rfl⟩⟩
theorem lon_t {M : ma_} {S l i : Nat} : (lon_ M S l).testBit i = true ↔ ∃ p, p < M.2.1 ∧ S.testBit p = true ∧ M.2.2.2.1 p l = i := by
  unfold lon_
  rw [orf_t]
  constructor
  · rintro ⟨p, h1, h2⟩
    exact ⟨p, h1, ite_t.mp h2⟩
  · rintro ⟨p, h1, h2⟩
    exact ⟨p, h1, ite_t.mpr h2⟩
/-- a set with an accepting state -/
def hac_ (M : ma_) (S : Nat) : Bool := som_ (fun p => S.testBit p && M.2.2.2.2 p) (M.2.1)
theorem hac_t {M : ma_} {S : Nat} : (S &&& ese_ M = 0) ↔ hac_ M S = false := by
  have : ¬ (S &&& ese_ M = 0) ↔ hac_ M S = true := by
    rw [← ne_eq, nz_bit]
    unfold hac_
    rw [som_t]
    constructor
    · rintro ⟨i, h⟩
      rw [Nat.testBit_and, Bool.and_eq_true_iff, ese_t] at h
      exact ⟨i, h.2.1, by rw [h.1, h.2.2]; rfl⟩
    · rintro ⟨i, h1, h2⟩
      obtain ⟨h3, h4⟩ := Bool.and_eq_true_iff.mp h2
      refine ⟨i, ?_⟩
      rw [Nat.testBit_and, h3, ese_t.mpr ⟨h1, h4⟩]
      rfl
  cases h : hac_ M S
  · rw [h] at this
    exact ⟨fun _ => rfl, fun _ => Classical.byContradiction fun z => absurd (this.mp z) (by decide)⟩
  · rw [h] at this
    exact ⟨fun z => absurd z (this.mpr rfl), fun z => absurd z (by decide)⟩
theorem lon_1 {M : ma_} {l p : Nat} (hp : p < M.2.1) : lon_ M (2 ^ p) l = 2 ^ M.2.2.2.1 p l := by
  apply Nat.eq_of_testBit_eq
  intro i
  have h1 : (lon_ M (2 ^ p) l).testBit i = true ↔ (2 ^ M.2.2.2.1 p l).testBit i = true := by
    rw [lon_t, Nat.testBit_two_pow, decide_eq_true_iff]
    constructor
    · rintro ⟨q, _, q2, q3⟩
      rw [Nat.testBit_two_pow, decide_eq_true_iff] at q2
      rw [q2]; exact q3
    · exact fun h => ⟨p, hp, by rw [Nat.testBit_two_pow, decide_eq_true_iff], h⟩
  cases ha : (lon_ M (2 ^ p) l).testBit i <;> cases hb : (2 ^ M.2.2.2.1 p l).testBit i <;> rw [ha, hb] at h1
  · exact absurd (h1.mpr rfl) (by decide)
  · exact absurd (h1.mp rfl) (by decide)
/-- the last number below m in bucket b -/
def lsb_ (bf : Nat → Nat) (b : Nat) : Nat → Int32
  | 0 => -1
  | m + 1 => if bf m = b then nI m else lsb_ bf b m
theorem lsb_1 (bf : Nat → Nat) (b : Nat) : ∀ m, (lsb_ bf b m = -1 ∧ ∀ j, j < m → bf j ≠ b) ∨ ∃ j, j < m ∧ bf j = b ∧ lsb_ bf b m = nI j ∧ ∀ i, j < i → i < m → bf i ≠ b
  | 0 => Or.inl ⟨rfl, fun j hj => absurd hj (by omega)⟩
  | m + 1 => by
    unfold lsb_
    by_cases z : bf m = b
    · rw [if_pos z]
      exact Or.inr ⟨m, by omega, z, rfl, fun i h1 h2 => absurd h2 (by omega)⟩
    · rw [if_neg z]
      rcases lsb_1 bf b m with ⟨h1, h2⟩ | ⟨j, h1, h2, h3, h4⟩
      · refine Or.inl ⟨h1, fun j hj => ?_⟩
        by_cases y : j = m
        · rw [y]; exact z
        · exact h2 j (by omega)
      · refine Or.inr ⟨j, by omega, h2, h3, fun i a1 a2 => ?_⟩
        by_cases y : i = m
        · rw [y]; exact z
        · exact h4 i a1 (by omega)
/-- the bucket of a set and its leader -/
noncomputable def bkn_ (x : Nat × Nat) : Nat := Classical.choose (bkt ((lN x.2 + (nI x.1).toInt64) * (-7046029254386353131)))
theorem bkn_1 (x : Nat × Nat) : bkn_ x < 512 ∧ ((((lN x.2 + (nI x.1).toInt64) * (-7046029254386353131)).toUInt64 >>> ((nI 55).toInt64.toUInt64 &&& Int64.toUInt64 63)).toInt64).toInt32 = nI (bkn_ x) := Classical.choose_spec (bkt ((lN x.2 + (nI x.1).toInt64) * (-7046029254386353131)))
/-- the row of sets -/
def sr5_ (D : dy_) (f : Nat → Nat × Nat) (n : Nat) : Prop := D.1 36 4 = nI n ∧ (∀ j, j < n → D.2 37 j = lN (f j).2 ∧ D.1 38 j = nI (f j).1 ∧ D.1 39 j = lsb_ (fun i => bkn_ (f i)) (bkn_ (f j)) j) ∧ ∀ b, b < 512 → D.1 40 b = lsb_ (fun i => bkn_ (f i)) b n
section SETS
variable {w : (Nat → Int32) × Nat} {d : Nat} {D : dy_} {M : ma_}
/-- endSet -/
theorem x13 {a : Nat} (ha : a ∈ ml_) (hc : cm_ D a M) (hn : M.2.1 ≤ 60) (hcap : M.2.1 ≤ cap_ a) : k13_0 w (d + 1) a D = some (some (.long (lN (ese_ M))), D) := by
  have ca := mcap ha
  rw [e13_0 ha]
  have := lq_ (fun i (x : Nat) => k13_4 w (d + 1) a (lN x) (nI i) D) (fun i => orf_ (fun s => if M.2.2.2.2 s then 2 ^ s else 0) i) (M.2.1) (by
    intro i hi
    show k13_4 w (d + 1) a (lN (orf_ (fun s => if M.2.2.2.2 s then 2 ^ s else 0) i)) (nI i) D = k13_4 w (d + 1) a (lN (orf_ (fun s => if M.2.2.2.2 s then 2 ^ s else 0) i ||| if M.2.2.2.2 i then 2 ^ i else 0)) (nI (i + 1)) D
    rw [e13_4 ha]
    simp (disch := omega) only [nI_add, pk_mul, nI_clamp, nI_leI, nI_ltI, nI_eq, inb_, iz1_, iz2_, iz3_, iz4_, iz5_, reduceIte, if_pos, if_neg, op_os, op_vIs, op_vLs, op_vRs, op_vNs, dI_at, dL_at, dI_2, dL_1, Nat.reduceEqDiff, Nat.reduceAdd, Nat.reduceMul, false_and, and_false, true_and, and_true, ne_eq, not_true_eq_false, not_false_eq_true, b2_z, b2_o, b2_n, b2_01, nar_b, nar_0, nar_1, Bool.false_eq_true, Bool.true_eq_false, hc.2.1, hc.2.2.2.2 i hi]
    cases M.2.2.2.2 i
    · simp (disch := omega) only [nI_add, pk_mul, nI_clamp, nI_leI, nI_ltI, nI_eq, inb_, iz1_, iz2_, iz3_, iz4_, iz5_, reduceIte, if_pos, if_neg, op_os, op_vIs, op_vLs, op_vRs, op_vNs, dI_at, dL_at, dI_2, dL_1, Nat.reduceEqDiff, Nat.reduceAdd, Nat.reduceMul, false_and, and_false, true_and, and_true, ne_eq, not_true_eq_false, not_false_eq_true, b2_z, b2_o, b2_n, b2_01, nar_b, nar_0, nar_1, Bool.false_eq_true, Bool.true_eq_false, e13_27 ha]
      rw [Nat.or_zero]
    · simp (disch := omega) only [nI_add, pk_mul, nI_clamp, nI_leI, nI_ltI, nI_eq, inb_, iz1_, iz2_, iz3_, iz4_, iz5_, reduceIte, if_pos, if_neg, op_os, op_vIs, op_vLs, op_vRs, op_vNs, dI_at, dL_at, dI_2, dL_1, Nat.reduceEqDiff, Nat.reduceAdd, Nat.reduceMul, false_and, and_false, true_and, and_true, ne_eq, not_true_eq_false, not_false_eq_true, b2_z, b2_o, b2_n, b2_01, nar_b, nar_0, nar_1, Bool.false_eq_true, Bool.true_eq_false, e13_27 ha, sb1, lN_or])
  refine this.trans ?_
  show k13_4 w (d + 1) a (lN (ese_ M)) (nI (M.2.1)) D = _
  rw [e13_4 ha]
  simp (disch := omega) only [nI_add, pk_mul, nI_clamp, nI_leI, nI_ltI, nI_eq, inb_, iz1_, iz2_, iz3_, iz4_, iz5_, reduceIte, if_pos, if_neg, op_os, op_vIs, op_vLs, op_vRs, op_vNs, dI_at, dL_at, dI_2, dL_1, Nat.reduceEqDiff, Nat.reduceAdd, Nat.reduceMul, false_and, and_false, true_and, and_true, ne_eq, not_true_eq_false, not_false_eq_true, b2_z, b2_o, b2_n, b2_01, nar_b, nar_0, nar_1, Bool.false_eq_true, Bool.true_eq_false, hc.2.1, Nat.le_refl]
/-- lookOn -/
theorem x79 {a S : Nat} (ha : a ∈ ml_) (hc : cm_ D a M) (hM : wm_ M) (hn : M.2.1 ≤ 60) (hcap : M.2.1 ≤ cap_ a) (h0 : ∀ l, l < M.1 → D.2 49 l = lN 0) : ∃ D', k79_0 w (d + 1) (lN S) a D = some (none, D') ∧ (∀ l, l < M.1 → D'.2 49 l = lN (lon_ M S l)) ∧ ol_ 49 D D' := by
  have hk := hM.1
  have ca := mcap ha
  rw [e79_0 ha]
  obtain ⟨D', e1, e2, e3⟩ := lp_ (fun i (E : dy_) => k79_3 w (d + 1) (lN S) a (nI i) E) (fun i E => (∀ l, l < M.1 → E.2 49 l = lN (orf_ (fun s => if S.testBit s then 2 ^ M.2.2.2.1 s l else 0) i)) ∧ ol_ 49 D E) (M.2.1) (s := D) (by
    rintro i E hi ⟨t1, t2⟩
    have hc' := cm_ol hc t2.1
    show ∃ s', k79_3 w (d + 1) (lN S) a (nI i) E = k79_3 w (d + 1) (lN S) a (nI (i + 1)) s' ∧ (∀ l, l < M.1 → s'.2 49 l = lN (orf_ (fun s => if S.testBit s then 2 ^ M.2.2.2.1 s l else 0) i ||| if S.testBit i then 2 ^ M.2.2.2.1 i l else 0)) ∧ ol_ 49 D s'
    cases hb : S.testBit i with
    | false =>
      refine ⟨E, ?_, fun l hl => by rw [if_neg (by decide), Nat.or_zero]; exact t1 l hl, t2⟩
      rw [e79_3 ha]
      simp (disch := omega) only [nI_add, pk_mul, nI_clamp, nI_leI, nI_ltI, nI_eq, inb_, iz1_, iz2_, iz3_, iz4_, iz5_, reduceIte, if_pos, if_neg, op_os, op_vIs, op_vLs, op_vRs, op_vNs, dI_at, dL_at, dI_2, dL_1, Nat.reduceEqDiff, Nat.reduceAdd, Nat.reduceMul, false_and, and_false, true_and, and_true, ne_eq, not_true_eq_false, not_false_eq_true, b2_z, b2_o, b2_n, b2_01, nar_b, nar_0, nar_1, Bool.false_eq_true, Bool.true_eq_false, hc'.2.1, tb2, hb, e79_68 ha]
    | true =>
      obtain ⟨E', f1, f2, f3⟩ := lp_ (fun l (E' : dy_) => k79_26 w (d + 1) (lN S) a (nI i) (nI l) E') (fun l E' => (∀ l', l' < M.1 → E'.2 49 l' = lN (orf_ (fun s => if S.testBit s then 2 ^ M.2.2.2.1 s l' else 0) i ||| if l' < l then 2 ^ M.2.2.2.1 i l' else 0)) ∧ ol_ 49 D E') (M.1) (s := E) (by
        rintro l E' hl ⟨u1, u2⟩
        have hc2 := cm_ol hc u2.1
        have hx := hM.2.2.2 i l hi hl
        have g1 : i * M.1 + l < 4 * cap_ a := by
          have := mul_in hi hl
          have := Nat.mul_le_mul hcap hk.2
          omega
        have u1l := u1 l hl
        rw [if_neg (by omega), Nat.or_zero] at u1l
        refine ⟨dL_ E' 49 l (lN (orf_ (fun s => if S.testBit s then 2 ^ M.2.2.2.1 s l else 0) i ||| 2 ^ M.2.2.2.1 i l)), ?_, fun l' hl' => ?_, ol_t u2 (ol_L _ _ _ _)⟩
        · show k79_26 w (d + 1) (lN S) a (nI i) (nI l) E' = _
          rw [e79_26 ha]
          simp (disch := omega) only [nI_add, pk_mul, nI_clamp, nI_leI, nI_ltI, nI_eq, inb_, iz1_, iz2_, iz3_, iz4_, iz5_, reduceIte, if_pos, if_neg, op_os, op_vIs, op_vLs, op_vRs, op_vNs, dI_at, dL_at, dI_2, dL_1, Nat.reduceEqDiff, Nat.reduceAdd, Nat.reduceMul, false_and, and_false, true_and, and_true, ne_eq, not_true_eq_false, not_false_eq_true, b2_z, b2_o, b2_n, b2_01, nar_b, nar_0, nar_1, Bool.false_eq_true, Bool.true_eq_false, hc2.1, hc2.2.2.2.1 i l hi hl, u1l, sb1, lN_or]
        · simp (disch := omega) only [nI_add, pk_mul, nI_clamp, nI_leI, nI_ltI, nI_eq, inb_, iz1_, iz2_, iz3_, iz4_, iz5_, reduceIte, op_os, op_vIs, op_vLs, op_vRs, op_vNs, dI_at, dL_at, dI_2, dL_1, Nat.reduceEqDiff, Nat.reduceAdd, Nat.reduceMul, false_and, and_false, true_and, and_true, ne_eq, not_true_eq_false, not_false_eq_true, b2_z, b2_o, b2_n, b2_01, nar_b, nar_0, nar_1, Bool.false_eq_true, Bool.true_eq_false]
          by_cases z : l' = l
          · rw [if_pos z, if_pos (by omega), z]
          · rw [if_neg z, u1 l' hl']
            by_cases y : l' < l
            · rw [if_pos y, if_pos (by omega)]
            · rw [if_neg y, if_neg (by omega)]) ⟨fun l' hl' => by rw [if_neg (by omega), Nat.or_zero]; exact t1 l' hl', t2⟩
      refine ⟨E', ?_, fun l hl => by rw [if_pos rfl, f2 l hl, if_pos hl], f3⟩
      rw [e79_3 ha]
      simp (disch := omega) only [nI_add, pk_mul, nI_clamp, nI_leI, nI_ltI, nI_eq, inb_, iz1_, iz2_, iz3_, iz4_, iz5_, reduceIte, if_pos, if_neg, op_os, op_vIs, op_vLs, op_vRs, op_vNs, dI_at, dL_at, dI_2, dL_1, Nat.reduceEqDiff, Nat.reduceAdd, Nat.reduceMul, false_and, and_false, true_and, and_true, ne_eq, not_true_eq_false, not_false_eq_true, b2_z, b2_o, b2_n, b2_01, nar_b, nar_0, nar_1, Bool.false_eq_true, Bool.true_eq_false, hc'.2.1, tb2, hb]
      refine Eq.trans (show _ = k79_26 w (d + 1) (lN S) a (nI i) (nI (M.1)) E' from f1) ?_
      rw [e79_26 ha]
      simp (disch := omega) only [nI_add, pk_mul, nI_clamp, nI_leI, nI_ltI, nI_eq, inb_, iz1_, iz2_, iz3_, iz4_, iz5_, reduceIte, if_pos, if_neg, op_os, op_vIs, op_vLs, op_vRs, op_vNs, dI_at, dL_at, dI_2, dL_1, Nat.reduceEqDiff, Nat.reduceAdd, Nat.reduceMul, false_and, and_false, true_and, and_true, ne_eq, not_true_eq_false, not_false_eq_true, b2_z, b2_o, b2_n, b2_01, nar_b, nar_0, nar_1, Bool.false_eq_true, Bool.true_eq_false, (cm_ol hc f3.1).1, Nat.le_refl, e79_68 ha]) ⟨h0, ol_r _ _⟩
  refine ⟨D', e1.trans ?_, e2, e3⟩
  show k79_3 w (d + 1) (lN S) a (nI (M.2.1)) D' = _
  rw [e79_3 ha]
  simp (disch := omega) only [nI_add, pk_mul, nI_clamp, nI_leI, nI_ltI, nI_eq, inb_, iz1_, iz2_, iz3_, iz4_, iz5_, reduceIte, if_pos, if_neg, op_os, op_vIs, op_vLs, op_vRs, op_vNs, dI_at, dL_at, dI_2, dL_1, Nat.reduceEqDiff, Nat.reduceAdd, Nat.reduceMul, false_and, and_false, true_and, and_true, ne_eq, not_true_eq_false, not_false_eq_true, b2_z, b2_o, b2_n, b2_01, nar_b, nar_0, nar_1, Bool.false_eq_true, Bool.true_eq_false, (cm_ol hc e3.1).2.1, Nat.le_refl]
/-- lookBack -/
theorem x80 {a S : Nat} (ha : a ∈ ml_) (hc : cm_ D a M) (hM : wm_ M) (hn : M.2.1 ≤ 60) (hcap : M.2.1 ≤ cap_ a) (h0 : ∀ l, l < M.1 → D.2 49 l = lN 0) : ∃ D', k80_0 w (d + 1) (lN S) a D = some (none, D') ∧ (∀ l, l < M.1 → D'.2 49 l = lN (lbk_ M S l)) ∧ ol_ 49 D D' := by
  have hk := hM.1
  have ca := mcap ha
  rw [e80_0 ha]
  obtain ⟨D', e1, e2, e3⟩ := lp_ (fun i (E : dy_) => k80_3 w (d + 1) (lN S) a (nI i) E) (fun i E => (∀ l, l < M.1 → E.2 49 l = lN (orf_ (fun s => if S.testBit (M.2.2.2.1 s l) then 2 ^ s else 0) i)) ∧ ol_ 49 D E) (M.2.1) (s := D) (by
    rintro i E hi ⟨t1, t2⟩
    have hc' := cm_ol hc t2.1
    obtain ⟨E', f1, f2, f3⟩ := lp_ (fun l (E' : dy_) => k80_15 w (d + 1) (lN S) a (nI i) (nI l) E') (fun l E' => (∀ l', l' < M.1 → E'.2 49 l' = lN (orf_ (fun s => if S.testBit (M.2.2.2.1 s l') then 2 ^ s else 0) (if l' < l then i + 1 else i))) ∧ ol_ 49 D E') (M.1) (s := E) (by
      rintro l E' hl ⟨u1, u2⟩
      have hc2 := cm_ol hc u2.1
      have hx := hM.2.2.2 i l hi hl
      have g1 : i * M.1 + l < 4 * cap_ a := by
        have := mul_in hi hl
        have := Nat.mul_le_mul hcap hk.2
        omega
      have u1l := u1 l hl
      rw [if_neg (by omega)] at u1l
      have rest : ∀ (F : dy_), (F.2 49 l = lN (orf_ (fun s => if S.testBit (M.2.2.2.1 s l) then 2 ^ s else 0) (i + 1))) → (∀ l', l' ≠ l → F.2 49 l' = E'.2 49 l') → ∀ l', l' < M.1 → F.2 49 l' = lN (orf_ (fun s => if S.testBit (M.2.2.2.1 s l') then 2 ^ s else 0) (if l' < l + 1 then i + 1 else i)) := by
        intro F h1 h2 l' hl'
        by_cases z : l' = l
        · rw [z, if_pos (by omega)]; exact h1
        · rw [h2 l' z, u1 l' hl']
          by_cases y : l' < l
          · rw [if_pos y, if_pos (by omega)]
          · rw [if_neg y, if_neg (by omega)]
      have hor : orf_ (fun s => if S.testBit (M.2.2.2.1 s l) then 2 ^ s else 0) (i + 1) = orf_ (fun s => if S.testBit (M.2.2.2.1 s l) then 2 ^ s else 0) i ||| if S.testBit (M.2.2.2.1 i l) then 2 ^ i else 0 := rfl
      show ∃ s', k80_15 w (d + 1) (lN S) a (nI i) (nI l) E' = _ ∧ _
      rw [e80_15 ha]
      cases hb : S.testBit (M.2.2.2.1 i l) with
      | false =>
        rw [hb, if_neg (by decide), Nat.or_zero] at hor
        refine ⟨E', ?_, rest E' (by rw [hor]; exact u1l) (fun _ _ => rfl), u2⟩
        simp (disch := omega) only [nI_add, pk_mul, nI_clamp, nI_leI, nI_ltI, nI_eq, inb_, iz1_, iz2_, iz3_, iz4_, iz5_, reduceIte, if_pos, if_neg, op_os, op_vIs, op_vLs, op_vRs, op_vNs, dI_at, dL_at, dI_2, dL_1, Nat.reduceEqDiff, Nat.reduceAdd, Nat.reduceMul, false_and, and_false, true_and, and_true, ne_eq, not_true_eq_false, not_false_eq_true, b2_z, b2_o, b2_n, b2_01, nar_b, nar_0, nar_1, Bool.false_eq_true, Bool.true_eq_false, hc2.1, hc2.2.2.2.1 i l hi hl, tb2, hb, e80_62 ha]
      | true =>
        rw [hb, if_pos rfl] at hor
        refine ⟨dL_ E' 49 l (lN (orf_ (fun s => if S.testBit (M.2.2.2.1 s l) then 2 ^ s else 0) i ||| 2 ^ i)), ?_, rest _ (by simp (disch := omega) only [nI_add, pk_mul, nI_clamp, nI_leI, nI_ltI, nI_eq, inb_, iz1_, iz2_, iz3_, iz4_, iz5_, reduceIte, if_pos, if_neg, op_os, op_vIs, op_vLs, op_vRs, op_vNs, dI_at, dL_at, dI_2, dL_1, Nat.reduceEqDiff, Nat.reduceAdd, Nat.reduceMul, false_and, and_false, true_and, and_true, ne_eq, not_true_eq_false, not_false_eq_true, b2_z, b2_o, b2_n, b2_01, nar_b, nar_0, nar_1, Bool.false_eq_true, Bool.true_eq_false]; rw [hor]) (fun l' hl' => by simp (disch := omega) only [nI_add, pk_mul, nI_clamp, nI_leI, nI_ltI, nI_eq, inb_, iz1_, iz2_, iz3_, iz4_, iz5_, reduceIte, if_pos, if_neg, op_os, op_vIs, op_vLs, op_vRs, op_vNs, dI_at, dL_at, dI_2, dL_1, Nat.reduceEqDiff, Nat.reduceAdd, Nat.reduceMul, false_and, and_false, true_and, and_true, ne_eq, not_true_eq_false, not_false_eq_true, b2_z, b2_o, b2_n, b2_01, nar_b, nar_0, nar_1, Bool.false_eq_true, Bool.true_eq_false]), ol_t u2 (ol_L _ _ _ _)⟩
        simp (disch := omega) only [nI_add, pk_mul, nI_clamp, nI_leI, nI_ltI, nI_eq, inb_, iz1_, iz2_, iz3_, iz4_, iz5_, reduceIte, if_pos, if_neg, op_os, op_vIs, op_vLs, op_vRs, op_vNs, dI_at, dL_at, dI_2, dL_1, Nat.reduceEqDiff, Nat.reduceAdd, Nat.reduceMul, false_and, and_false, true_and, and_true, ne_eq, not_true_eq_false, not_false_eq_true, b2_z, b2_o, b2_n, b2_01, nar_b, nar_0, nar_1, Bool.false_eq_true, Bool.true_eq_false, hc2.1, hc2.2.2.2.1 i l hi hl, tb2, hb, u1l, sb1, lN_or, e80_62 ha]) ⟨fun l' hl' => by rw [if_neg (by omega)]; exact t1 l' hl', t2⟩
    refine ⟨E', ?_, fun l hl => by rw [f2 l hl, if_pos hl], f3⟩
    show k80_3 w (d + 1) (lN S) a (nI i) E = _
    rw [e80_3 ha]
    simp (disch := omega) only [nI_add, pk_mul, nI_clamp, nI_leI, nI_ltI, nI_eq, inb_, iz1_, iz2_, iz3_, iz4_, iz5_, reduceIte, if_pos, if_neg, op_os, op_vIs, op_vLs, op_vRs, op_vNs, dI_at, dL_at, dI_2, dL_1, Nat.reduceEqDiff, Nat.reduceAdd, Nat.reduceMul, false_and, and_false, true_and, and_true, ne_eq, not_true_eq_false, not_false_eq_true, b2_z, b2_o, b2_n, b2_01, nar_b, nar_0, nar_1, Bool.false_eq_true, Bool.true_eq_false, hc'.2.1]
    refine Eq.trans (show _ = k80_15 w (d + 1) (lN S) a (nI i) (nI (M.1)) E' from f1) ?_
    rw [e80_15 ha]
    simp (disch := omega) only [nI_add, pk_mul, nI_clamp, nI_leI, nI_ltI, nI_eq, inb_, iz1_, iz2_, iz3_, iz4_, iz5_, reduceIte, if_pos, if_neg, op_os, op_vIs, op_vLs, op_vRs, op_vNs, dI_at, dL_at, dI_2, dL_1, Nat.reduceEqDiff, Nat.reduceAdd, Nat.reduceMul, false_and, and_false, true_and, and_true, ne_eq, not_true_eq_false, not_false_eq_true, b2_z, b2_o, b2_n, b2_01, nar_b, nar_0, nar_1, Bool.false_eq_true, Bool.true_eq_false, (cm_ol hc f3.1).1, Nat.le_refl]) ⟨h0, ol_r _ _⟩
  refine ⟨D', e1.trans ?_, e2, e3⟩
  show k80_3 w (d + 1) (lN S) a (nI (M.2.1)) D' = _
  rw [e80_3 ha]
  simp (disch := omega) only [nI_add, pk_mul, nI_clamp, nI_leI, nI_ltI, nI_eq, inb_, iz1_, iz2_, iz3_, iz4_, iz5_, reduceIte, if_pos, if_neg, op_os, op_vIs, op_vLs, op_vRs, op_vNs, dI_at, dL_at, dI_2, dL_1, Nat.reduceEqDiff, Nat.reduceAdd, Nat.reduceMul, false_and, and_false, true_and, and_true, ne_eq, not_true_eq_false, not_false_eq_true, b2_z, b2_o, b2_n, b2_01, nar_b, nar_0, nar_1, Bool.false_eq_true, Bool.true_eq_false, (cm_ol hc e3.1).2.1, Nat.le_refl]
/-- fill of the longs -/
theorem x185 {v : Int64} : ∃ D', k185_0 w (d + 1) 49 v D = some (none, D') ∧ (∀ l, l < 4 → D'.2 49 l = v) ∧ ol_ 49 D D' := by
  rw [e185_0, sf_49]
  simp (disch := omega) only [nI_add, pk_mul, nI_clamp, nI_leI, nI_ltI, nI_eq, inb_, iz1_, iz2_, iz3_, iz4_, iz5_, reduceIte, if_pos, if_neg, op_os, op_vIs, op_vLs, op_vRs, op_vNs, dI_at, dL_at, dI_2, dL_1, Nat.reduceEqDiff, Nat.reduceAdd, Nat.reduceMul, false_and, and_false, true_and, and_true, ne_eq, not_true_eq_false, not_false_eq_true, b2_z, b2_o, b2_n, b2_01, nar_b, nar_0, nar_1, Bool.false_eq_true, Bool.true_eq_false]
  obtain ⟨D', e1, e2, e3⟩ := lp_ (fun i (E : dy_) => k185_6 w (d + 1) 49 v (nI i) (nI 4) E) (fun i E => (∀ l, l < i → E.2 49 l = v) ∧ ol_ 49 D E) 4 (s := D) (by
    rintro i E hi ⟨t1, t2⟩
    refine ⟨dL_ E 49 i v, ?_, fun l hl => ?_, ol_t t2 (ol_L _ _ _ _)⟩
    · show k185_6 w (d + 1) 49 v (nI i) (nI 4) E = _
      rw [e185_6]
      simp (disch := omega) only [nI_add, pk_mul, nI_clamp, nI_leI, nI_ltI, nI_eq, inb_, iz1_, iz2_, iz3_, iz4_, iz5_, reduceIte, if_pos, if_neg, op_os, op_vIs, op_vLs, op_vRs, op_vNs, dI_at, dL_at, dI_2, dL_1, Nat.reduceEqDiff, Nat.reduceAdd, Nat.reduceMul, false_and, and_false, true_and, and_true, ne_eq, not_true_eq_false, not_false_eq_true, b2_z, b2_o, b2_n, b2_01, nar_b, nar_0, nar_1, Bool.false_eq_true, Bool.true_eq_false, sf_49]
    · simp (disch := omega) only [nI_add, pk_mul, nI_clamp, nI_leI, nI_ltI, nI_eq, inb_, iz1_, iz2_, iz3_, iz4_, iz5_, reduceIte, op_os, op_vIs, op_vLs, op_vRs, op_vNs, dI_at, dL_at, dI_2, dL_1, Nat.reduceEqDiff, Nat.reduceAdd, Nat.reduceMul, false_and, and_false, true_and, and_true, ne_eq, not_true_eq_false, not_false_eq_true, b2_z, b2_o, b2_n, b2_01, nar_b, nar_0, nar_1, Bool.false_eq_true, Bool.true_eq_false]
      by_cases z : l = i
      · rw [if_pos z]
      · rw [if_neg z]
        exact t1 l (by omega)) ⟨fun l hl => absurd hl (by omega), ol_r _ _⟩
  refine ⟨D', e1.trans ?_, e2, e3⟩
  show k185_6 w (d + 1) 49 v (nI 4) (nI 4) D' = _
  rw [e185_6]
  simp (disch := omega) only [nI_add, pk_mul, nI_clamp, nI_leI, nI_ltI, nI_eq, inb_, iz1_, iz2_, iz3_, iz4_, iz5_, reduceIte, if_pos, if_neg, op_os, op_vIs, op_vLs, op_vRs, op_vNs, dI_at, dL_at, dI_2, dL_1, Nat.reduceEqDiff, Nat.reduceAdd, Nat.reduceMul, false_and, and_false, true_and, and_true, ne_eq, not_true_eq_false, not_false_eq_true, b2_z, b2_o, b2_n, b2_01, nar_b, nar_0, nar_1, Bool.false_eq_true, Bool.true_eq_false, Nat.le_refl]
/-- fill of ints -/
theorem x186 {r n : Nat} {v : Int32} (hs : sh_.1 r = (1, n)) (hn : n < 2 ^ 31) : ∃ D', k186_0 w (d + 1) r v D = some (none, D') ∧ (∀ l, l < n → D'.1 r l = v) ∧ sx_ (fun b => b = r) D D' ∧ D'.2 = D.2 := by
  rw [e186_0, hs]
  simp (disch := omega) only [nI_add, pk_mul, nI_clamp, nI_leI, nI_ltI, nI_eq, inb_, iz1_, iz2_, iz3_, iz4_, iz5_, reduceIte, if_pos, if_neg, op_os, op_vIs, op_vLs, op_vRs, op_vNs, dI_at, dL_at, dI_2, dL_1, Nat.reduceEqDiff, Nat.reduceAdd, Nat.reduceMul, false_and, and_false, true_and, and_true, ne_eq, not_true_eq_false, not_false_eq_true, b2_z, b2_o, b2_n, b2_01, nar_b, nar_0, nar_1, Bool.false_eq_true, Bool.true_eq_false]
  obtain ⟨D', e1, e2, e3, e4⟩ := lp_ (fun i (E : dy_) => k186_5 w (d + 1) r v (nI i) (nI n) E) (fun i E => (∀ l, l < i → E.1 r l = v) ∧ sx_ (fun b => b = r) D E ∧ E.2 = D.2) n (s := D) (by
    rintro i E hi ⟨t1, t2, t3⟩
    refine ⟨dI_ E r i v, ?_, fun l hl => ?_, sx_1 t2 rfl, t3⟩
    · show k186_5 w (d + 1) r v (nI i) (nI n) E = _
      rw [e186_5]
      simp (disch := omega) only [nI_add, pk_mul, nI_clamp, nI_leI, nI_ltI, nI_eq, inb_, iz1_, iz2_, iz3_, iz4_, iz5_, reduceIte, if_pos, if_neg, op_os, op_vIs, op_vLs, op_vRs, op_vNs, dI_at, dL_at, dI_2, dL_1, Nat.reduceEqDiff, Nat.reduceAdd, Nat.reduceMul, false_and, and_false, true_and, and_true, ne_eq, not_true_eq_false, not_false_eq_true, b2_z, b2_o, b2_n, b2_01, nar_b, nar_0, nar_1, Bool.false_eq_true, Bool.true_eq_false, hs]
    · simp (disch := omega) only [nI_add, pk_mul, nI_clamp, nI_leI, nI_ltI, nI_eq, inb_, iz1_, iz2_, iz3_, iz4_, iz5_, reduceIte, op_os, op_vIs, op_vLs, op_vRs, op_vNs, dI_at, dL_at, dI_2, dL_1, Nat.reduceEqDiff, Nat.reduceAdd, Nat.reduceMul, false_and, and_false, true_and, and_true, ne_eq, not_true_eq_false, not_false_eq_true, b2_z, b2_o, b2_n, b2_01, nar_b, nar_0, nar_1, Bool.false_eq_true, Bool.true_eq_false]
      by_cases z : l = i
      · rw [if_pos z]
      · rw [if_neg z]
        exact t1 l (by omega)) ⟨fun l hl => absurd hl (by omega), sx_r _ _, rfl⟩
  refine ⟨D', e1.trans ?_, e2, e3, e4⟩
  show k186_5 w (d + 1) r v (nI n) (nI n) D' = _
  rw [e186_5]
  simp (disch := omega) only [nI_add, pk_mul, nI_clamp, nI_leI, nI_ltI, nI_eq, inb_, iz1_, iz2_, iz3_, iz4_, iz5_, reduceIte, if_pos, if_neg, op_os, op_vIs, op_vLs, op_vRs, op_vNs, dI_at, dL_at, dI_2, dL_1, Nat.reduceEqDiff, Nat.reduceAdd, Nat.reduceMul, false_and, and_false, true_and, and_true, ne_eq, not_true_eq_false, not_false_eq_true, b2_z, b2_o, b2_n, b2_01, nar_b, nar_0, nar_1, Bool.false_eq_true, Bool.true_eq_false, Nat.le_refl]
/-- clear -/
theorem x47 (f : Nat → Nat × Nat) : ∃ D', k47_0 w (d + 2) D = some (none, D') ∧ sr5_ D' f 0 ∧ sx_ (fun b => b = 36 ∨ b = 40) D D' := by
  obtain ⟨E, e1, e2, e3, e4⟩ := x186 (w := w) (d := d) (D := D) (r := 40) (n := 512) (v := -1) sf_40 (by decide)
  refine ⟨dI_ E 36 4 (nI 0), ?_, ⟨by simp (disch := omega) only [nI_add, pk_mul, nI_clamp, nI_leI, nI_ltI, nI_eq, inb_, iz1_, iz2_, iz3_, iz4_, iz5_, reduceIte, if_pos, if_neg, op_os, op_vIs, op_vLs, op_vRs, op_vNs, dI_at, dL_at, dI_2, dL_1, Nat.reduceEqDiff, Nat.reduceAdd, Nat.reduceMul, false_and, and_false, true_and, and_true, ne_eq, not_true_eq_false, not_false_eq_true, b2_z, b2_o, b2_n, b2_01, nar_b, nar_0, nar_1, Bool.false_eq_true, Bool.true_eq_false], fun j hj => absurd hj (by omega), fun b hb => ?_⟩, sx_1 (sx_w e3 (fun b hb => Or.inr hb)) (Or.inl rfl)⟩
  · rw [e47_0]
    simp (disch := omega) only [nI_add, pk_mul, nI_clamp, nI_leI, nI_ltI, nI_eq, inb_, iz1_, iz2_, iz3_, iz4_, iz5_, reduceIte, if_pos, if_neg, op_os, op_vIs, op_vLs, op_vRs, op_vNs, dI_at, dL_at, dI_2, dL_1, Nat.reduceEqDiff, Nat.reduceAdd, Nat.reduceMul, false_and, and_false, true_and, and_true, ne_eq, not_true_eq_false, not_false_eq_true, b2_z, b2_o, b2_n, b2_01, nar_b, nar_0, nar_1, Bool.false_eq_true, Bool.true_eq_false, e1]
  · simp (disch := omega) only [nI_add, pk_mul, nI_clamp, nI_leI, nI_ltI, nI_eq, inb_, iz1_, iz2_, iz3_, iz4_, iz5_, reduceIte, if_pos, if_neg, op_os, op_vIs, op_vLs, op_vRs, op_vNs, dI_at, dL_at, dI_2, dL_1, Nat.reduceEqDiff, Nat.reduceAdd, Nat.reduceMul, false_and, and_false, true_and, and_true, ne_eq, not_true_eq_false, not_false_eq_true, b2_z, b2_o, b2_n, b2_01, nar_b, nar_0, nar_1, Bool.false_eq_true, Bool.true_eq_false]
    rw [e2 b hb]
    rfl
/-- the walk down a chain -/
theorem x48w {f : Nat → Nat × Nat} {n : Nat} {x : Nat × Nat} (h : sr5_ D f n) (hn : n ≤ 500) (hf : ∀ j, j < n → (f j).1 < 60 ∧ (f j).2 < 2 ^ 60) (hx : x.1 < 60 ∧ x.2 < 2 ^ 60) : ∀ m L, m ≤ L → L ≤ n → (∀ j, m ≤ j → j < n → f j ≠ x) → (∃ j, j < n ∧ f j = x ∧ k48_29 w (d + 1) (nI x.1) (lN x.2) (nI (bkn_ x)) (lsb_ (fun i => bkn_ (f i)) (bkn_ x) m) (nI L) D = some (some (.int (nI j)), D)) ∨ ((∀ j, j < n → f j ≠ x) ∧ k48_29 w (d + 1) (nI x.1) (lN x.2) (nI (bkn_ x)) (lsb_ (fun i => bkn_ (f i)) (bkn_ x) m) (nI L) D = k48_80 w (d + 1) (nI x.1) (lN x.2) (nI (bkn_ x)) D) := by
  intro m
  induction m using Nat.strongRecOn with
  | _ m ih =>
    intro L hm hL hne
    rcases lsb_1 (fun i => bkn_ (f i)) (bkn_ x) m with ⟨h1, h2⟩ | ⟨j, h1, h2, h3, h4⟩
    · refine Or.inr ⟨fun j hj e => ?_, ?_⟩
      · by_cases z : m ≤ j
        · exact hne j z hj e
        · exact h2 j (by omega) (by rw [e])
      · rw [h1, e48_29]
        simp (disch := omega) only [nI_add, pk_mul, nI_clamp, nI_leI, nI_ltI, nI_eq, inb_, iz1_, iz2_, iz3_, iz4_, iz5_, reduceIte, op_os, op_vIs, op_vLs, op_vRs, op_vNs, dI_at, dL_at, dI_2, dL_1, Nat.reduceEqDiff, Nat.reduceAdd, Nat.reduceMul, false_and, and_false, true_and, and_true, ne_eq, not_true_eq_false, not_false_eq_true, b2_z, b2_o, b2_n, b2_01, nar_b, nar_0, nar_1, Bool.false_eq_true, Bool.true_eq_false]
        rw [if_pos (show (-1 : Int32) < nI 0 by decide)]
        by_cases z : L ≤ 0
        · rw [if_pos z]
        · rw [if_neg z]
    · rw [h3, e48_29]
      obtain ⟨g1, g2, g3⟩ := h.2.1 j (by omega)
      obtain ⟨g4, g5⟩ := hf j (by omega)
      by_cases z : f j = x
      · refine Or.inl ⟨j, by omega, z, ?_⟩
        rw [z] at g1 g2
        simp (disch := omega) only [nI_add, pk_mul, nI_clamp, nI_leI, nI_ltI, nI_eq, inb_, iz1_, iz2_, iz3_, iz4_, iz5_, reduceIte, if_pos, if_neg, op_os, op_vIs, op_vLs, op_vRs, op_vNs, dI_at, dL_at, dI_2, dL_1, Nat.reduceEqDiff, Nat.reduceAdd, Nat.reduceMul, false_and, and_false, true_and, and_true, ne_eq, not_true_eq_false, not_false_eq_true, b2_z, b2_o, b2_n, b2_01, nar_b, nar_0, nar_1, Bool.false_eq_true, Bool.true_eq_false, g1, g2, lz0]
      · have st : k48_65 w (d + 1) (nI x.1) (lN x.2) (nI (bkn_ x)) (nI j) (nI L) D = k48_29 w (d + 1) (nI x.1) (lN x.2) (nI (bkn_ x)) (lsb_ (fun i => bkn_ (f i)) (bkn_ x) j) (nI (L - 1)) D := by
          rw [e48_65]
          have : nI L + (-1) = nI (L - 1) := by rw [dm1, pk_sub (by omega)]
          simp (disch := omega) only [nI_add, pk_mul, nI_clamp, nI_leI, nI_ltI, nI_eq, inb_, iz1_, iz2_, iz3_, iz4_, iz5_, reduceIte, if_pos, if_neg, op_os, op_vIs, op_vLs, op_vRs, op_vNs, dI_at, dL_at, dI_2, dL_1, Nat.reduceEqDiff, Nat.reduceAdd, Nat.reduceMul, false_and, and_false, true_and, and_true, ne_eq, not_true_eq_false, not_false_eq_true, b2_z, b2_o, b2_n, b2_01, nar_b, nar_0, nar_1, Bool.false_eq_true, Bool.true_eq_false, g3, this]
          rw [h2]
        have st2 : (if nI L ≤ nI 0 then k48_80 w (d + 1) (nI x.1) (lN x.2) (nI (bkn_ x)) D else if nI j < nI 0 then k48_80 w (d + 1) (nI x.1) (lN x.2) (nI (bkn_ x)) D else mk_inb (nI j) 500 none (if (lg_cmp (D.2 37 (nI j).toNatClampNeg) (lN x.2)) ≠ (nI 0) then (k48_65 w (d + 1) (nI x.1) (lN x.2) (nI (bkn_ x)) (nI j) (nI L) D) else (mk_inb (nI j) 500 none (if (D.1 38 (nI j).toNatClampNeg) ≠ (nI x.1) then (k48_65 w (d + 1) (nI x.1) (lN x.2) (nI (bkn_ x)) (nI j) (nI L) D) else (some (some (.int (nI j)), D)))))) = k48_65 w (d + 1) (nI x.1) (lN x.2) (nI (bkn_ x)) (nI j) (nI L) D := by
          by_cases y : (f j).2 = x.2
          · have y2 : (f j).1 ≠ x.1 := fun q => z (Prod.ext q y)
            simp (disch := omega) only [nI_add, pk_mul, nI_clamp, nI_leI, nI_ltI, nI_eq, inb_, iz1_, iz2_, iz3_, iz4_, iz5_, reduceIte, if_pos, if_neg, op_os, op_vIs, op_vLs, op_vRs, op_vNs, dI_at, dL_at, dI_2, dL_1, Nat.reduceEqDiff, Nat.reduceAdd, Nat.reduceMul, false_and, and_false, true_and, and_true, ne_eq, not_true_eq_false, not_false_eq_true, b2_z, b2_o, b2_n, b2_01, nar_b, nar_0, nar_1, Bool.false_eq_true, Bool.true_eq_false, g1, g2, lz0, y]
          · simp (disch := omega) only [nI_add, pk_mul, nI_clamp, nI_leI, nI_ltI, nI_eq, inb_, iz1_, iz2_, iz3_, iz4_, iz5_, reduceIte, if_pos, if_neg, op_os, op_vIs, op_vLs, op_vRs, op_vNs, dI_at, dL_at, dI_2, dL_1, Nat.reduceEqDiff, Nat.reduceAdd, Nat.reduceMul, false_and, and_false, true_and, and_true, ne_eq, not_true_eq_false, not_false_eq_true, b2_z, b2_o, b2_n, b2_01, nar_b, nar_0, nar_1, Bool.false_eq_true, Bool.true_eq_false, g1, g2, lz0]
        rw [st2, st]
        exact ih j h1 (L - 1) (by omega) (by omega) (fun i hi hi' => by
          by_cases y : i = j
          · rw [y]; exact z
          · by_cases y2 : m ≤ i
            · exact hne i y2 hi'
            · exact fun e => h4 i (by omega) (by omega) (by rw [e]))
/-- numberOf -/
theorem x48i {f : Nat → Nat × Nat} {n j : Nat} {x : Nat × Nat} (h : sr5_ D f n) (hn : n ≤ 500) (hf : ∀ j, j < n → (f j).1 < 60 ∧ (f j).2 < 2 ^ 60) (hx : x.1 < 60 ∧ x.2 < 2 ^ 60) (hinj : ∀ i j, i < n → j < n → f i = f j → i = j) (hj : j < n) (e : f j = x) : k48_0 w (d + 1) (nI x.1) (lN x.2) D = some (some (.int (nI j)), D) := by
  obtain ⟨b1, b2⟩ := bkn_1 x
  rw [e48_0, b2]
  simp (disch := omega) only [nI_add, pk_mul, nI_clamp, nI_leI, nI_ltI, nI_eq, inb_, iz1_, iz2_, iz3_, iz4_, iz5_, reduceIte, if_pos, if_neg, op_os, op_vIs, op_vLs, op_vRs, op_vNs, dI_at, dL_at, dI_2, dL_1, Nat.reduceEqDiff, Nat.reduceAdd, Nat.reduceMul, false_and, and_false, true_and, and_true, ne_eq, not_true_eq_false, not_false_eq_true, b2_z, b2_o, b2_n, b2_01, nar_b, nar_0, nar_1, Bool.false_eq_true, Bool.true_eq_false, h.1, h.2.2 _ b1]
  rcases x48w (w := w) (d := d) h hn hf hx n n (Nat.le_refl _) (Nat.le_refl _) (fun j a b => absurd a (by omega)) with ⟨i, i1, i2, i3⟩ | ⟨i1, _⟩
  · rw [i3, hinj i j i1 hj (by rw [i2, e])]
  · exact absurd e (i1 j hj)
theorem x48n {f : Nat → Nat × Nat} {n : Nat} {x : Nat × Nat} (h : sr5_ D f n) (hn : n ≤ 500) (hf : ∀ j, j < n → (f j).1 < 60 ∧ (f j).2 < 2 ^ 60) (hx : x.1 < 60 ∧ x.2 < 2 ^ 60) (hne : ∀ j, j < n → f j ≠ x) : k48_0 w (d + 1) (nI x.1) (lN x.2) D = k48_80 w (d + 1) (nI x.1) (lN x.2) (nI (bkn_ x)) D := by
  obtain ⟨b1, b2⟩ := bkn_1 x
  rw [e48_0, b2]
  simp (disch := omega) only [nI_add, pk_mul, nI_clamp, nI_leI, nI_ltI, nI_eq, inb_, iz1_, iz2_, iz3_, iz4_, iz5_, reduceIte, if_pos, if_neg, op_os, op_vIs, op_vLs, op_vRs, op_vNs, dI_at, dL_at, dI_2, dL_1, Nat.reduceEqDiff, Nat.reduceAdd, Nat.reduceMul, false_and, and_false, true_and, and_true, ne_eq, not_true_eq_false, not_false_eq_true, b2_z, b2_o, b2_n, b2_01, nar_b, nar_0, nar_1, Bool.false_eq_true, Bool.true_eq_false, h.1, h.2.2 _ b1]
  rcases x48w (w := w) (d := d) h hn hf hx n n (Nat.le_refl _) (Nat.le_refl _) (fun j a b => absurd a (by omega)) with ⟨i, i1, i2, i3⟩ | ⟨_, i2⟩
  · exact absurd i2 (hne i i1)
  · exact i2
theorem x48f {f : Nat → Nat × Nat} {n : Nat} {x : Nat × Nat} (h : sr5_ D f n) (hn : n = 500) : k48_80 w (d + 1) (nI x.1) (lN x.2) (nI (bkn_ x)) D = some (some (.int (-1)), D) := by
  rw [e48_80]
  simp (disch := omega) only [nI_add, pk_mul, nI_clamp, nI_leI, nI_ltI, nI_eq, inb_, iz1_, iz2_, iz3_, iz4_, iz5_, reduceIte, if_pos, if_neg, op_os, op_vIs, op_vLs, op_vRs, op_vNs, dI_at, dL_at, dI_2, dL_1, Nat.reduceEqDiff, Nat.reduceAdd, Nat.reduceMul, false_and, and_false, true_and, and_true, ne_eq, not_true_eq_false, not_false_eq_true, b2_z, b2_o, b2_n, b2_01, nar_b, nar_0, nar_1, Bool.false_eq_true, Bool.true_eq_false, h.1, hn]
theorem x48a {f : Nat → Nat × Nat} {n : Nat} {x : Nat × Nat} (h : sr5_ D f n) (hn : n < 500) (e : f n = x) : ∃ D', k48_80 w (d + 1) (nI x.1) (lN x.2) (nI (bkn_ x)) D = some (some (.int (nI n)), D') ∧ sr5_ D' f (n + 1) ∧ sx_ (fun b => 36 ≤ b ∧ b ≤ 40) D D' := by
  obtain ⟨b1, b2⟩ := bkn_1 x
  refine ⟨dI_ (dI_ (dI_ (dI_ (dL_ D 37 n (lN x.2)) 38 n (nI x.1)) 39 n (lsb_ (fun i => bkn_ (f i)) (bkn_ x) n)) 40 (bkn_ x) (nI n)) 36 4 (nI (n + 1)), ?_, ⟨by simp (disch := omega) only [nI_add, pk_mul, nI_clamp, nI_leI, nI_ltI, nI_eq, inb_, iz1_, iz2_, iz3_, iz4_, iz5_, reduceIte, if_pos, if_neg, op_os, op_vIs, op_vLs, op_vRs, op_vNs, dI_at, dL_at, dI_2, dL_1, Nat.reduceEqDiff, Nat.reduceAdd, Nat.reduceMul, false_and, and_false, true_and, and_true, ne_eq, not_true_eq_false, not_false_eq_true, b2_z, b2_o, b2_n, b2_01, nar_b, nar_0, nar_1, Bool.false_eq_true, Bool.true_eq_false], fun j hj => ?_, fun b hb => ?_⟩, ?_⟩
  · rw [e48_80]
    simp (disch := omega) only [nI_add, pk_mul, nI_clamp, nI_leI, nI_ltI, nI_eq, inb_, iz1_, iz2_, iz3_, iz4_, iz5_, reduceIte, if_pos, if_neg, op_os, op_vIs, op_vLs, op_vRs, op_vNs, dI_at, dL_at, dI_2, dL_1, Nat.reduceEqDiff, Nat.reduceAdd, Nat.reduceMul, false_and, and_false, true_and, and_true, ne_eq, not_true_eq_false, not_false_eq_true, b2_z, b2_o, b2_n, b2_01, nar_b, nar_0, nar_1, Bool.false_eq_true, Bool.true_eq_false, h.1, h.2.2 _ b1, pk_sub]
    rw [show n + 1 - 1 = n by omega]
  · by_cases z : j = n
    · rw [z, e]
      exact ⟨by simp (disch := omega) only [nI_add, pk_mul, nI_clamp, nI_leI, nI_ltI, nI_eq, inb_, iz1_, iz2_, iz3_, iz4_, iz5_, reduceIte, if_pos, if_neg, op_os, op_vIs, op_vLs, op_vRs, op_vNs, dI_at, dL_at, dI_2, dL_1, Nat.reduceEqDiff, Nat.reduceAdd, Nat.reduceMul, false_and, and_false, true_and, and_true, ne_eq, not_true_eq_false, not_false_eq_true, b2_z, b2_o, b2_n, b2_01, nar_b, nar_0, nar_1, Bool.false_eq_true, Bool.true_eq_false], by simp (disch := omega) only [nI_add, pk_mul, nI_clamp, nI_leI, nI_ltI, nI_eq, inb_, iz1_, iz2_, iz3_, iz4_, iz5_, reduceIte, if_pos, if_neg, op_os, op_vIs, op_vLs, op_vRs, op_vNs, dI_at, dL_at, dI_2, dL_1, Nat.reduceEqDiff, Nat.reduceAdd, Nat.reduceMul, false_and, and_false, true_and, and_true, ne_eq, not_true_eq_false, not_false_eq_true, b2_z, b2_o, b2_n, b2_01, nar_b, nar_0, nar_1, Bool.false_eq_true, Bool.true_eq_false], by simp (disch := omega) only [nI_add, pk_mul, nI_clamp, nI_leI, nI_ltI, nI_eq, inb_, iz1_, iz2_, iz3_, iz4_, iz5_, reduceIte, if_pos, if_neg, op_os, op_vIs, op_vLs, op_vRs, op_vNs, dI_at, dL_at, dI_2, dL_1, Nat.reduceEqDiff, Nat.reduceAdd, Nat.reduceMul, false_and, and_false, true_and, and_true, ne_eq, not_true_eq_false, not_false_eq_true, b2_z, b2_o, b2_n, b2_01, nar_b, nar_0, nar_1, Bool.false_eq_true, Bool.true_eq_false]⟩
    · obtain ⟨q1, q2, q3⟩ := h.2.1 j (by omega)
      exact ⟨by simp (disch := omega) only [nI_add, pk_mul, nI_clamp, nI_leI, nI_ltI, nI_eq, inb_, iz1_, iz2_, iz3_, iz4_, iz5_, reduceIte, if_pos, if_neg, op_os, op_vIs, op_vLs, op_vRs, op_vNs, dI_at, dL_at, dI_2, dL_1, Nat.reduceEqDiff, Nat.reduceAdd, Nat.reduceMul, false_and, and_false, true_and, and_true, ne_eq, not_true_eq_false, not_false_eq_true, b2_z, b2_o, b2_n, b2_01, nar_b, nar_0, nar_1, Bool.false_eq_true, Bool.true_eq_false]; exact q1, by simp (disch := omega) only [nI_add, pk_mul, nI_clamp, nI_leI, nI_ltI, nI_eq, inb_, iz1_, iz2_, iz3_, iz4_, iz5_, reduceIte, if_pos, if_neg, op_os, op_vIs, op_vLs, op_vRs, op_vNs, dI_at, dL_at, dI_2, dL_1, Nat.reduceEqDiff, Nat.reduceAdd, Nat.reduceMul, false_and, and_false, true_and, and_true, ne_eq, not_true_eq_false, not_false_eq_true, b2_z, b2_o, b2_n, b2_01, nar_b, nar_0, nar_1, Bool.false_eq_true, Bool.true_eq_false]; exact q2, by simp (disch := omega) only [nI_add, pk_mul, nI_clamp, nI_leI, nI_ltI, nI_eq, inb_, iz1_, iz2_, iz3_, iz4_, iz5_, reduceIte, if_pos, if_neg, op_os, op_vIs, op_vLs, op_vRs, op_vNs, dI_at, dL_at, dI_2, dL_1, Nat.reduceEqDiff, Nat.reduceAdd, Nat.reduceMul, false_and, and_false, true_and, and_true, ne_eq, not_true_eq_false, not_false_eq_true, b2_z, b2_o, b2_n, b2_01, nar_b, nar_0, nar_1, Bool.false_eq_true, Bool.true_eq_false]; exact q3⟩
  · simp (disch := omega) only [nI_add, pk_mul, nI_clamp, nI_leI, nI_ltI, nI_eq, inb_, iz1_, iz2_, iz3_, iz4_, iz5_, reduceIte, op_os, op_vIs, op_vLs, op_vRs, op_vNs, dI_at, dL_at, dI_2, dL_1, Nat.reduceEqDiff, Nat.reduceAdd, Nat.reduceMul, false_and, and_false, true_and, and_true, ne_eq, not_true_eq_false, not_false_eq_true, b2_z, b2_o, b2_n, b2_01, nar_b, nar_0, nar_1, Bool.false_eq_true, Bool.true_eq_false]
    show _ = if bkn_ (f n) = b then nI n else lsb_ (fun i => bkn_ (f i)) b n
    rw [e]
    by_cases z : b = bkn_ x
    · rw [if_pos z, if_pos z.symm]
    · rw [if_neg z, if_neg (fun y => z y.symm)]
      exact h.2.2 b hb
  · exact sx_1 (sx_1 (sx_1 (sx_1 (sx_L (show 36 ≤ 37 ∧ 37 ≤ 40 by omega)) (by omega)) (by omega)) (by omega)) (by omega)
end SETS
