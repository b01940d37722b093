/-! how many bits -/
theorem and_sp (w a b : Nat) : a &&& b = (a % 2 ^ w &&& b % 2 ^ w) + 2 ^ w * (a / 2 ^ w &&& b / 2 ^ w) := by
  have h1 : (a &&& b) % 2 ^ w = a % 2 ^ w &&& b % 2 ^ w := Nat.and_mod_two_pow
  have h2 : (a &&& b) / 2 ^ w = a / 2 ^ w &&& b / 2 ^ w := Nat.and_div_two_pow
  rw [← h1, ← h2]
  exact (Nat.mod_add_div _ _).symm
/-- the ones of a byte -/
def pc8_ (b : Nat) : Nat := b % 2 + b / 2 % 2 + b / 4 % 2 + b / 8 % 2 + b / 16 % 2 + b / 32 % 2 + b / 64 % 2 + b / 128 % 2
/-- a mask of k bytes -/
def mk8_ (m : Nat) : Nat → Nat
  | 0 => 0
  | k + 1 => m + 256 * mk8_ m k
def q1_ (k x : Nat) : Nat := x - (x / 2 &&& mk8_ 85 k)
def q2_ (k x : Nat) : Nat := (x &&& mk8_ 51 k) + (x / 4 &&& mk8_ 51 k)
def q3_ (k x : Nat) : Nat := (x + x / 16) &&& mk8_ 15 k
/-- nibbles at most 4 -/
def nb4_ : Nat → Nat → Prop
  | 0, x => x = 0
  | k + 1, x => x % 16 ≤ 4 ∧ x / 16 % 16 ≤ 4 ∧ nb4_ k (x / 256)
theorem bd1_ : ∀ b ∈ List.range 256, ∀ y ∈ List.range 2, (b / 2 + 128 * y) &&& 85 = b / 2 &&& 85 ∧ (b / 2 &&& 85) ≤ b ∧ b - (b / 2 &&& 85) < 256 := by decide +kernel
theorem bd2_ : ∀ b ∈ List.range 256, ∀ y ∈ List.range 4, (b / 4 + 64 * y) &&& 51 = b / 4 &&& 51 := by decide +kernel
theorem bd3_ : ∀ b ∈ List.range 256, (b &&& 51) + (b / 4 &&& 51) < 256 := by decide +kernel
theorem bd4_ : ∀ b ∈ List.range 256, ((b - (b / 2 &&& 85)) &&& 51) + ((b - (b / 2 &&& 85)) / 4 &&& 51) < 256 ∧ (((b - (b / 2 &&& 85)) &&& 51) + ((b - (b / 2 &&& 85)) / 4 &&& 51)) % 16 ≤ 4 ∧ (((b - (b / 2 &&& 85)) &&& 51) + ((b - (b / 2 &&& 85)) / 4 &&& 51)) / 16 % 16 ≤ 4 ∧ ((((b - (b / 2 &&& 85)) &&& 51) + ((b - (b / 2 &&& 85)) / 4 &&& 51)) + (((b - (b / 2 &&& 85)) &&& 51) + ((b - (b / 2 &&& 85)) / 4 &&& 51)) / 16) % 16 = pc8_ b := by decide +kernel
theorem mkm (m k : Nat) (hm : m < 256) : mk8_ m (k + 1) % 2 ^ 8 = m ∧ mk8_ m (k + 1) / 2 ^ 8 = mk8_ m k := by
  show (m + 256 * mk8_ m k) % 256 = m ∧ (m + 256 * mk8_ m k) / 256 = mk8_ m k
  omega
theorem q1_s (k x : Nat) : (x / 2 &&& mk8_ 85 (k + 1)) = ((x % 256) / 2 &&& 85) + 256 * ((x / 256) / 2 &&& mk8_ 85 k) := by
  rw [and_sp 8, (mkm 85 k (by decide)).1, (mkm 85 k (by decide)).2]
  have h1 : x / 2 % 2 ^ 8 = (x % 256) / 2 + 128 * (x / 256 % 2) := by omega
  have h2 : x / 2 / 2 ^ 8 = (x / 256) / 2 := by omega
  rw [h1, h2, (bd1_ (x % 256) (List.mem_range.mpr (by omega)) (x / 256 % 2) (List.mem_range.mpr (by omega))).1]
theorem q1_le : ∀ k x, (x / 2 &&& mk8_ 85 k) ≤ x
  | 0, x => by
    show x / 2 &&& 0 ≤ x
    rw [Nat.and_zero]
    omega
  | k + 1, x => by
    rw [q1_s]
    have h1 := q1_le k (x / 256)
    have h2 := (bd1_ (x % 256) (List.mem_range.mpr (by omega)) 0 (by decide)).2.1
    omega
theorem q1_e_ (k x : Nat) : q1_ (k + 1) x = (x % 256 - ((x % 256) / 2 &&& 85)) + 256 * q1_ k (x / 256) := by
  unfold q1_
  rw [q1_s]
  have h1 := q1_le k (x / 256)
  have h2 := (bd1_ (x % 256) (List.mem_range.mpr (by omega)) 0 (by decide)).2.1
  omega
theorem q2_e (k x : Nat) : q2_ (k + 1) x = ((x % 256 &&& 51) + ((x % 256) / 4 &&& 51)) + 256 * q2_ k (x / 256) := by
  unfold q2_
  rw [and_sp 8 x, and_sp 8 (x / 4), (mkm 51 k (by decide)).1, (mkm 51 k (by decide)).2]
  have h1 : x / 4 % 2 ^ 8 = (x % 256) / 4 + 64 * (x / 256 % 4) := by omega
  have h2 : x / 4 / 2 ^ 8 = (x / 256) / 4 := by omega
  rw [h1, h2, bd2_ (x % 256) (List.mem_range.mpr (by omega)) (x / 256 % 4) (List.mem_range.mpr (by omega))]
  have h3 : x % 2 ^ 8 = x % 256 := rfl
  have h4 : x / 2 ^ 8 = x / 256 := rfl
  rw [h3, h4]
  omega
theorem q3_e (k x : Nat) (h : nb4_ (k + 1) x) (hk : nb4_ k (x / 256)) : q3_ (k + 1) x = ((x % 256) + (x % 256) / 16) % 16 + 256 * q3_ k (x / 256) := by
  unfold q3_
  rw [and_sp 8, (mkm 15 k (by decide)).1, (mkm 15 k (by decide)).2]
  have h5 : x / 256 % 16 ≤ 4 := by
    cases k with
    | zero =>
      have : x / 256 = 0 := hk
      omega
    | succ k => exact hk.1
  have h1 : (x + x / 16) / 2 ^ 8 = x / 256 + x / 256 / 16 := by
    have a1 := h.1
    have a2 := h.2.1
    obtain ⟨d0, e0⟩ : ∃ d0, d0 = x % 16 := ⟨_, rfl⟩
    obtain ⟨bd1_, e1⟩ : ∃ bd1_, bd1_ = x / 16 % 16 := ⟨_, rfl⟩
    obtain ⟨y0, e2⟩ : ∃ y0, y0 = x / 256 % 16 := ⟨_, rfl⟩
    obtain ⟨y1, e3⟩ : ∃ y1, y1 = x / 256 / 16 := ⟨_, rfl⟩
    have hx : x = d0 + 16 * bd1_ + 256 * (y0 + 16 * y1) := by omega
    have hd0 : d0 ≤ 4 := by omega
    have hd1 : bd1_ ≤ 4 := by omega
    have hy0 : y0 ≤ 4 := by omega
    clear a1 a2 e0 e1 e2 e3 h5 h hk
    subst hx
    have b1 : (d0 + 16 * bd1_ + 256 * (y0 + 16 * y1)) / 16 = bd1_ + 16 * (y0 + 16 * y1) := by omega
    have b2 : (d0 + 16 * bd1_ + 256 * (y0 + 16 * y1)) / 256 = y0 + 16 * y1 := by omega
    have b3 : (y0 + 16 * y1) / 16 = y1 := by omega
    rw [b1, b2, b3, show d0 + 16 * bd1_ + 256 * (y0 + 16 * y1) + (bd1_ + 16 * (y0 + 16 * y1)) = (d0 + 17 * bd1_ + 16 * y0) + 256 * (y0 + 17 * y1) by omega]
    omega
  have h2 : (x + x / 16) % 2 ^ 8 &&& 15 = ((x % 256) + (x % 256) / 16) % 16 := by
    rw [show (15 : Nat) = 2 ^ 4 - 1 from rfl, Nat.and_two_pow_sub_one_eq_mod]
    omega
  rw [h1, h2]
/-- the bytes' counts -/
def cb8_ : Nat → Nat → Nat
  | 0, _ => 0
  | k + 1, x => pc8_ (x % 256) + 256 * cb8_ k (x / 256)
theorem q_nb : ∀ k x, x < 256 ^ k → nb4_ k (q2_ k (q1_ k x))
  | 0, x, h => by
    have : x = 0 := by simp at h; omega
    subst this
    rfl
  | k + 1, x, h => by
    have hq1 := q1_e_ k x
    have hb := bd1_ (x % 256) (List.mem_range.mpr (by omega)) 0 (by decide)
    have e1 : q1_ (k + 1) x % 256 = x % 256 - ((x % 256) / 2 &&& 85) := by omega
    have e2 : q1_ (k + 1) x / 256 = q1_ k (x / 256) := by omega
    have hq2 := q2_e k (q1_ (k + 1) x)
    rw [e1, e2] at hq2
    have hd := bd4_ (x % 256) (List.mem_range.mpr (by omega))
    have ih := q_nb k (x / 256) (by rw [Nat.pow_succ] at h; omega)
    generalize hz : ((x % 256 - ((x % 256) / 2 &&& 85)) &&& 51) + ((x % 256 - ((x % 256) / 2 &&& 85)) / 4 &&& 51) = z at *
    rw [hq2]
    refine ⟨by omega, ?_, ?_⟩
    · rw [show (z + 256 * q2_ k (q1_ k (x / 256))) / 16 = z / 16 + 16 * q2_ k (q1_ k (x / 256)) by omega, Nat.add_mul_mod_self_left]
      exact hd.2.2.1
    rw [show (z + 256 * q2_ k (q1_ k (x / 256))) / 256 = q2_ k (q1_ k (x / 256)) by omega]
    exact ih
theorem q_all : ∀ k x, x < 256 ^ k → q3_ k (q2_ k (q1_ k x)) = cb8_ k x
  | 0, x, h => by
    have : x = 0 := by simp at h; omega
    subst this
    rfl
  | k + 1, x, h => by
    have hq1 := q1_e_ k x
    have hb := bd1_ (x % 256) (List.mem_range.mpr (by omega)) 0 (by decide)
    have e1 : q1_ (k + 1) x % 256 = x % 256 - ((x % 256) / 2 &&& 85) := by omega
    have e2 : q1_ (k + 1) x / 256 = q1_ k (x / 256) := by omega
    have hq2 := q2_e k (q1_ (k + 1) x)
    rw [e1, e2] at hq2
    have hd := bd4_ (x % 256) (List.mem_range.mpr (by omega))
    have hx : x / 256 < 256 ^ k := by rw [Nat.pow_succ] at h; omega
    have ih := q_all k (x / 256) hx
    have nb := q_nb (k + 1) x h
    have nb2 := q_nb k (x / 256) hx
    generalize hz : ((x % 256 - ((x % 256) / 2 &&& 85)) &&& 51) + ((x % 256 - ((x % 256) / 2 &&& 85)) / 4 &&& 51) = z at *
    have e3 : q2_ (k + 1) (q1_ (k + 1) x) % 256 = z := by omega
    have e4 : q2_ (k + 1) (q1_ (k + 1) x) / 256 = q2_ k (q1_ k (x / 256)) := by omega
    have hq3 := q3_e k (q2_ (k + 1) (q1_ (k + 1) x)) nb (by rw [e4]; exact nb2)
    rw [e3, e4, ih] at hq3
    rw [hq3]
    show _ = pc8_ (x % 256) + 256 * cb8_ k (x / 256)
    omega
/-- the ones of k bytes -/
def pcr_ : Nat → Nat → Nat
  | 0, _ => 0
  | k + 1, x => pc8_ (x % 256) + pcr_ k (x / 256)
theorem bd5_ : ∀ b ∈ List.range 256, pc8_ b ≤ 8 := by decide +kernel
theorem bf1_ (c Y : Nat) (h : c < 256) : (c + 256 * Y) / 256 = Y := by omega
theorem bf2_ (c Y : Nat) (h : c < 65536) : (c + 65536 * Y) / 65536 = Y := by omega
theorem bf3_ (c Y : Nat) (h : c < 4294967296) : (c + 4294967296 * Y) / 4294967296 = Y := by omega
theorem q_fin1 (c0 c1 c2 c3 c4 c5 c6 c7 : Nat) (h0 : c0 ≤ 8) (h1 : c1 ≤ 8) (h2 : c2 ≤ 8) (h3 : c3 ≤ 8) (h4 : c4 ≤ 8) (h5 : c5 ≤ 8) (h6 : c6 ≤ 8) (h7 : c7 ≤ 8) (y a b : Nat) (hy : y = c0 + 256 * (c1 + 256 * (c2 + 256 * (c3 + 256 * (c4 + 256 * (c5 + 256 * (c6 + 256 * c7))))))) (ha : a = y + y / 256) (hb : b = a + a / 65536) : (b + b / 4294967296) % 128 = c0 + (c1 + (c2 + (c3 + (c4 + (c5 + (c6 + c7)))))) := by
  have e1 : y / 256 = c1 + 256 * (c2 + 256 * (c3 + 256 * (c4 + 256 * (c5 + 256 * (c6 + 256 * c7))))) := by
    rw [hy]
    exact bf1_ _ _ (by omega)
  have e2 : a = ((c0 + c1) + 256 * (c1 + c2)) + 65536 * ((c2 + c3) + 256 * (c3 + c4) + 65536 * ((c4 + c5) + 256 * (c5 + c6) + 65536 * ((c6 + c7) + 256 * c7))) := by
    rw [ha, e1, hy]
    clear ha hb e1 hy
    simp only [Nat.mul_add, ← Nat.mul_assoc, Nat.reduceMul]
    omega
  have e3 : a / 65536 = (c2 + c3) + 256 * (c3 + c4) + 65536 * ((c4 + c5) + 256 * (c5 + c6) + 65536 * ((c6 + c7) + 256 * c7)) := by
    rw [e2]
    exact bf2_ _ _ (by clear ha hb e1 e2 hy; omega)
  have e4 : b = ((c0 + c1 + c2 + c3) + 256 * (c1 + c2 + c3 + c4) + 65536 * ((c2 + c3 + c4 + c5) + 256 * (c3 + c4 + c5 + c6))) + 4294967296 * ((c4 + c5 + c6 + c7) + 256 * (c5 + c6 + c7) + 65536 * ((c6 + c7) + 256 * c7)) := by
    rw [hb, e3, e2]
    clear ha hb e1 e2 e3 hy
    simp only [Nat.mul_add, ← Nat.mul_assoc, Nat.reduceMul]
    omega
  have e5 : b / 4294967296 = (c4 + c5 + c6 + c7) + 256 * (c5 + c6 + c7) + 65536 * ((c6 + c7) + 256 * c7) := by
    rw [e4]
    exact bf3_ _ _ (by clear ha hb e1 e2 e3 e4 hy; omega)
  rw [e5, e4]
  clear ha hb e1 e2 e3 e4 e5 hy
  rw [show ((c0 + c1 + c2 + c3) + 256 * (c1 + c2 + c3 + c4) + 65536 * ((c2 + c3 + c4 + c5) + 256 * (c3 + c4 + c5 + c6))) + 4294967296 * ((c4 + c5 + c6 + c7) + 256 * (c5 + c6 + c7) + 65536 * ((c6 + c7) + 256 * c7)) + ((c4 + c5 + c6 + c7) + 256 * (c5 + c6 + c7) + 65536 * ((c6 + c7) + 256 * c7)) = (c0 + (c1 + (c2 + (c3 + (c4 + (c5 + (c6 + c7))))))) + 128 * (2 * (c1 + c2 + c3 + c4) + 512 * ((c2 + c3 + c4 + c5) + 256 * (c3 + c4 + c5 + c6)) + 33554432 * ((c4 + c5 + c6 + c7) + 256 * (c5 + c6 + c7) + 65536 * ((c6 + c7) + 256 * c7)) + 2 * (c5 + c6 + c7) + 512 * ((c6 + c7) + 256 * c7)) by
    simp only [Nat.mul_add, ← Nat.mul_assoc, Nat.reduceMul]
    omega, Nat.add_mul_mod_self_left, Nat.mod_eq_of_lt (by omega)]
theorem q_fin (x : Nat) : (((cb8_ 8 x + cb8_ 8 x / 256) + (cb8_ 8 x + cb8_ 8 x / 256) / 65536) + ((cb8_ 8 x + cb8_ 8 x / 256) + (cb8_ 8 x + cb8_ 8 x / 256) / 65536) / 4294967296) % 128 = pcr_ 8 x := by
  have p : ∀ z, pc8_ (z % 256) ≤ 8 := fun z => bd5_ (z % 256) (List.mem_range.mpr (Nat.mod_lt _ (by decide)))
  exact q_fin1 _ _ _ _ _ _ _ _ (p x) (p (x / 256)) (p (x / 256 / 256)) (p (x / 256 / 256 / 256)) (p (x / 256 / 256 / 256 / 256)) (p (x / 256 / 256 / 256 / 256 / 256)) (p (x / 256 / 256 / 256 / 256 / 256 / 256)) (p (x / 256 / 256 / 256 / 256 / 256 / 256 / 256)) (cb8_ 8 x) _ _ rfl rfl rfl
theorem bd6_ : ∀ b ∈ List.range 256, ∀ p ∈ List.range 8, pc8_ (b ||| 2 ^ p) = pc8_ b + if b.testBit p then 0 else 1 := by decide +kernel
theorem pcr_or : ∀ k S p, p < 8 * k → pcr_ k (S ||| 2 ^ p) = pcr_ k S + if S.testBit p then 0 else 1
  | 0, S, p, h => absurd h (by omega)
  | k + 1, S, p, h => by
    show pc8_ ((S ||| 2 ^ p) % 256) + pcr_ k ((S ||| 2 ^ p) / 256) = pc8_ (S % 256) + pcr_ k (S / 256) + _
    have e1 : (S ||| 2 ^ p) % 256 = S % 256 ||| 2 ^ p % 256 := Nat.or_mod_two_pow (n := 8)
    have e2 : (S ||| 2 ^ p) / 256 = S / 256 ||| 2 ^ p / 256 := Nat.or_div_two_pow (n := 8)
    rw [e1, e2]
    by_cases z : p < 8
    · have hp : 2 ^ p < 2 ^ 8 := Nat.pow_lt_pow_right (by omega) z
      rw [Nat.mod_eq_of_lt hp, Nat.div_eq_of_lt hp, Nat.or_zero, bd6_ (S % 256) (List.mem_range.mpr (by omega)) p (List.mem_range.mpr z)]
      have : (S % 256).testBit p = S.testBit p := by
        rw [show (256 : Nat) = 2 ^ 8 from rfl, Nat.testBit_mod_two_pow, decide_eq_true z, Bool.true_and]
      rw [this]
      omega
    · have hp : 2 ^ p = 256 * 2 ^ (p - 8) := by
        rw [show (256 : Nat) = 2 ^ 8 from rfl, ← Nat.pow_add]
        exact congrArg _ (by omega)
      rw [hp, Nat.mul_mod_right, Nat.or_zero, Nat.mul_div_cancel_left _ (by omega), pcr_or k (S / 256) (p - 8) (by omega)]
      have : (S / 256).testBit (p - 8) = S.testBit p := by
        rw [show (256 : Nat) = 2 ^ 8 from rfl, Nat.testBit_div_two_pow]
        exact congrArg _ (by omega)
      rw [this]
      omega
theorem us64 {a p : Nat} (ha : a < 2 ^ 64) (hp : p < 63) : ((lN a).toUInt64 >>> ((nI p).toInt64.toUInt64 &&& Int64.toUInt64 63)).toInt64 = lN (a / 2 ^ p) := by
  apply Int64.toBitVec_inj.mp
  show ((lN a).toUInt64 >>> ((nI p).toInt64.toUInt64 &&& Int64.toUInt64 63)).toBitVec = BitVec.ofNat 64 _
  rw [UInt64.toBitVec_shiftRight, sh64u hp]
  have h1 : (BitVec.ofNat 64 p).toNat = p := by
    rw [BitVec.toNat_ofNat, Nat.mod_eq_of_lt (by omega)]
  apply BitVec.eq_of_toNat_eq
  rw [BitVec.ushiftRight_eq', BitVec.toNat_ushiftRight, h1, BitVec.toNat_ofNat, Nat.shiftRight_eq_div_pow]
  show (BitVec.ofNat 64 a).toNat / 2 ^ p = _
  rw [BitVec.toNat_ofNat, Nat.mod_eq_of_lt ha, Nat.mod_eq_of_lt (Nat.lt_of_le_of_lt (Nat.div_le_self _ _) ha)]
theorem nb4_lt : ∀ k x, nb4_ k x → 2 * x < 256 ^ k
  | 0, x, h => by
    have : x = 0 := h
    subst this
    decide
  | k + 1, x, h => by
    have ih := nb4_lt k (x / 256) h.2.2
    have h1 := h.1
    have h2 := h.2.1
    rw [Nat.pow_succ]
    generalize 256 ^ k = P at *
    omega
theorem cb8_lt : ∀ k x, 16 * cb8_ k x < 256 ^ k
  | 0, x => by
    show 16 * 0 < 1
    decide
  | k + 1, x => by
    have ih := cb8_lt k (x / 256)
    have h1 := bd5_ (x % 256) (List.mem_range.mpr (Nat.mod_lt _ (by decide)))
    show 16 * (pc8_ (x % 256) + 256 * cb8_ k (x / 256)) < _
    rw [Nat.pow_succ]
    generalize 256 ^ k = P at *
    generalize pc8_ (x % 256) = c at *
    generalize cb8_ k (x / 256) = y at *
    omega
theorem and127 (z : Nat) : nI z &&& nI 127 = nI (z % 128) := by
  rw [pk_and (nI z) 7 (by decide)]
  have : (nI z).toBitVec.toNat = z % 2 ^ 32 := by
    unfold nI
    rw [Int32.toBitVec_ofNat', BitVec.toNat_ofNat]
  rw [this]
  exact congrArg nI (by omega)
/-- bitCount -/
theorem x184 {w : (Nat → Int32) × Nat} {d : Nat} {D : dy_} {s : Nat} (hs : s < 2 ^ 60) : k184_0 w (d + 1) (lN s) D = some (some (.int (nI (pcr_ 8 s))), D) := by
  have hs8 : s < 256 ^ 8 := Nat.lt_trans hs (by decide)
  have n1 := q_nb 8 s hs8
  have n2 := nb4_lt 8 _ n1
  have n3 : q2_ 8 (q1_ 8 s) < 2 ^ 63 := by
    have : (256 : Nat) ^ 8 = 2 ^ 64 := by decide
    omega
  have n4 := cb8_lt 8 s
  have n5 : cb8_ 8 s < 2 ^ 60 := by
    have : (256 : Nat) ^ 8 = 2 ^ 64 := by decide
    omega
  have m1 : mk8_ 85 8 = 6148914691236517205 := by decide
  have m2 : mk8_ 51 8 = 3689348814741910323 := by decide
  have m3 : mk8_ 15 8 = 1085102592571150095 := by decide
  have le1 := q1_le 8 s
  have q1le : q1_ 8 s ≤ s := Nat.sub_le _ _
  have s1 : lN s - (((lN s).toUInt64 >>> ((nI 1).toInt64.toUInt64 &&& Int64.toUInt64 63)).toInt64 &&& lN 6148914691236517205) = lN (q1_ 8 s) := by
    rw [us64 (by omega) (by omega), lN_and, ← m1, lN_sub le1]
    rfl
  have s2 : (lN (q1_ 8 s) &&& lN 3689348814741910323) + (((lN (q1_ 8 s)).toUInt64 >>> ((nI 2).toInt64.toUInt64 &&& Int64.toUInt64 63)).toInt64 &&& lN 3689348814741910323) = lN (q2_ 8 (q1_ 8 s)) := by
    rw [us64 (by omega) (by omega), lN_and, lN_and, ← m2, lN_add]
    rfl
  have s3 : (lN (q2_ 8 (q1_ 8 s)) + ((lN (q2_ 8 (q1_ 8 s))).toUInt64 >>> ((nI 4).toInt64.toUInt64 &&& Int64.toUInt64 63)).toInt64) &&& lN 1085102592571150095 = lN (cb8_ 8 s) := by
    rw [us64 (by omega) (by omega), lN_add, lN_and, ← m3, ← q_all 8 s hs8]
    rfl
  have s4 : lN (cb8_ 8 s) + ((lN (cb8_ 8 s)).toUInt64 >>> ((nI 8).toInt64.toUInt64 &&& Int64.toUInt64 63)).toInt64 = lN (cb8_ 8 s + cb8_ 8 s / 256) := by
    rw [us64 (by omega) (by omega), lN_add]
  have n6 : cb8_ 8 s + cb8_ 8 s / 256 < 2 ^ 61 := by omega
  have s5 : lN (cb8_ 8 s + cb8_ 8 s / 256) + ((lN (cb8_ 8 s + cb8_ 8 s / 256)).toUInt64 >>> ((nI 16).toInt64.toUInt64 &&& Int64.toUInt64 63)).toInt64 = lN ((cb8_ 8 s + cb8_ 8 s / 256) + (cb8_ 8 s + cb8_ 8 s / 256) / 65536) := by
    rw [us64 (by omega) (by omega), lN_add]
  have n7 : (cb8_ 8 s + cb8_ 8 s / 256) + (cb8_ 8 s + cb8_ 8 s / 256) / 65536 < 2 ^ 62 := by omega
  have s6 : lN ((cb8_ 8 s + cb8_ 8 s / 256) + (cb8_ 8 s + cb8_ 8 s / 256) / 65536) + ((lN ((cb8_ 8 s + cb8_ 8 s / 256) + (cb8_ 8 s + cb8_ 8 s / 256) / 65536)).toUInt64 >>> ((nI 32).toInt64.toUInt64 &&& Int64.toUInt64 63)).toInt64 = lN (((cb8_ 8 s + cb8_ 8 s / 256) + (cb8_ 8 s + cb8_ 8 s / 256) / 65536) + ((cb8_ 8 s + cb8_ 8 s / 256) + (cb8_ 8 s + cb8_ 8 s / 256) / 65536) / 4294967296) := by
    rw [us64 (by omega) (by omega), lN_add]
  rw [e184_0, s1, s2, s3, s4, s5, s6, lN_i, and127, q_fin]
