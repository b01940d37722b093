section TAPE
variable {w : (Nat → Int32) × Nat} {d : Nat} {D : dy_} {S : sp_} {B : Nat}
theorem x111a {n : Nat} (hn : n < 2 ^ 31) (x : Int32) : k111_0 w (d + 1) x.toInt64 (lN 0) (nI n - nI 1).toInt64 D = some (some (.int (b2_ (ls_ n x))), D) := by
  by_cases h1 : 1 ≤ n
  · exact x111n h1 hn x
  · obtain rfl : n = 0 := by omega
    rw [lt64 (by omega), x111]
    have e1 : (x < nI 0 ∨ nI 0 - nI 1 < x) := by
      rcases ic_ x with ⟨j, hj, rfl⟩ | q
      · exact Or.inr (Int32.lt_of_lt_of_le (show nI 0 - nI 1 < 0 from by decide) (nI_pos' hj))
      · exact Or.inl q
    have e2 : (x < 0 ∨ nI 0 ≤ x) := by
      rcases ic_ x with ⟨j, hj, rfl⟩ | q
      · exact Or.inr (nI_pos' hj)
      · exact Or.inl q
    unfold ls_
    rw [decide_eq_false (not_not_intro e1), decide_eq_false (not_not_intro e2)]
def ut_ (S : sp_) (n : Nat) (b : Nat → Nat) : sp_ := (S.1, (n, b), S.2.2)
theorem ut_ok {n : Nat} {b : Nat → Nat} (hS : ok_ S) (hn : n ≤ 500) (hb : ∀ j, j < n → b j < 256) : ok_ (ut_ S n b) := ⟨hS.1, ⟨hn, hb⟩, hS.2.2⟩
theorem rc_ut {D' : dy_} {n : Nat} {b : Nat → Nat} (h : rc_ D S B) (ht : rtp_ D' (ut_ S n b)) (hk : ∀ c, c ≠ 21 → c ≠ 22 → D'.1 c = D.1 c) : rc_ D' (ut_ S n b) B := by
  obtain ⟨h1, h2, h3, h4, h5⟩ := h
  refine ⟨fun j hj => cm_fr (h1 j hj) (hk _ (by omega) (by omega)) (hk _ (by omega) (by omega)) (hk _ (by omega) (by omega)), ht, ?_, ⟨cm_fr h4.1 (hk _ (by omega) (by omega)) (hk _ (by omega) (by omega)) (hk _ (by omega) (by omega)), cm_fr h4.2 (hk _ (by omega) (by omega)) (hk _ (by omega) (by omega)) (hk _ (by omega) (by omega))⟩, rsp_fr h5 (hk _ (by omega) (by omega)) (hk _ (by omega) (by omega)) (hk _ (by omega) (by omega))⟩
  unfold rmp_ at *
  rw [hk 342 (by omega) (by omega), hk 346 (by omega) (by omega)]
  exact ⟨h3.1, fun q => ⟨cm_fr (h3.2 q).1 (hk _ (by omega) (by omega)) (hk _ (by omega) (by omega)) (hk _ (by omega) (by omega)), (h3.2 q).2⟩⟩
theorem rm_fr {D' : dy_} {m : Nat} {M : ma_} (h : rm_ D m M) (hk : ∀ c, c = 352 ∨ c = 353 ∨ c = 354 ∨ c = 355 ∨ c = 356 → D'.1 c = D.1 c) : rm_ D' m M := by
  unfold rm_ at *
  rw [hk 352 (by omega), hk 353 (by omega), hk 354 (by omega), hk 355 (by omega), hk 356 (by omega)]
  exact h
theorem mr_ut {D' : dy_} {n : Nat} {b : Nat → Nat} (h : mr_ D S) (ht : yt_ D' (ut_ S n b)) (hk : ∀ c, c ≠ 351 → c ≠ 357 → 351 < c → D'.1 c = D.1 c) (hf : ∀ j, j ≠ 7 → j ≠ 0 → D'.1 351 j = D.1 351 j) : mr_ D' (ut_ S n b) := by
  obtain ⟨h1, h2, h3⟩ := h
  refine ⟨fun j hj => rm_fr (h1 j hj) fun c hc => hk c (by omega) (by omega) (by omega), ht, ?_⟩
  unfold ym_ at *
  rw [hf 47 (by omega) (by omega), hf 48 (by omega) (by omega), hf 49 (by omega) (by omega), hk 384 (by omega) (by omega) (by omega), hk 385 (by omega) (by omega) (by omega)]
  exact h3
/-! bytes -/
theorem by_c (x : Int32) {s : Nat} (hs : s = 0 ∨ s = 8 ∨ s = 16 ∨ s = 24) : (x.toUInt32 >>> ((nI s).toUInt32 &&& Int32.toUInt32 31)).toInt32 &&& nI 255 = nI (x.toBitVec.toNat / 2 ^ s % 256) := by
  rw [pk_and _ (m := nI 255) 8 rfl, pk_ushr x (nI s) s (by rcases hs with rfl | rfl | rfl | rfl <;> rfl)]
theorem by_r (x : Int32) {s : Nat} (hs : s = 0 ∨ s = 8 ∨ s = 16 ∨ s = 24) : (x >>> (nI s &&& 31)).toInt8.toInt32 &&& nI 255 = nI (x.toBitVec.toNat / 2 ^ s % 256) := by
  rw [pk_and _ (m := nI 255) 8 rfl]
  have h1 : (x >>> (nI s &&& 31)).toInt8.toInt32.toBitVec.toNat % 2 ^ 8 = x.toBitVec.toNat / 2 ^ s % 256 := by
    have e1 : (x >>> (nI s &&& 31)).toInt8.toInt32.toBitVec = ((x.toBitVec.sshiftRight s).setWidth 8).signExtend 32 := by
      have : (x >>> (nI s &&& 31)).toBitVec = x.toBitVec.sshiftRight s := by
        rcases hs with rfl | rfl | rfl | rfl <;> rfl
      rw [Int8.toBitVec_toInt32, Int32.toBitVec_toInt8, this, BitVec.signExtend_eq_setWidth_of_le (w := 32) (v := 8) _ (by omega)]
    rw [e1]
    have e2 : (((x.toBitVec.sshiftRight s).setWidth 8).signExtend 32).toNat % 2 ^ 8 = (x.toBitVec >>> s).toNat % 2 ^ 8 := by
      rw [← BitVec.toNat_setWidth, ← BitVec.toNat_setWidth]
      congr 1
      apply BitVec.eq_of_getLsbD_eq
      intro i hi
      simp only [BitVec.getLsbD_setWidth, BitVec.getLsbD_signExtend, BitVec.getLsbD_sshiftRight, BitVec.getLsbD_ushiftRight]
      have h32 : i < 32 := by omega
      have hsi : s + i < 32 := by omega
      have hni : ¬ 32 ≤ i := by omega
      simp [hi, h32, hsi, hni]
    rw [e2, BitVec.toNat_ushiftRight, Nat.shiftRight_eq_div_pow]
  rw [h1]
/-- the class's tape alone -/
def tp_ (D : dy_) (n : Nat) (b : Nat → Nat) : Prop := D.1 21 1 = nI n ∧ ∀ j, j < n → D.1 22 j = nI (b j)
theorem tp_s {n : Nat} {b : Nat → Nat} {x : Nat} (h : tp_ D n b) : tp_ (dI_ (dI_ D 22 n (nI x)) 21 1 (nI (n + 1))) (n + 1) (fun j => if j = n then x else b j) := by
  refine ⟨by simp (disch := omega) only [nI_add, pk_mul, nI_clamp, nI_leI, nI_ltI, nI_eq, inb_, iz1_, iz2_, iz3_, iz4_, iz5_, reduceIte, if_pos, if_neg, op_os, op_vIs, op_vLs, op_vRs, op_vNs, dI_at, dL_at, dI_2, dL_1, Nat.reduceEqDiff, Nat.reduceAdd, Nat.reduceMul, false_and, and_false, true_and, and_true, ne_eq, not_true_eq_false, not_false_eq_true, b2_z, b2_o, b2_n, b2_01, nar_b, nar_0, nar_1, Bool.false_eq_true, Bool.true_eq_false], fun j hj => ?_⟩
  simp (disch := omega) only [nI_add, pk_mul, nI_clamp, nI_leI, nI_ltI, nI_eq, inb_, iz1_, iz2_, iz3_, iz4_, iz5_, reduceIte, op_os, op_vIs, op_vLs, op_vRs, op_vNs, dI_at, dL_at, dI_2, dL_1, Nat.reduceEqDiff, Nat.reduceAdd, Nat.reduceMul, false_and, and_false, true_and, and_true, ne_eq, not_true_eq_false, not_false_eq_true, b2_z, b2_o, b2_n, b2_01, nar_b, nar_0, nar_1, Bool.false_eq_true, Bool.true_eq_false]
  by_cases e : j = n
  · rw [if_pos e, if_pos e]
  · rw [if_neg e, if_neg e]
    exact h.2 j (by omega)
theorem tp_e {n : Nat} {b b' : Nat → Nat} (h : tp_ D n b) (e : ∀ j, j < n → b j = b' j) : tp_ D n b' := ⟨h.1, fun j hj => by rw [h.2 j hj, e j hj]⟩
/-- Tape.addNumber -/
theorem x50 {n : Nat} {b : Nat → Nat} (x : Int32) (h : tp_ D n b) (hn : n + 4 ≤ 500) : ∃ D', k50_0 w (d + 1) x D = some (none, D') ∧ tp_ D' (n + 4) (fun j => if j < n then b j else x.toBitVec.toNat / 2 ^ (24 - 8 * (j - n)) % 256) ∧ sx_ (fun b => b = 21 ∨ b = 22) D D' := by
  have h1 := tp_s (x := x.toBitVec.toNat / 2 ^ 24 % 256) h
  have h2 := tp_s (x := x.toBitVec.toNat / 2 ^ 16 % 256) h1
  have h3 := tp_s (x := x.toBitVec.toNat / 2 ^ 8 % 256) h2
  have h4 := tp_s (x := x.toBitVec.toNat / 2 ^ 0 % 256) h3
  refine ⟨_, ?_, tp_e h4 ?_, ?_⟩
  · rw [e50_0, e50_3]
    simp (disch := omega) only [nI_add, pk_mul, nI_clamp, nI_leI, nI_ltI, nI_eq, inb_, iz1_, iz2_, iz3_, iz4_, iz5_, reduceIte, if_pos, if_neg, op_os, op_vIs, op_vLs, op_vRs, op_vNs, dI_at, dL_at, dI_2, dL_1, Nat.reduceEqDiff, Nat.reduceAdd, Nat.reduceMul, false_and, and_false, true_and, and_true, ne_eq, not_true_eq_false, not_false_eq_true, b2_z, b2_o, b2_n, b2_01, nar_b, nar_0, nar_1, Bool.false_eq_true, Bool.true_eq_false, h.1, by_c x (s := 24) (by omega), show nI 24 + -8 = nI 16 from rfl]
    rw [e50_3]
    simp (disch := omega) only [nI_add, pk_mul, nI_clamp, nI_leI, nI_ltI, nI_eq, inb_, iz1_, iz2_, iz3_, iz4_, iz5_, reduceIte, if_pos, if_neg, op_os, op_vIs, op_vLs, op_vRs, op_vNs, dI_at, dL_at, dI_2, dL_1, Nat.reduceEqDiff, Nat.reduceAdd, Nat.reduceMul, false_and, and_false, true_and, and_true, ne_eq, not_true_eq_false, not_false_eq_true, b2_z, b2_o, b2_n, b2_01, nar_b, nar_0, nar_1, Bool.false_eq_true, Bool.true_eq_false, h1.1, by_c x (s := 16) (by omega), show nI 16 + -8 = nI 8 from rfl]
    rw [e50_3]
    simp (disch := omega) only [nI_add, pk_mul, nI_clamp, nI_leI, nI_ltI, nI_eq, inb_, iz1_, iz2_, iz3_, iz4_, iz5_, reduceIte, if_pos, if_neg, op_os, op_vIs, op_vLs, op_vRs, op_vNs, dI_at, dL_at, dI_2, dL_1, Nat.reduceEqDiff, Nat.reduceAdd, Nat.reduceMul, false_and, and_false, true_and, and_true, ne_eq, not_true_eq_false, not_false_eq_true, b2_z, b2_o, b2_n, b2_01, nar_b, nar_0, nar_1, Bool.false_eq_true, Bool.true_eq_false, h2.1, by_c x (s := 8) (by omega), show nI 8 + -8 = nI 0 from rfl]
    rw [e50_3]
    simp (disch := omega) only [nI_add, pk_mul, nI_clamp, nI_leI, nI_ltI, nI_eq, inb_, iz1_, iz2_, iz3_, iz4_, iz5_, reduceIte, if_pos, if_neg, op_os, op_vIs, op_vLs, op_vRs, op_vNs, dI_at, dL_at, dI_2, dL_1, Nat.reduceEqDiff, Nat.reduceAdd, Nat.reduceMul, false_and, and_false, true_and, and_true, ne_eq, not_true_eq_false, not_false_eq_true, b2_z, b2_o, b2_n, b2_01, nar_b, nar_0, nar_1, Bool.false_eq_true, Bool.true_eq_false, h3.1, by_c x (s := 0) (by omega), show nI 0 + -8 = (-8 : Int32) from rfl]
    rw [e50_3, if_pos (by decide)]
  · intro j hj
    by_cases q : j < n
    · rw [if_neg (by omega), if_neg (by omega), if_neg (by omega), if_neg (by omega), if_pos q]
    · rw [if_neg q]
      by_cases q3 : j = n + 1 + 1 + 1
      · rw [if_pos q3, show 24 - 8 * (j - n) = 0 by omega]
      · rw [if_neg q3]
        by_cases q2 : j = n + 1 + 1
        · rw [if_pos q2, show 24 - 8 * (j - n) = 8 by omega]
        · rw [if_neg q2]
          by_cases q1 : j = n + 1
          · rw [if_pos q1, show 24 - 8 * (j - n) = 16 by omega]
          · rw [if_neg q1, if_pos (by omega), show 24 - 8 * (j - n) = 24 by omega]
  · exact sx_t (sx_t (sx_t (sx_t (sx_t (sx_t (sx_t (sx_I (Or.inr rfl)) (sx_I (Or.inl rfl))) (sx_I (Or.inr rfl))) (sx_I (Or.inl rfl))) (sx_I (Or.inr rfl))) (sx_I (Or.inl rfl))) (sx_I (Or.inr rfl))) (sx_I (Or.inl rfl))
/-- what feed lays -/
def fd_ (a b c d e : Int32) (j : Nat) : Nat := (if j < 4 then a else if j < 8 then b else if j < 12 then c else if j < 16 then d else e).toBitVec.toNat / 2 ^ (24 - 8 * (j % 4)) % 256
def fe_ (n : Nat) (t : Nat → Nat) (a b c d e : Int32) (j : Nat) : Nat := if j < n then t j else fd_ a b c d e (j - n)
theorem fd_lt (a b c d e : Int32) (j : Nat) : fd_ a b c d e j < 256 := Nat.mod_lt _ (by omega)
theorem x91 {n : Nat} {t : Nat → Nat} (a b c e f : Int32) (h : tp_ D n t) (hn : n + 20 ≤ 500) : ∃ D', k91_0 w (d + 2) a b c e f D = some (some (.int (nI (n + 20))), D') ∧ tp_ D' (n + 20) (fe_ n t a b c e f) ∧ sx_ (fun b => b = 21 ∨ b = 22) D D' := by
  obtain ⟨D1, e1, t1, s1⟩ := x50 (w := w) (d := d) a h (by omega)
  obtain ⟨D2, e2, t2, s2⟩ := x50 (w := w) (d := d) b t1 (by omega)
  obtain ⟨D3, e3, t3, s3⟩ := x50 (w := w) (d := d) c t2 (by omega)
  obtain ⟨D4, e4, t4, s4⟩ := x50 (w := w) (d := d) e t3 (by omega)
  obtain ⟨D5, e5, t5, s5⟩ := x50 (w := w) (d := d) f t4 (by omega)
  refine ⟨D5, ?_, tp_e t5 ?_, sx_t (sx_t (sx_t (sx_t s1 s2) s3) s4) s5⟩
  · rw [e91_0]
    simp (disch := omega) only [nI_add, pk_mul, nI_clamp, nI_leI, nI_ltI, nI_eq, inb_, iz1_, iz2_, iz3_, iz4_, iz5_, reduceIte, if_pos, if_neg, op_os, op_vIs, op_vLs, op_vRs, op_vNs, dI_at, dL_at, dI_2, dL_1, Nat.reduceEqDiff, Nat.reduceAdd, Nat.reduceMul, false_and, and_false, true_and, and_true, ne_eq, not_true_eq_false, not_false_eq_true, b2_z, b2_o, b2_n, b2_01, nar_b, nar_0, nar_1, Bool.false_eq_true, Bool.true_eq_false, h.1, e1, e2, e3, e4, e5, t5.1]
  · intro j hj
    unfold fe_ fd_
    by_cases q0 : j < n
    · simp (disch := omega) only [if_pos]
    · by_cases q1 : j < n + 4
      · simp (disch := omega) only [if_pos, if_neg, show (j - n) % 4 = j - n by omega]
      · by_cases q2 : j < n + 4 + 4
        · simp (disch := omega) only [if_pos, if_neg, show (j - n) % 4 = j - (n + 4) by omega]
        · by_cases q3 : j < n + 4 + 4 + 4
          · simp (disch := omega) only [if_pos, if_neg, show (j - n) % 4 = j - (n + 4 + 4) by omega]
          · by_cases q4 : j < n + 4 + 4 + 4 + 4
            · simp (disch := omega) only [if_pos, if_neg, show (j - n) % 4 = j - (n + 4 + 4 + 4) by omega]
            · simp (disch := omega) only [if_pos, if_neg, show (j - n) % 4 = j - (n + 4 + 4 + 4 + 4) by omega]
end TAPE
