/-! the reference's large machine -/
def bg_ (D : dy_) (M : ma_) : Prop := D.1 351 8 = nI (M.1) ∧ D.1 351 9 = nI (M.2.1) ∧ (∀ i l, i < M.2.1 → l < M.1 → D.1 358 (4 * i + l) = nI (M.2.2.2.1 i l)) ∧ ∀ i, i < M.2.1 → D.1 359 i = b2_ (M.2.2.2.2 i)
/-- fields that are only used inside a call -/
def wf8_ (j : Nat) : Prop := j = 8 ∨ j = 9 ∨ j = 18 ∨ j = 22 ∨ j = 24 ∨ j = 25 ∨ j = 31 ∨ j = 32
/-- only what is used inside a call -/
def rw_ (D D' : dy_) : Prop := (∀ b, b < 351 ∨ (351 < b ∧ b < 358) ∨ 375 < b → D'.1 b = D.1 b) ∧ (∀ j, ¬ wf8_ j → D'.1 351 j = D.1 351 j) ∧ ∀ b, b ≠ 373 → D'.2 b = D.2 b
theorem rw_r (D : dy_) : rw_ D D := ⟨fun _ _ => rfl, fun _ _ => rfl, fun _ _ => rfl⟩
theorem rw_t {D D' D'' : dy_} (h : rw_ D D') (g : rw_ D' D'') : rw_ D D'' := ⟨fun b hb => (g.1 b hb).trans (h.1 b hb), fun b hb => (g.2.1 b hb).trans (h.2.1 b hb), fun b hb => (g.2.2 b hb).trans (h.2.2 b hb)⟩
theorem rw_1 {D E : dy_} {a i : Nat} {v : Int32} (h : rw_ D E) (ha : (a = 351 ∧ wf8_ i) ∨ (357 < a ∧ a < 376)) : rw_ D (dI_ E a i v) := by
  refine rw_t h ⟨fun b hb => ?_, fun j hj => ?_, fun _ _ => rfl⟩
  · exact up_ne (f := E.1) (by omega)
  · rw [dI_at]
    by_cases z : 351 = a ∧ j = i
    · rcases ha with q | q
      · exact absurd (by rw [z.2]; exact q.2) hj
      · omega
    · rw [if_neg z]
theorem rm_rw {D D' : dy_} {m : Nat} {M : ma_} (h : rm_ D m M) (g : rw_ D D') : rm_ D' m M := rm_fr h fun c hc => g.1 c (by omega)
theorem mr_rw {D D' : dy_} {S : sp_} (h : mr_ D S) (g : rw_ D D') : mr_ D' S := by
  unfold mr_ ys_ yt_ ym_ rm_ at *
  rw [g.1 352 (by omega), g.1 353 (by omega), g.1 354 (by omega), g.1 355 (by omega), g.1 356 (by omega), g.1 357 (by omega), g.1 384 (by omega), g.1 385 (by omega), g.2.1 7 (by unfold wf8_; omega), g.2.1 47 (by unfold wf8_; omega), g.2.1 48 (by unfold wf8_; omega), g.2.1 49 (by unfold wf8_; omega)]
  exact h
theorem lw_rw {D D' : dy_} (g : rw_ D D') : lw_ D D' := fun b hb => ⟨g.1 b (by omega), g.2.2 b (by omega)⟩
/-- what is met, in the reference -/
def bq_ {α : Type} [DecidableEq α] (P : α → Prop) (enc : α → Nat) (num : Nat) (g : α → Nat → α) (k : Nat) (x0 : α) (acc : Nat → Bool) (K : List α) (i l e : Nat) (D : dy_) : Prop := (D.1 351 8 = nI k ∧ D.1 351 9 = nI K.length) ∧ nb_ P enc (D.1 num) K ∧ ky_ enc (D.1 360) K ∧ (∀ i' l', l' < k → bef_ i' l' i l → D.1 358 (4 * i' + l') = nI (kt_ g k x0 n36_ i' l')) ∧ ∀ i', i' < e → D.1 359 i' = b2_ (acc i')
theorem bq_in {α : Type} [DecidableEq α] {P : α → Prop} {enc : α → Nat} {num : Nat} {g : α → Nat → α} {k : Nat} {x0 : α} {acc : Nat → Bool} {i l e : Nat} {D : dy_} (hnum : num = 361 ∨ num = 375) (hk : k ≤ 4) (hc : (kq_ g k x0 n36_).length ≤ n36_) (hi : i < (kq_ g k x0 n36_).length) (hl : l < k) (h : bq_ P enc num g k x0 acc (li_ g (kf_ g k x0 n36_ i) (kq_ g k x0 i) l) i l e D) (hx : P (g (kf_ g k x0 n36_ i) l)) (c : g (kf_ g k x0 n36_ i) l ∈ li_ g (kf_ g k x0 n36_ i) (kq_ g k x0 i) l) : D.1 num (enc (g (kf_ g k x0 n36_ i) l)) = nI (kt_ g k x0 n36_ i l) ∧ bq_ P enc num g k x0 acc (li_ g (kf_ g k x0 n36_ i) (kq_ g k x0 i) (l + 1)) i (l + 1) e (dI_ D 358 (4 * i + l) (nI (kt_ g k x0 n36_ i l))) := by
  obtain ⟨k1, k2⟩ := kt_s1 g k x0 hc hi hl c
  have h1 := h.2.1 _ hx
  rw [if_pos c, ← k2] at h1
  refine ⟨h1, ⟨?_, ?_⟩, fun y hy => ?_, fun j y hj => ?_, fun i' l' q1 q2 => ?_, fun i' hi' => ?_⟩
  · simp (disch := omega) only [nI_add, pk_mul, nI_clamp, nI_leI, nI_ltI, nI_eq, inb_, iz1_, iz2_, iz3_, iz4_, iz5_, reduceIte, if_pos, if_neg, op_os, op_vIs, op_vLs, op_vRs, op_vNs, dI_at, dL_at, dI_2, dL_1, Nat.reduceEqDiff, Nat.reduceAdd, Nat.reduceMul, false_and, and_false, true_and, and_true, ne_eq, not_true_eq_false, not_false_eq_true, b2_z, b2_o, b2_n, b2_01, nar_b, nar_0, nar_1, Bool.false_eq_true, Bool.true_eq_false]; exact h.1.1
  · rw [k1]; simp (disch := omega) only [nI_add, pk_mul, nI_clamp, nI_leI, nI_ltI, nI_eq, inb_, iz1_, iz2_, iz3_, iz4_, iz5_, reduceIte, if_pos, if_neg, op_os, op_vIs, op_vLs, op_vRs, op_vNs, dI_at, dL_at, dI_2, dL_1, Nat.reduceEqDiff, Nat.reduceAdd, Nat.reduceMul, false_and, and_false, true_and, and_true, ne_eq, not_true_eq_false, not_false_eq_true, b2_z, b2_o, b2_n, b2_01, nar_b, nar_0, nar_1, Bool.false_eq_true, Bool.true_eq_false]; exact h.1.2
  · rw [k1]; simp (disch := omega) only [nI_add, pk_mul, nI_clamp, nI_leI, nI_ltI, nI_eq, inb_, iz1_, iz2_, iz3_, iz4_, iz5_, reduceIte, if_pos, if_neg, op_os, op_vIs, op_vLs, op_vRs, op_vNs, dI_at, dL_at, dI_2, dL_1, Nat.reduceEqDiff, Nat.reduceAdd, Nat.reduceMul, false_and, and_false, true_and, and_true, ne_eq, not_true_eq_false, not_false_eq_true, b2_z, b2_o, b2_n, b2_01, nar_b, nar_0, nar_1, Bool.false_eq_true, Bool.true_eq_false]; exact h.2.1 y hy
  · rw [k1] at hj; simp (disch := omega) only [nI_add, pk_mul, nI_clamp, nI_leI, nI_ltI, nI_eq, inb_, iz1_, iz2_, iz3_, iz4_, iz5_, reduceIte, if_pos, if_neg, op_os, op_vIs, op_vLs, op_vRs, op_vNs, dI_at, dL_at, dI_2, dL_1, Nat.reduceEqDiff, Nat.reduceAdd, Nat.reduceMul, false_and, and_false, true_and, and_true, ne_eq, not_true_eq_false, not_false_eq_true, b2_z, b2_o, b2_n, b2_01, nar_b, nar_0, nar_1, Bool.false_eq_true, Bool.true_eq_false]; exact h.2.2.1 j y hj
  · simp (disch := omega) only [nI_add, pk_mul, nI_clamp, nI_leI, nI_ltI, nI_eq, inb_, iz1_, iz2_, iz3_, iz4_, iz5_, reduceIte, op_os, op_vIs, op_vLs, op_vRs, op_vNs, dI_at, dL_at, dI_2, dL_1, Nat.reduceEqDiff, Nat.reduceAdd, Nat.reduceMul, false_and, and_false, true_and, and_true, ne_eq, not_true_eq_false, not_false_eq_true, b2_z, b2_o, b2_n, b2_01, nar_b, nar_0, nar_1, Bool.false_eq_true, Bool.true_eq_false]
    by_cases z : 4 * i' + l' = 4 * i + l
    · rw [if_pos z, show i' = i by omega, show l' = l by omega]
    · rw [if_neg z]
      exact h.2.2.2.1 i' l' q1 (by unfold bef_ at *; omega)
  · simp (disch := omega) only [nI_add, pk_mul, nI_clamp, nI_leI, nI_ltI, nI_eq, inb_, iz1_, iz2_, iz3_, iz4_, iz5_, reduceIte, if_pos, if_neg, op_os, op_vIs, op_vLs, op_vRs, op_vNs, dI_at, dL_at, dI_2, dL_1, Nat.reduceEqDiff, Nat.reduceAdd, Nat.reduceMul, false_and, and_false, true_and, and_true, ne_eq, not_true_eq_false, not_false_eq_true, b2_z, b2_o, b2_n, b2_01, nar_b, nar_0, nar_1, Bool.false_eq_true, Bool.true_eq_false]; exact h.2.2.2.2 i' hi'
theorem bq_new {α : Type} [DecidableEq α] {P : α → Prop} {enc : α → Nat} {num : Nat} {g : α → Nat → α} {k : Nat} {x0 : α} {acc : Nat → Bool} {i l e : Nat} {D : dy_} (hnum : num = 361 ∨ num = 375) (hk : k ≤ 4) (hc : (kq_ g k x0 n36_).length ≤ n36_) (hi : i < (kq_ g k x0 n36_).length) (hl : l < k) (h : bq_ P enc num g k x0 acc (li_ g (kf_ g k x0 n36_ i) (kq_ g k x0 i) l) i l e D) (hinj : ∀ x y, P x → P y → enc x = enc y → x = y) (hx : P (g (kf_ g k x0 n36_ i) l)) (c : g (kf_ g k x0 n36_ i) l ∉ li_ g (kf_ g k x0 n36_ i) (kq_ g k x0 i) l) : D.1 num (enc (g (kf_ g k x0 n36_ i) l)) = -1 ∧ D.1 351 9 = nI (kt_ g k x0 n36_ i l) ∧ kt_ g k x0 n36_ i l < (kq_ g k x0 n36_).length ∧ bq_ P enc num g k x0 acc (li_ g (kf_ g k x0 n36_ i) (kq_ g k x0 i) (l + 1)) i (l + 1) e (dI_ (dI_ (dI_ (dI_ D num (enc (g (kf_ g k x0 n36_ i) l)) (nI (kt_ g k x0 n36_ i l))) 360 (kt_ g k x0 n36_ i l) (nI (enc (g (kf_ g k x0 n36_ i) l)))) 351 9 (nI (kt_ g k x0 n36_ i l + 1))) 358 (4 * i + l) (nI (kt_ g k x0 n36_ i l))) := by
  obtain ⟨k1, k2, k3, k4⟩ := kt_s2 g k x0 hc hi hl c
  have h1 := h.2.1 _ hx
  rw [if_neg c] at h1
  refine ⟨h1, by rw [k2]; exact h.1.2, by omega, ⟨?_, ?_⟩, ?_, ?_, fun i' l' q1 q2 => ?_, fun i' hi' => ?_⟩
  · simp (disch := omega) only [nI_add, pk_mul, nI_clamp, nI_leI, nI_ltI, nI_eq, inb_, iz1_, iz2_, iz3_, iz4_, iz5_, reduceIte, if_pos, if_neg, op_os, op_vIs, op_vLs, op_vRs, op_vNs, dI_at, dL_at, dI_2, dL_1, Nat.reduceEqDiff, Nat.reduceAdd, Nat.reduceMul, false_and, and_false, true_and, and_true, ne_eq, not_true_eq_false, not_false_eq_true, b2_z, b2_o, b2_n, b2_01, nar_b, nar_0, nar_1, Bool.false_eq_true, Bool.true_eq_false]; exact h.1.1
  · rw [k1, List.length_append, k2]; simp (disch := omega) only [nI_add, pk_mul, nI_clamp, nI_leI, nI_ltI, nI_eq, inb_, iz1_, iz2_, iz3_, iz4_, iz5_, reduceIte, if_pos, if_neg, op_os, op_vIs, op_vLs, op_vRs, op_vNs, dI_at, dL_at, dI_2, dL_1, Nat.reduceEqDiff, Nat.reduceAdd, Nat.reduceMul, false_and, and_false, true_and, and_true, ne_eq, not_true_eq_false, not_false_eq_true, b2_z, b2_o, b2_n, b2_01, nar_b, nar_0, nar_1, Bool.false_eq_true, Bool.true_eq_false]; rfl
  · rw [k1]
    exact nb_new hinj h.2.1 hx c (by simp (disch := omega) only [nI_add, pk_mul, nI_clamp, nI_leI, nI_ltI, nI_eq, inb_, iz1_, iz2_, iz3_, iz4_, iz5_, reduceIte, if_pos, if_neg, op_os, op_vIs, op_vLs, op_vRs, op_vNs, dI_at, dL_at, dI_2, dL_1, Nat.reduceEqDiff, Nat.reduceAdd, Nat.reduceMul, false_and, and_false, true_and, and_true, ne_eq, not_true_eq_false, not_false_eq_true, b2_z, b2_o, b2_n, b2_01, nar_b, nar_0, nar_1, Bool.false_eq_true, Bool.true_eq_false]; rw [k2]) (fun j hj => by simp (disch := omega) only [nI_add, pk_mul, nI_clamp, nI_leI, nI_ltI, nI_eq, inb_, iz1_, iz2_, iz3_, iz4_, iz5_, reduceIte, if_pos, if_neg, op_os, op_vIs, op_vLs, op_vRs, op_vNs, dI_at, dL_at, dI_2, dL_1, Nat.reduceEqDiff, Nat.reduceAdd, Nat.reduceMul, false_and, and_false, true_and, and_true, ne_eq, not_true_eq_false, not_false_eq_true, b2_z, b2_o, b2_n, b2_01, nar_b, nar_0, nar_1, Bool.false_eq_true, Bool.true_eq_false])
  · rw [k1]
    exact ky_new h.2.2.1 (by rw [← k2]; simp (disch := omega) only [nI_add, pk_mul, nI_clamp, nI_leI, nI_ltI, nI_eq, inb_, iz1_, iz2_, iz3_, iz4_, iz5_, reduceIte, if_pos, if_neg, op_os, op_vIs, op_vLs, op_vRs, op_vNs, dI_at, dL_at, dI_2, dL_1, Nat.reduceEqDiff, Nat.reduceAdd, Nat.reduceMul, false_and, and_false, true_and, and_true, ne_eq, not_true_eq_false, not_false_eq_true, b2_z, b2_o, b2_n, b2_01, nar_b, nar_0, nar_1, Bool.false_eq_true, Bool.true_eq_false]) (fun j hj => by simp (disch := omega) only [nI_add, pk_mul, nI_clamp, nI_leI, nI_ltI, nI_eq, inb_, iz1_, iz2_, iz3_, iz4_, iz5_, reduceIte, if_pos, if_neg, op_os, op_vIs, op_vLs, op_vRs, op_vNs, dI_at, dL_at, dI_2, dL_1, Nat.reduceEqDiff, Nat.reduceAdd, Nat.reduceMul, false_and, and_false, true_and, and_true, ne_eq, not_true_eq_false, not_false_eq_true, b2_z, b2_o, b2_n, b2_01, nar_b, nar_0, nar_1, Bool.false_eq_true, Bool.true_eq_false])
  · simp (disch := omega) only [nI_add, pk_mul, nI_clamp, nI_leI, nI_ltI, nI_eq, inb_, iz1_, iz2_, iz3_, iz4_, iz5_, reduceIte, op_os, op_vIs, op_vLs, op_vRs, op_vNs, dI_at, dL_at, dI_2, dL_1, Nat.reduceEqDiff, Nat.reduceAdd, Nat.reduceMul, false_and, and_false, true_and, and_true, ne_eq, not_true_eq_false, not_false_eq_true, b2_z, b2_o, b2_n, b2_01, nar_b, nar_0, nar_1, Bool.false_eq_true, Bool.true_eq_false]
    by_cases z : 4 * i' + l' = 4 * i + l
    · rw [if_pos z, show i' = i by omega, show l' = l by omega]
    · rw [if_neg z, if_neg (by omega)]
      exact h.2.2.2.1 i' l' q1 (by unfold bef_ at *; omega)
  · simp (disch := omega) only [nI_add, pk_mul, nI_clamp, nI_leI, nI_ltI, nI_eq, inb_, iz1_, iz2_, iz3_, iz4_, iz5_, reduceIte, if_pos, if_neg, op_os, op_vIs, op_vLs, op_vRs, op_vNs, dI_at, dL_at, dI_2, dL_1, Nat.reduceEqDiff, Nat.reduceAdd, Nat.reduceMul, false_and, and_false, true_and, and_true, ne_eq, not_true_eq_false, not_false_eq_true, b2_z, b2_o, b2_n, b2_01, nar_b, nar_0, nar_1, Bool.false_eq_true, Bool.true_eq_false]; exact h.2.2.2.2 i' hi'
theorem bq_acc {α : Type} [DecidableEq α] {P : α → Prop} {enc : α → Nat} {num : Nat} {g : α → Nat → α} {k : Nat} {x0 : α} {acc : Nat → Bool} {K : List α} {i : Nat} {D : dy_} (hnum : num = 361 ∨ num = 375) (h : bq_ P enc num g k x0 acc K i 0 i D) : bq_ P enc num g k x0 acc K i 0 (i + 1) (dI_ D 359 i (b2_ (acc i))) := by
  refine ⟨⟨by simp (disch := omega) only [nI_add, pk_mul, nI_clamp, nI_leI, nI_ltI, nI_eq, inb_, iz1_, iz2_, iz3_, iz4_, iz5_, reduceIte, if_pos, if_neg, op_os, op_vIs, op_vLs, op_vRs, op_vNs, dI_at, dL_at, dI_2, dL_1, Nat.reduceEqDiff, Nat.reduceAdd, Nat.reduceMul, false_and, and_false, true_and, and_true, ne_eq, not_true_eq_false, not_false_eq_true, b2_z, b2_o, b2_n, b2_01, nar_b, nar_0, nar_1, Bool.false_eq_true, Bool.true_eq_false]; exact h.1.1, by simp (disch := omega) only [nI_add, pk_mul, nI_clamp, nI_leI, nI_ltI, nI_eq, inb_, iz1_, iz2_, iz3_, iz4_, iz5_, reduceIte, if_pos, if_neg, op_os, op_vIs, op_vLs, op_vRs, op_vNs, dI_at, dL_at, dI_2, dL_1, Nat.reduceEqDiff, Nat.reduceAdd, Nat.reduceMul, false_and, and_false, true_and, and_true, ne_eq, not_true_eq_false, not_false_eq_true, b2_z, b2_o, b2_n, b2_01, nar_b, nar_0, nar_1, Bool.false_eq_true, Bool.true_eq_false]; exact h.1.2⟩, fun y hy => by simp (disch := omega) only [nI_add, pk_mul, nI_clamp, nI_leI, nI_ltI, nI_eq, inb_, iz1_, iz2_, iz3_, iz4_, iz5_, reduceIte, if_pos, if_neg, op_os, op_vIs, op_vLs, op_vRs, op_vNs, dI_at, dL_at, dI_2, dL_1, Nat.reduceEqDiff, Nat.reduceAdd, Nat.reduceMul, false_and, and_false, true_and, and_true, ne_eq, not_true_eq_false, not_false_eq_true, b2_z, b2_o, b2_n, b2_01, nar_b, nar_0, nar_1, Bool.false_eq_true, Bool.true_eq_false]; exact h.2.1 y hy, fun j y hj => by simp (disch := omega) only [nI_add, pk_mul, nI_clamp, nI_leI, nI_ltI, nI_eq, inb_, iz1_, iz2_, iz3_, iz4_, iz5_, reduceIte, if_pos, if_neg, op_os, op_vIs, op_vLs, op_vRs, op_vNs, dI_at, dL_at, dI_2, dL_1, Nat.reduceEqDiff, Nat.reduceAdd, Nat.reduceMul, false_and, and_false, true_and, and_true, ne_eq, not_true_eq_false, not_false_eq_true, b2_z, b2_o, b2_n, b2_01, nar_b, nar_0, nar_1, Bool.false_eq_true, Bool.true_eq_false]; exact h.2.2.1 j y hj, fun i' l' q1 q2 => by simp (disch := omega) only [nI_add, pk_mul, nI_clamp, nI_leI, nI_ltI, nI_eq, inb_, iz1_, iz2_, iz3_, iz4_, iz5_, reduceIte, if_pos, if_neg, op_os, op_vIs, op_vLs, op_vRs, op_vNs, dI_at, dL_at, dI_2, dL_1, Nat.reduceEqDiff, Nat.reduceAdd, Nat.reduceMul, false_and, and_false, true_and, and_true, ne_eq, not_true_eq_false, not_false_eq_true, b2_z, b2_o, b2_n, b2_01, nar_b, nar_0, nar_1, Bool.false_eq_true, Bool.true_eq_false]; exact h.2.2.2.1 i' l' q1 q2, fun i' hi' => ?_⟩
  simp (disch := omega) only [nI_add, pk_mul, nI_clamp, nI_leI, nI_ltI, nI_eq, inb_, iz1_, iz2_, iz3_, iz4_, iz5_, reduceIte, op_os, op_vIs, op_vLs, op_vRs, op_vNs, dI_at, dL_at, dI_2, dL_1, Nat.reduceEqDiff, Nat.reduceAdd, Nat.reduceMul, false_and, and_false, true_and, and_true, ne_eq, not_true_eq_false, not_false_eq_true, b2_z, b2_o, b2_n, b2_01, nar_b, nar_0, nar_1, Bool.false_eq_true, Bool.true_eq_false]
  by_cases z : i' = i
  · rw [if_pos z, z]
  · rw [if_neg z]
    exact h.2.2.2.2 i' (by omega)
theorem bq_row {α : Type} [DecidableEq α] {P : α → Prop} {enc : α → Nat} {num : Nat} {g : α → Nat → α} {k : Nat} {x0 : α} {acc : Nat → Bool} {K : List α} {i : Nat} {D : dy_} (h : bq_ P enc num g k x0 acc K i k (i + 1) D) : bq_ P enc num g k x0 acc K (i + 1) 0 (i + 1) D := ⟨h.1, h.2.1, h.2.2.1, fun i' l' h1 h2 => h.2.2.2.1 i' l' h1 (by unfold bef_ at *; omega), h.2.2.2.2⟩
/-- one machine in order -/
noncomputable def lfm_ (M : ma_) : ma_ := (M.1, (kq_ (M.2.2.2.1) (M.1) (M.2.2.1) n36_).length, 0, kt_ (M.2.2.2.1) (M.1) (M.2.2.1) n36_, fun i => M.2.2.2.2 (kf_ (M.2.2.2.1) (M.1) (M.2.2.1) n36_ i))
theorem nx_len {M : ma_} (hM : wm_ M) (i : Nat) : (kq_ (M.2.2.2.1) (M.1) (M.2.2.1) i).length ≤ M.2.1 := by
  have hd := kq_dom (M.2.2.2.1) (M.1) (M.2.2.1) (P := fun p => p < M.2.1) hM.2.2.1 (fun x l h1 h2 => hM.2.2.2 x l h1 h2) i
  exact nodup_lt _ _ (kq_n _ _ _ i) hd
section LIFT
variable {w : (Nat → Int32) × Nat} {d : Nat} {D : dy_} {S : sp_} {M : ma_}
theorem x122 {m : Nat} (hm : m < 110) (hr : rm_ D m M) (hM : wm_ M) (hn60 : M.2.1 ≤ 60) : ∃ D', k122_0 w (d + 2) (nI m) D = some (none, D') ∧ bg_ D' (lfm_ M) ∧ rw_ D D' := by
  have hk := hM.1
  have h36 := n36_e
  have hs0 := hM.2.2.1
  have hlen := nx_len hM
  have hc : (kq_ (M.2.2.2.1) (M.1) (M.2.2.1) n36_).length ≤ n36_ := by
    have := hlen n36_
    omega
  have hw : M.2.1 ≤ 60 ∧ M.1 ≤ 4 := ⟨hn60, hk.2⟩
  rw [e122_0]
  obtain ⟨D1, a1, a2, a3⟩ := lp_ (fun i (E : dy_) => k122_2 w (d + 2) (nI m) (nI i) E) (fun i E => (∀ p, p < i → E.1 361 p = -1) ∧ rw_ D E) (M.2.1) (s := D) (by
    rintro i E hi ⟨t1, t2⟩
    refine ⟨dI_ E 361 i (-1), ?_, fun p hp => ?_, rw_1 t2 (by omega)⟩
    · show k122_2 w (d + 2) (nI m) (nI i) E = _
      rw [e122_2]
      simp (disch := omega) only [nI_add, pk_mul, nI_clamp, nI_leI, nI_ltI, nI_eq, inb_, iz1_, iz2_, iz3_, iz4_, iz5_, reduceIte, if_pos, if_neg, op_os, op_vIs, op_vLs, op_vRs, op_vNs, dI_at, dL_at, dI_2, dL_1, Nat.reduceEqDiff, Nat.reduceAdd, Nat.reduceMul, false_and, and_false, true_and, and_true, ne_eq, not_true_eq_false, not_false_eq_true, b2_z, b2_o, b2_n, b2_01, nar_b, nar_0, nar_1, Bool.false_eq_true, Bool.true_eq_false, (rm_rw hr t2).2.1]
    · simp (disch := omega) only [nI_add, pk_mul, nI_clamp, nI_leI, nI_ltI, nI_eq, inb_, iz1_, iz2_, iz3_, iz4_, iz5_, reduceIte, op_os, op_vIs, op_vLs, op_vRs, op_vNs, dI_at, dL_at, dI_2, dL_1, Nat.reduceEqDiff, Nat.reduceAdd, Nat.reduceMul, false_and, and_false, true_and, and_true, ne_eq, not_true_eq_false, not_false_eq_true, b2_z, b2_o, b2_n, b2_01, nar_b, nar_0, nar_1, Bool.false_eq_true, Bool.true_eq_false]
      by_cases z : p = i
      · rw [if_pos z]
      · rw [if_neg z]
        exact t1 p (by omega)) ⟨fun p hp => absurd hp (by omega), rw_r D⟩
  have hr1 := rm_rw hr a3
  let acc : Nat → Bool := fun i => M.2.2.2.2 (kf_ (M.2.2.2.1) (M.1) (M.2.2.1) n36_ i)
  generalize hD2 : dI_ (dI_ (dI_ (dI_ D1 351 8 (nI (M.1))) 351 9 (nI 1)) 360 0 (nI (M.2.2.1))) 361 (M.2.2.1) (nI 0) = D2
  have r2 : rw_ D D2 := by
    rw [← hD2]
    exact rw_1 (rw_1 (rw_1 (rw_1 a3 (by unfold wf8_; omega)) (by unfold wf8_; omega)) (by omega)) (by omega)
  have q0 : bq_ (fun p => p < M.2.1) (fun p => p) 361 (M.2.2.2.1) (M.1) (M.2.2.1) acc (kq_ (M.2.2.2.1) (M.1) (M.2.2.1) 0) 0 0 0 D2 := by
    rw [← hD2]
    refine ⟨⟨by simp (disch := omega) only [nI_add, pk_mul, nI_clamp, nI_leI, nI_ltI, nI_eq, inb_, iz1_, iz2_, iz3_, iz4_, iz5_, reduceIte, if_pos, if_neg, op_os, op_vIs, op_vLs, op_vRs, op_vNs, dI_at, dL_at, dI_2, dL_1, Nat.reduceEqDiff, Nat.reduceAdd, Nat.reduceMul, false_and, and_false, true_and, and_true, ne_eq, not_true_eq_false, not_false_eq_true, b2_z, b2_o, b2_n, b2_01, nar_b, nar_0, nar_1, Bool.false_eq_true, Bool.true_eq_false], by simp (disch := omega) only [nI_add, pk_mul, nI_clamp, nI_leI, nI_ltI, nI_eq, inb_, iz1_, iz2_, iz3_, iz4_, iz5_, reduceIte, if_pos, if_neg, op_os, op_vIs, op_vLs, op_vRs, op_vNs, dI_at, dL_at, dI_2, dL_1, Nat.reduceEqDiff, Nat.reduceAdd, Nat.reduceMul, false_and, and_false, true_and, and_true, ne_eq, not_true_eq_false, not_false_eq_true, b2_z, b2_o, b2_n, b2_01, nar_b, nar_0, nar_1, Bool.false_eq_true, Bool.true_eq_false]; rfl⟩, ?_, ?_, fun i' l' h1 h2 => absurd h2 (by unfold bef_; omega), fun i' hi' => absurd hi' (by omega)⟩
    · exact nb_new (f := D1.1 361) (K := []) (fun x y _ _ e => e) (fun x hx => by rw [if_neg List.not_mem_nil]; exact a2 x hx) hs0 List.not_mem_nil (by simp (disch := omega) only [nI_add, pk_mul, nI_clamp, nI_leI, nI_ltI, nI_eq, inb_, iz1_, iz2_, iz3_, iz4_, iz5_, reduceIte, if_pos, if_neg, op_os, op_vIs, op_vLs, op_vRs, op_vNs, dI_at, dL_at, dI_2, dL_1, Nat.reduceEqDiff, Nat.reduceAdd, Nat.reduceMul, false_and, and_false, true_and, and_true, ne_eq, not_true_eq_false, not_false_eq_true, b2_z, b2_o, b2_n, b2_01, nar_b, nar_0, nar_1, Bool.false_eq_true, Bool.true_eq_false]; rfl) (fun j hj => by simp (disch := omega) only [nI_add, pk_mul, nI_clamp, nI_leI, nI_ltI, nI_eq, inb_, iz1_, iz2_, iz3_, iz4_, iz5_, reduceIte, if_pos, if_neg, op_os, op_vIs, op_vLs, op_vRs, op_vNs, dI_at, dL_at, dI_2, dL_1, Nat.reduceEqDiff, Nat.reduceAdd, Nat.reduceMul, false_and, and_false, true_and, and_true, ne_eq, not_true_eq_false, not_false_eq_true, b2_z, b2_o, b2_n, b2_01, nar_b, nar_0, nar_1, Bool.false_eq_true, Bool.true_eq_false])
    · exact ky_new (f := D1.1 360) (K := []) (fun j x hj => by cases hj) (by show _ = nI (M.2.2.1); simp (disch := omega) only [nI_add, pk_mul, nI_clamp, nI_leI, nI_ltI, nI_eq, inb_, iz1_, iz2_, iz3_, iz4_, iz5_, reduceIte, if_pos, if_neg, op_os, op_vIs, op_vLs, op_vRs, op_vNs, dI_at, dL_at, dI_2, dL_1, Nat.reduceEqDiff, Nat.reduceAdd, Nat.reduceMul, false_and, and_false, true_and, and_true, ne_eq, not_true_eq_false, not_false_eq_true, b2_z, b2_o, b2_n, b2_01, nar_b, nar_0, nar_1, Bool.false_eq_true, Bool.true_eq_false]; rfl) (fun j hj => absurd hj (Nat.not_lt_zero j))
  obtain ⟨D', e1, e2, e3⟩ := lp_ (fun i (E : dy_) => k122_66 w (d + 2) (nI m) (nI i) E) (fun i E => bq_ (fun p => p < M.2.1) (fun p => p) 361 (M.2.2.2.1) (M.1) (M.2.2.1) acc (kq_ (M.2.2.2.1) (M.1) (M.2.2.1) i) i 0 i E ∧ rw_ D E) (kq_ (M.2.2.2.1) (M.1) (M.2.2.1) n36_).length (s := D2) (by
    rintro i E hi ⟨t1, t2⟩
    have hl1 := hlen n36_
    have hin := kq_in (M.2.2.2.1) (M.1) (M.2.2.1) hc hi
    have hlin := hlen i
    have hkf := kf_at (M.2.2.2.1) (M.1) (M.2.2.1) (N := n36_) (show i ≤ n36_ by omega) hin
    have hdk : kf_ (M.2.2.2.1) (M.1) (M.2.2.1) n36_ i < M.2.1 := kf_dom (M.2.2.2.1) (M.1) (M.2.2.1) (P := fun p => p < M.2.1) hM.2.2.1 (fun x l h1 h2 => hM.2.2.2 x l h1 h2) hi
    have hcode : E.1 360 i = nI (kf_ (M.2.2.2.1) (M.1) (M.2.2.1) n36_ i) := t1.2.2.1 i _ hkf
    obtain ⟨E', f1, f2, f3⟩ := lp_ (fun l (E' : dy_) => k122_93 w (d + 2) (nI m) (nI i) (nI l) E') (fun l E' => bq_ (fun p => p < M.2.1) (fun p => p) 361 (M.2.2.2.1) (M.1) (M.2.2.1) acc (li_ (M.2.2.2.1) (kf_ (M.2.2.2.1) (M.1) (M.2.2.1) n36_ i) (kq_ (M.2.2.2.1) (M.1) (M.2.2.1) i) l) i l (i + 1) E' ∧ rw_ D E') (M.1) (s := dI_ E 359 i (b2_ (acc i))) (by
      rintro l E' hl ⟨u1, u2⟩
      have hr' := rm_rw hr u2
      have hdg := hM.2.2.2 _ l hdk hl
      have hc2 : E'.1 360 i = nI (kf_ (M.2.2.2.1) (M.1) (M.2.2.1) n36_ i) := by
        refine u1.2.2.1 i _ ?_
        exact pre_get (li_p _ _ _ (Nat.zero_le l)) hkf
      show ∃ s', k122_93 w (d + 2) (nI m) (nI i) (nI l) E' = _ ∧ _
      rw [e122_93]
      by_cases cm : M.2.2.2.1 (kf_ (M.2.2.2.1) (M.1) (M.2.2.1) n36_ i) l ∈ li_ (M.2.2.2.1) (kf_ (M.2.2.2.1) (M.1) (M.2.2.1) n36_ i) (kq_ (M.2.2.2.1) (M.1) (M.2.2.1) i) l
      · obtain ⟨b1, b2⟩ := bq_in (Or.inl rfl) hk.2 hc hi hl u1 hdg cm
        have b1' : E'.1 361 (M.2.2.2.1 (kf_ (M.2.2.2.1) (M.1) (M.2.2.1) n36_ i) l) = nI (kt_ (M.2.2.2.1) (M.1) (M.2.2.1) n36_ i l) := b1
        have hkt := kt_lt (M.2.2.2.1) (M.1) (M.2.2.1) hc hi hl
        refine ⟨_, ?_, b2, rw_1 u2 (by omega)⟩
        simp (disch := omega) only [nI_add, pk_mul, nI_clamp, nI_leI, nI_ltI, nI_eq, inb_, iz1_, iz2_, iz3_, iz4_, iz5_, reduceIte, if_pos, if_neg, op_os, op_vIs, op_vLs, op_vRs, op_vNs, dI_at, dL_at, dI_2, dL_1, Nat.reduceEqDiff, Nat.reduceAdd, Nat.reduceMul, false_and, and_false, true_and, and_true, ne_eq, not_true_eq_false, not_false_eq_true, b2_z, b2_o, b2_n, b2_01, nar_b, nar_0, nar_1, Bool.false_eq_true, Bool.true_eq_false, u1.1.1, hc2, x112 hm hw hr' hdk hl, b1', e122_158]
      · obtain ⟨b1, b3, b4, b2⟩ := bq_new (Or.inl rfl) hk.2 hc hi hl u1 (fun x y _ _ e => e) hdg cm
        have b1' : E'.1 361 (M.2.2.2.1 (kf_ (M.2.2.2.1) (M.1) (M.2.2.1) n36_ i) l) = -1 := b1
        refine ⟨_, ?_, b2, rw_1 (rw_1 (rw_1 (rw_1 u2 (by omega)) (by omega)) (by unfold wf8_; omega)) (by omega)⟩
        simp (disch := omega) only [nI_add, pk_mul, nI_clamp, nI_leI, nI_ltI, nI_eq, inb_, iz1_, iz2_, iz3_, iz4_, iz5_, reduceIte, if_pos, if_neg, op_os, op_vIs, op_vLs, op_vRs, op_vNs, dI_at, dL_at, dI_2, dL_1, Nat.reduceEqDiff, Nat.reduceAdd, Nat.reduceMul, false_and, and_false, true_and, and_true, ne_eq, not_true_eq_false, not_false_eq_true, b2_z, b2_o, b2_n, b2_01, nar_b, nar_0, nar_1, Bool.false_eq_true, Bool.true_eq_false, u1.1.1, hc2, x112 hm hw hr' hdk hl, b1', b3, e122_158]) ⟨bq_acc (Or.inl rfl) t1, rw_1 t2 (by omega)⟩
    have hst := kq_step (M.2.2.2.1) (M.1) (M.2.2.1) (N := n36_) (by omega) hin
    refine ⟨E', ?_, by rw [hst]; exact bq_row f2, f3⟩
    show k122_66 w (d + 2) (nI m) (nI i) E = _
    rw [e122_66]
    simp (disch := omega) only [nI_add, pk_mul, nI_clamp, nI_leI, nI_ltI, nI_eq, inb_, iz1_, iz2_, iz3_, iz4_, iz5_, reduceIte, if_pos, if_neg, op_os, op_vIs, op_vLs, op_vRs, op_vNs, dI_at, dL_at, dI_2, dL_1, Nat.reduceEqDiff, Nat.reduceAdd, Nat.reduceMul, false_and, and_false, true_and, and_true, ne_eq, not_true_eq_false, not_false_eq_true, b2_z, b2_o, b2_n, b2_01, nar_b, nar_0, nar_1, Bool.false_eq_true, Bool.true_eq_false, t1.1.2, hcode, x113 hm hw (rm_rw hr t2) hdk]
    refine Eq.trans (show _ = k122_93 w (d + 2) (nI m) (nI i) (nI (M.1)) E' from f1) ?_
    rw [e122_93]
    simp (disch := omega) only [nI_add, pk_mul, nI_clamp, nI_leI, nI_ltI, nI_eq, inb_, iz1_, iz2_, iz3_, iz4_, iz5_, reduceIte, if_pos, if_neg, op_os, op_vIs, op_vLs, op_vRs, op_vNs, dI_at, dL_at, dI_2, dL_1, Nat.reduceEqDiff, Nat.reduceAdd, Nat.reduceMul, false_and, and_false, true_and, and_true, ne_eq, not_true_eq_false, not_false_eq_true, b2_z, b2_o, b2_n, b2_01, nar_b, nar_0, nar_1, Bool.false_eq_true, Bool.true_eq_false, f2.1.1, Nat.le_refl]) ⟨q0, r2⟩
  have hl1 := hlen n36_
  have hend := kq_end (M.2.2.2.1) (M.1) (M.2.2.1) hc
  rw [hend] at e2
  refine ⟨D', ?_, ⟨e2.1.1, e2.1.2, fun i l hi hl => e2.2.2.2.1 i l hl (Or.inl hi), e2.2.2.2.2⟩, e3⟩
  refine a1.trans ?_
  show k122_2 w (d + 2) (nI m) (nI (M.2.1)) D1 = _
  rw [e122_2]
  simp (disch := omega) only [nI_add, pk_mul, nI_clamp, nI_leI, nI_ltI, nI_eq, inb_, iz1_, iz2_, iz3_, iz4_, iz5_, reduceIte, if_pos, if_neg, op_os, op_vIs, op_vLs, op_vRs, op_vNs, dI_at, dL_at, dI_2, dL_1, Nat.reduceEqDiff, Nat.reduceAdd, Nat.reduceMul, false_and, and_false, true_and, and_true, ne_eq, not_true_eq_false, not_false_eq_true, b2_z, b2_o, b2_n, b2_01, nar_b, nar_0, nar_1, Bool.false_eq_true, Bool.true_eq_false, hr1.2.1, hr1.1, hr1.2.2.1, Nat.le_refl]
  rw [hD2]
  refine e1.trans ?_
  show k122_66 w (d + 2) (nI m) (nI _) D' = _
  rw [e122_66]
  simp (disch := omega) only [nI_add, pk_mul, nI_clamp, nI_leI, nI_ltI, nI_eq, inb_, iz1_, iz2_, iz3_, iz4_, iz5_, reduceIte, if_pos, if_neg, op_os, op_vIs, op_vLs, op_vRs, op_vNs, dI_at, dL_at, dI_2, dL_1, Nat.reduceEqDiff, Nat.reduceAdd, Nat.reduceMul, false_and, and_false, true_and, and_true, ne_eq, not_true_eq_false, not_false_eq_true, b2_z, b2_o, b2_n, b2_01, nar_b, nar_0, nar_1, Bool.false_eq_true, Bool.true_eq_false, e2.1.2, Nat.le_refl]
end LIFT
