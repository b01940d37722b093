/-! findClasses -/
/-- only cells of A, only fields of F, in the reference -/
def fx_ (A F : Nat → Prop) (D D' : dy_) : Prop := (∀ b, b ≠ 351 → ¬ A b → D'.1 b = D.1 b) ∧ (∀ j, ¬ F j → D'.1 351 j = D.1 351 j) ∧ D'.2 = D.2
theorem fx_r (A F : Nat → Prop) (D : dy_) : fx_ A F D D := ⟨fun _ _ _ => rfl, fun _ _ => rfl, rfl⟩
theorem fx_t {A F : Nat → Prop} {D D' D'' : dy_} (h : fx_ A F D D') (g : fx_ A F D' D'') : fx_ A F D D'' := ⟨fun b h1 h2 => (g.1 b h1 h2).trans (h.1 b h1 h2), fun j hj => (g.2.1 j hj).trans (h.2.1 j hj), g.2.2.trans h.2.2⟩
theorem fx_w {A F A' F' : Nat → Prop} {D D' : dy_} (h : fx_ A F D D') (ha : ∀ b, A b → A' b) (hf : ∀ j, F j → F' j) : fx_ A' F' D D' := ⟨fun b h1 h2 => h.1 b h1 (fun z => h2 (ha b z)), fun j hj => h.2.1 j (fun z => hj (hf j z)), h.2.2⟩
theorem fx_1 {A F : Nat → Prop} {D E : dy_} {a i : Nat} {v : Int32} (h : fx_ A F D E) (ha : (a = 351 ∧ F i) ∨ (a ≠ 351 ∧ A a)) : fx_ A F D (dI_ E a i v) := by
  refine fx_t h ⟨fun b h1 h2 => up_ne (f := E.1) (fun z => ?_), fun j hj => ?_, rfl⟩
  · rcases ha with q | q
    · exact h1 (z.trans q.1)
    · exact h2 (by rw [z]; exact q.2)
  · rw [dI_at]
    by_cases z : 351 = a ∧ j = i
    · rcases ha with q | q
      · exact absurd (by rw [z.2]; exact q.2) hj
      · exact absurd z.1.symm q.1
    · rw [if_neg z]
theorem rw_fx {A F : Nat → Prop} {D D' : dy_} (h : fx_ A F D D') (ha : ∀ b, A b → 357 < b ∧ b < 376) (hf : ∀ j, F j → wf8_ j) : rw_ D D' := ⟨fun b hb => h.1 b (by omega) (fun z => by have := ha b z; omega), fun j hj => h.2.1 j (fun z => hj (hf j z)), fun b _ => by rw [h.2.2]⟩
theorem bg_fx {A F : Nat → Prop} {D D' : dy_} {M : ma_} (g : bg_ D M) (h : fx_ A F D D') (h8 : ¬ F 8) (h9 : ¬ F 9) (ha : ¬ A 358) (hb : ¬ A 359) : bg_ D' M := by
  unfold bg_
  rw [h.2.1 8 h8, h.2.1 9 h9, h.1 358 (by omega) ha, h.1 359 (by omega) hb]
  exact g
/-- where a key is looked for first -/
def hk_ (key : Nat) : Nat := (((((nI key) * (-1640531527)).toUInt32 >>> ((nI 18).toUInt32 &&& Int32.toUInt32 31)).toInt32) &&& (nI 16383)).toNatClampNeg
theorem hk_1 (key : Nat) : hk_ key < 16384 ∧ ((((nI key) * (-1640531527)).toUInt32 >>> ((nI 18).toUInt32 &&& Int32.toUInt32 31)).toInt32) &&& (nI 16383) = nI (hk_ key) := by
  obtain ⟨j, h1, h2⟩ := pk_andE ((((nI key) * (-1640531527)).toUInt32 >>> ((nI 18).toUInt32 &&& Int32.toUInt32 31)).toInt32) (m := nI 16383) 14 (by decide)
  have h3 : hk_ key = j := by
    unfold hk_
    rw [h2, nI_clamp (by omega)]
  rw [h3]
  exact ⟨h1, h2⟩
theorem hk_n {j : Nat} (h : j < 16384) : (nI j + nI 1) &&& nI 16383 = nI ((j + 1) % 16384) := by
  rw [nI_add, pk_andN (by omega) 14 (by decide)]
/-- the table of keys -/
def tb_ (D : dy_) (n : Nat) (kk : Nat → Nat) : Prop := D.1 351 18 = nI n ∧ (∀ j, j < 16384 → D.1 364 j = -1 ∨ ∃ v, v < n ∧ D.1 364 j = nI v ∧ D.1 365 j = nI (kk v)) ∧ (∀ v, v < n → ∃ s, (∀ i, i < s → D.1 364 ((hk_ (kk v) + i) % 16384) ≠ -1) ∧ D.1 364 ((hk_ (kk v) + s) % 16384) = nI v) ∧ ∀ j j' v, j < 16384 → j' < 16384 → v < n → D.1 364 j = nI v → D.1 364 j' = nI v → j = j'
theorem dI_ne {D : dy_} {a i b : Nat} {v : Int32} (h : b ≠ a) : (dI_ D a i v).1 b = D.1 b := up_ne (f := D.1) h
theorem tb_fr {D D' : dy_} {n : Nat} {kk : Nat → Nat} (h : tb_ D n kk) (h1 : D'.1 351 18 = D.1 351 18) (h2 : D'.1 364 = D.1 364) (h3 : D'.1 365 = D.1 365) : tb_ D' n kk := by
  unfold tb_ at *
  rw [h1, h2, h3]
  exact h
theorem tb_free {D : dy_} {n : Nat} {kk : Nat → Nat} (h : tb_ D n kk) (hn : n ≤ 3600) (j0 : Nat) : ∃ s, D.1 364 ((j0 + s) % 16384) = -1 := by
  refine Classical.byContradiction fun z => ?_
  have h1 : ∀ j, j < 16384 → ∃ v, v < n ∧ D.1 364 j = nI v := by
    intro j hj
    rcases h.2.1 j hj with q | ⟨v, q1, q2, _⟩
    · refine absurd ⟨j + (16384 - j0 % 16384), ?_⟩ z
      rw [show (j0 + (j + (16384 - j0 % 16384))) % 16384 = j by omega]
      exact q
    · exact ⟨v, q1, q2⟩
  let f : Nat → Nat := fun j => (D.1 364 j).toNatClampNeg
  have h2 : ∀ j, j < 16384 → f j < n ∧ D.1 364 j = nI (f j) := by
    intro j hj
    obtain ⟨v, q1, q2⟩ := h1 j hj
    have : f j = v := by
      show (D.1 364 j).toNatClampNeg = v
      rw [q2, nI_clamp (by omega)]
    rw [this]
    exact ⟨q1, q2⟩
  have := nodup_enc (enc := f) (n := n) (List.range 16384) List.nodup_range (by
    intro a b ha hb e
    have ha := h2 a (List.mem_range.mp ha)
    have hb' := h2 b (List.mem_range.mp hb)
    rw [e] at ha
    exact h.2.2.2 a b (f b) (List.mem_range.mp (by assumption)) (List.mem_range.mp hb) hb'.1 ha.2 hb'.2) (by
    intro a ha
    exact (h2 a (List.mem_range.mp ha)).1)
  rw [List.length_range] at this
  omega
section FIND
variable {w : (Nat → Int32) × Nat} {d : Nat} {D : dy_} {M : ma_}
/-- a key that is in the table -/
theorem x124i {n key v : Nat} {kk : Nat → Nat} (h : tb_ D n kk) (hn : n ≤ 3600) (hk : ∀ v, v < n → kk v < 2 ^ 31) (hinj : ∀ v v', v < n → v' < n → kk v = kk v' → v = v') (hv : v < n) (e : kk v = key) : k124_21 w (d + 1) (nI key) (nI (hk_ key)) D = some (some (.int (nI v)), D) := by
  obtain ⟨s, s1, s2⟩ := h.2.2.1 v hv
  rw [e] at s1 s2
  have hb := hk v hv
  rw [e] at hb
  have hh := (hk_1 key).1
  have key1 : ∀ r i, i + r = s → k124_21 w (d + 1) (nI key) (nI ((hk_ key + i) % 16384)) D = some (some (.int (nI v)), D) := by
    intro r
    induction r with
    | zero =>
      intro i hi
      obtain rfl : i = s := by omega
      rcases h.2.1 ((hk_ key + i) % 16384) (by omega) with q | ⟨v', q1, q2, q3⟩
      · rw [s2] at q
        exact absurd q (by rw [iz5_ (by omega)]; exact id)
      · rw [s2] at q2
        obtain rfl : v = v' := (nI_eq (by omega) (by omega)).mp q2
        rw [e124_21]
        simp (disch := omega) only [nI_add, pk_mul, nI_clamp, nI_leI, nI_ltI, nI_eq, inb_, iz1_, iz2_, iz3_, iz4_, iz5_, reduceIte, if_pos, if_neg, op_os, op_vIs, op_vLs, op_vRs, op_vNs, dI_at, dL_at, dI_2, dL_1, Nat.reduceEqDiff, Nat.reduceAdd, Nat.reduceMul, false_and, and_false, true_and, and_true, ne_eq, not_true_eq_false, not_false_eq_true, b2_z, b2_o, b2_n, b2_01, nar_b, nar_0, nar_1, Bool.false_eq_true, Bool.true_eq_false, s2, q3, e, e124_56]
    | succ r ih =>
      intro i hi
      have hne := s1 i (by omega)
      rcases h.2.1 ((hk_ key + i) % 16384) (by omega) with q | ⟨v', q1, q2, q3⟩
      · exact absurd q hne
      · have hb' := hk v' q1
        by_cases c : kk v' = key
        · have := hinj v v' hv q1 (by rw [e, c])
          subst this
          rw [e124_21]
          simp (disch := omega) only [nI_add, pk_mul, nI_clamp, nI_leI, nI_ltI, nI_eq, inb_, iz1_, iz2_, iz3_, iz4_, iz5_, reduceIte, if_pos, if_neg, op_os, op_vIs, op_vLs, op_vRs, op_vNs, dI_at, dL_at, dI_2, dL_1, Nat.reduceEqDiff, Nat.reduceAdd, Nat.reduceMul, false_and, and_false, true_and, and_true, ne_eq, not_true_eq_false, not_false_eq_true, b2_z, b2_o, b2_n, b2_01, nar_b, nar_0, nar_1, Bool.false_eq_true, Bool.true_eq_false, q2, q3, e, e124_56]
        · rw [e124_21]
          have hm := hk_n (show (hk_ key + i) % 16384 < 16384 by omega)
          rw [nI_add] at hm
          simp (disch := omega) only [nI_add, pk_mul, nI_clamp, nI_leI, nI_ltI, nI_eq, inb_, iz1_, iz2_, iz3_, iz4_, iz5_, reduceIte, if_pos, if_neg, op_os, op_vIs, op_vLs, op_vRs, op_vNs, dI_at, dL_at, dI_2, dL_1, Nat.reduceEqDiff, Nat.reduceAdd, Nat.reduceMul, false_and, and_false, true_and, and_true, ne_eq, not_true_eq_false, not_false_eq_true, b2_z, b2_o, b2_n, b2_01, nar_b, nar_0, nar_1, Bool.false_eq_true, Bool.true_eq_false, q2, q3, hm]
          have := ih (i + 1) (by omega)
          rw [show ((hk_ key + i) % 16384 + 1) % 16384 = (hk_ key + (i + 1)) % 16384 by omega]
          exact this
  have := key1 s 0 (by omega)
  rw [show (hk_ key + 0) % 16384 = hk_ key by omega] at this
  exact this
/-- a new key -/
theorem x124n {n key : Nat} {kk : Nat → Nat} (h : tb_ D n kk) (hn : n < 3600) (hk : ∀ v, v < n → kk v < 2 ^ 31) (hkey : key < 2 ^ 31) (hne : ∀ v, v < n → kk v ≠ key) : ∃ D', k124_21 w (d + 1) (nI key) (nI (hk_ key)) D = some (some (.int (nI n)), D') ∧ tb_ D' (n + 1) (fun v => if v = n then key else kk v) ∧ fx_ (fun b => b = 364 ∨ b = 365) (fun j => j = 18) D D' := by
  have hh := (hk_1 key).1
  obtain ⟨s, s2, s1⟩ := pk_least _ (tb_free h (by omega) (hk_ key))
  generalize hj : (hk_ key + s) % 16384 = js at *
  have hjs : js < 16384 := by omega
  have key1 : ∀ r i, i + r = s → k124_21 w (d + 1) (nI key) (nI ((hk_ key + i) % 16384)) D = some (some (.int (nI n)), dI_ (dI_ (dI_ D 364 js (nI n)) 365 js (nI key)) 351 18 (nI (n + 1))) := by
    intro r
    induction r with
    | zero =>
      intro i hi
      obtain rfl : i = s := by omega
      rw [e124_21, hj]
      simp (disch := omega) only [nI_add, pk_mul, nI_clamp, nI_leI, nI_ltI, nI_eq, inb_, iz1_, iz2_, iz3_, iz4_, iz5_, reduceIte, if_pos, if_neg, op_os, op_vIs, op_vLs, op_vRs, op_vNs, dI_at, dL_at, dI_2, dL_1, Nat.reduceEqDiff, Nat.reduceAdd, Nat.reduceMul, false_and, and_false, true_and, and_true, ne_eq, not_true_eq_false, not_false_eq_true, b2_z, b2_o, b2_n, b2_01, nar_b, nar_0, nar_1, Bool.false_eq_true, Bool.true_eq_false, s2, e124_56, h.1]
    | succ r ih =>
      intro i hi
      have hne' := s1 i (by omega)
      rcases h.2.1 ((hk_ key + i) % 16384) (by omega) with q | ⟨v', q1, q2, q3⟩
      · exact absurd q hne'
      · have hb' := hk v' q1
        have c := hne v' q1
        rw [e124_21]
        have hm := hk_n (show (hk_ key + i) % 16384 < 16384 by omega)
        rw [nI_add] at hm
        simp (disch := omega) only [nI_add, pk_mul, nI_clamp, nI_leI, nI_ltI, nI_eq, inb_, iz1_, iz2_, iz3_, iz4_, iz5_, reduceIte, if_pos, if_neg, op_os, op_vIs, op_vLs, op_vRs, op_vNs, dI_at, dL_at, dI_2, dL_1, Nat.reduceEqDiff, Nat.reduceAdd, Nat.reduceMul, false_and, and_false, true_and, and_true, ne_eq, not_true_eq_false, not_false_eq_true, b2_z, b2_o, b2_n, b2_01, nar_b, nar_0, nar_1, Bool.false_eq_true, Bool.true_eq_false, q2, q3, hm]
        have := ih (i + 1) (by omega)
        rw [show ((hk_ key + i) % 16384 + 1) % 16384 = (hk_ key + (i + 1)) % 16384 by omega]
        exact this
  refine ⟨dI_ (dI_ (dI_ D 364 js (nI n)) 365 js (nI key)) 351 18 (nI (n + 1)), ?_, ⟨by simp (disch := omega) only [nI_add, pk_mul, nI_clamp, nI_leI, nI_ltI, nI_eq, inb_, iz1_, iz2_, iz3_, iz4_, iz5_, reduceIte, if_pos, if_neg, op_os, op_vIs, op_vLs, op_vRs, op_vNs, dI_at, dL_at, dI_2, dL_1, Nat.reduceEqDiff, Nat.reduceAdd, Nat.reduceMul, false_and, and_false, true_and, and_true, ne_eq, not_true_eq_false, not_false_eq_true, b2_z, b2_o, b2_n, b2_01, nar_b, nar_0, nar_1, Bool.false_eq_true, Bool.true_eq_false], fun j hj' => ?_, fun v hv => ?_, fun j j' v h1 h2 hv q1 q2 => ?_⟩, fx_1 (fx_1 (fx_1 (fx_r _ _ D) (by omega)) (by omega)) (by omega)⟩
  · have := key1 s 0 (by omega)
    rw [show (hk_ key + 0) % 16384 = hk_ key by omega] at this
    exact this
  · simp (disch := omega) only [nI_add, pk_mul, nI_clamp, nI_leI, nI_ltI, nI_eq, inb_, iz1_, iz2_, iz3_, iz4_, iz5_, reduceIte, op_os, op_vIs, op_vLs, op_vRs, op_vNs, dI_at, dL_at, dI_2, dL_1, Nat.reduceEqDiff, Nat.reduceAdd, Nat.reduceMul, false_and, and_false, true_and, and_true, ne_eq, not_true_eq_false, not_false_eq_true, b2_z, b2_o, b2_n, b2_01, nar_b, nar_0, nar_1, Bool.false_eq_true, Bool.true_eq_false]
    by_cases z : j = js
    · rw [if_pos z, if_pos z]
      exact Or.inr ⟨n, by omega, rfl, by rw [if_pos rfl]⟩
    · rw [if_neg z, if_neg z]
      rcases h.2.1 j hj' with q | ⟨v, q1, q2, q3⟩
      · exact Or.inl q
      · exact Or.inr ⟨v, by omega, q2, by rw [if_neg (by omega)]; exact q3⟩
  · have upd : ∀ j, D.1 364 j ≠ -1 → (dI_ (dI_ (dI_ D 364 js (nI n)) 365 js (nI key)) 351 18 (nI (n + 1))).1 364 j = D.1 364 j := by
      intro j hj'
      simp (disch := omega) only [nI_add, pk_mul, nI_clamp, nI_leI, nI_ltI, nI_eq, inb_, iz1_, iz2_, iz3_, iz4_, iz5_, reduceIte, op_os, op_vIs, op_vLs, op_vRs, op_vNs, dI_at, dL_at, dI_2, dL_1, Nat.reduceEqDiff, Nat.reduceAdd, Nat.reduceMul, false_and, and_false, true_and, and_true, ne_eq, not_true_eq_false, not_false_eq_true, b2_z, b2_o, b2_n, b2_01, nar_b, nar_0, nar_1, Bool.false_eq_true, Bool.true_eq_false]
      by_cases z : j = js
      · rw [z] at hj'
        exact absurd s2 hj'
      · rw [if_neg z]
    dsimp only
    by_cases z : v = n
    · rw [if_pos z]
      refine ⟨s, fun i hi => ?_, ?_⟩
      · rw [upd _ (s1 i hi)]
        exact s1 i hi
      · rw [hj, z]
        simp (disch := omega) only [nI_add, pk_mul, nI_clamp, nI_leI, nI_ltI, nI_eq, inb_, iz1_, iz2_, iz3_, iz4_, iz5_, reduceIte, if_pos, if_neg, op_os, op_vIs, op_vLs, op_vRs, op_vNs, dI_at, dL_at, dI_2, dL_1, Nat.reduceEqDiff, Nat.reduceAdd, Nat.reduceMul, false_and, and_false, true_and, and_true, ne_eq, not_true_eq_false, not_false_eq_true, b2_z, b2_o, b2_n, b2_01, nar_b, nar_0, nar_1, Bool.false_eq_true, Bool.true_eq_false]
    · rw [if_neg z]
      obtain ⟨s', a1, a2⟩ := h.2.2.1 v (by omega)
      refine ⟨s', fun i hi => ?_, ?_⟩
      · rw [upd _ (a1 i hi)]
        exact a1 i hi
      · rw [upd _ (by rw [a2, ne_eq, iz5_ (by omega)]; exact id)]
        exact a2
  · have rd : ∀ j, (dI_ (dI_ (dI_ D 364 js (nI n)) 365 js (nI key)) 351 18 (nI (n + 1))).1 364 j = if j = js then nI n else D.1 364 j := by
      intro j
      simp (disch := omega) only [nI_add, pk_mul, nI_clamp, nI_leI, nI_ltI, nI_eq, inb_, iz1_, iz2_, iz3_, iz4_, iz5_, reduceIte, op_os, op_vIs, op_vLs, op_vRs, op_vNs, dI_at, dL_at, dI_2, dL_1, Nat.reduceEqDiff, Nat.reduceAdd, Nat.reduceMul, false_and, and_false, true_and, and_true, ne_eq, not_true_eq_false, not_false_eq_true, b2_z, b2_o, b2_n, b2_01, nar_b, nar_0, nar_1, Bool.false_eq_true, Bool.true_eq_false]
    rw [rd] at q1 q2
    have hold : ∀ j, j < 16384 → D.1 364 j ≠ nI n := by
      intro j hj' q
      rcases h.2.1 j hj' with y | ⟨v, y1, y2, _⟩
      · rw [q, iz5_ (by omega)] at y
        exact y
      · rw [q] at y2
        have := (nI_eq (by omega) (by omega)).mp y2
        omega
    by_cases z : j = js
    · by_cases z' : j' = js
      · rw [z, z']
      · rw [if_pos z] at q1
        rw [if_neg z', ← q1] at q2
        exact absurd q2 (hold j' h2)
    · rw [if_neg z] at q1
      by_cases z' : j' = js
      · rw [if_pos z', ← q1] at q2
        exact absurd q2.symm (hold j h1)
      · rw [if_neg z'] at q2
        by_cases y : v = n
        · rw [y] at q1
          exact absurd q1 (hold j h1)
        · exact h.2.2.2 j j' v h1 h2 (by omega) q1 q2
/-- emptyTable -/
theorem x125 (kk : Nat → Nat) : ∃ D', k125_0 w (d + 1) D = some (none, D') ∧ tb_ D' 0 kk ∧ fx_ (fun b => b = 364 ∨ b = 365) (fun j => j = 18) D D' := by
  rw [e125_0]
  obtain ⟨D', e1, e2, e3, e4⟩ := lp_ (fun i (E : dy_) => k125_7 w (d + 1) (nI i) E) (fun i E => (∀ j, j < i → E.1 364 j = -1) ∧ E.1 351 18 = nI 0 ∧ fx_ (fun b => b = 364 ∨ b = 365) (fun j => j = 18) D E) 16384 (s := dI_ D 351 18 (nI 0)) (by
    rintro i E hi ⟨t1, t2, t3⟩
    refine ⟨dI_ E 364 i (-1), ?_, fun j hj => ?_, by simp (disch := omega) only [nI_add, pk_mul, nI_clamp, nI_leI, nI_ltI, nI_eq, inb_, iz1_, iz2_, iz3_, iz4_, iz5_, reduceIte, if_pos, if_neg, op_os, op_vIs, op_vLs, op_vRs, op_vNs, dI_at, dL_at, dI_2, dL_1, Nat.reduceEqDiff, Nat.reduceAdd, Nat.reduceMul, false_and, and_false, true_and, and_true, ne_eq, not_true_eq_false, not_false_eq_true, b2_z, b2_o, b2_n, b2_01, nar_b, nar_0, nar_1, Bool.false_eq_true, Bool.true_eq_false]; exact t2, fx_1 t3 (by omega)⟩
    · show k125_7 w (d + 1) (nI i) E = _
      rw [e125_7]
      simp (disch := omega) only [nI_add, pk_mul, nI_clamp, nI_leI, nI_ltI, nI_eq, inb_, iz1_, iz2_, iz3_, iz4_, iz5_, reduceIte, if_pos, if_neg, op_os, op_vIs, op_vLs, op_vRs, op_vNs, dI_at, dL_at, dI_2, dL_1, Nat.reduceEqDiff, Nat.reduceAdd, Nat.reduceMul, false_and, and_false, true_and, and_true, ne_eq, not_true_eq_false, not_false_eq_true, b2_z, b2_o, b2_n, b2_01, nar_b, nar_0, nar_1, Bool.false_eq_true, Bool.true_eq_false]
    · simp (disch := omega) only [nI_add, pk_mul, nI_clamp, nI_leI, nI_ltI, nI_eq, inb_, iz1_, iz2_, iz3_, iz4_, iz5_, reduceIte, op_os, op_vIs, op_vLs, op_vRs, op_vNs, dI_at, dL_at, dI_2, dL_1, Nat.reduceEqDiff, Nat.reduceAdd, Nat.reduceMul, false_and, and_false, true_and, and_true, ne_eq, not_true_eq_false, not_false_eq_true, b2_z, b2_o, b2_n, b2_01, nar_b, nar_0, nar_1, Bool.false_eq_true, Bool.true_eq_false]
      by_cases z : j = i
      · rw [if_pos z]
      · rw [if_neg z]
        exact t1 j (by omega)) ⟨fun j hj => absurd hj (by omega), by simp (disch := omega) only [nI_add, pk_mul, nI_clamp, nI_leI, nI_ltI, nI_eq, inb_, iz1_, iz2_, iz3_, iz4_, iz5_, reduceIte, if_pos, if_neg, op_os, op_vIs, op_vLs, op_vRs, op_vNs, dI_at, dL_at, dI_2, dL_1, Nat.reduceEqDiff, Nat.reduceAdd, Nat.reduceMul, false_and, and_false, true_and, and_true, ne_eq, not_true_eq_false, not_false_eq_true, b2_z, b2_o, b2_n, b2_01, nar_b, nar_0, nar_1, Bool.false_eq_true, Bool.true_eq_false], fx_1 (fx_r _ _ D) (by omega)⟩
  refine ⟨D', e1.trans ?_, ⟨e3, fun j hj => Or.inl (e2 j hj), fun v hv => absurd hv (by omega), fun j j' v _ _ hv => absurd hv (by omega)⟩, e4⟩
  show k125_7 w (d + 1) (nI 16384) D' = _
  rw [e125_7]
  simp (disch := omega) only [nI_add, pk_mul, nI_clamp, nI_leI, nI_ltI, nI_eq, inb_, iz1_, iz2_, iz3_, iz4_, iz5_, reduceIte, if_pos, if_neg, op_os, op_vIs, op_vLs, op_vRs, op_vNs, dI_at, dL_at, dI_2, dL_1, Nat.reduceEqDiff, Nat.reduceAdd, Nat.reduceMul, false_and, and_false, true_and, and_true, ne_eq, not_true_eq_false, not_false_eq_true, b2_z, b2_o, b2_n, b2_01, nar_b, nar_0, nar_1, Bool.false_eq_true, Bool.true_eq_false, Nat.le_refl]
/-- cells of findClasses -/
def ff_ (b : Nat) : Prop := 362 ≤ b ∧ b ≤ 365
/-- one letter -/
theorem x126p {O E0 : Nat → Nat → Prop} {c c0 : Nat → Nat} {l : Nat} {i1 : Int32} (hM : wm_ M) (hb : bg_ D M) (hn : M.2.1 ≤ 3600) (hl : l < M.1) (hE : qv1_ fun p q => E0 p q ∧ O (M.2.2.2.1 p l) (M.2.2.2.1 q l)) (h1 : ∀ p q, p < M.2.1 → q < M.2.1 → (c p = c q ↔ E0 p q)) (h2 : ∀ p q, p < M.2.1 → q < M.2.1 → (c0 p = c0 q ↔ O p q)) (b1 : ∀ p, p < M.2.1 → c p < 3600) (b2 : ∀ p, p < M.2.1 → c0 p < 3600) (w1 : nwr_ D 363 (M.2.1) c) (w2 : nwr_ D 362 (M.2.1) c0) : ∃ D' c' m', k126_77 w (d + 2) i1 (nI l) D = k126_77 w (d + 2) i1 (nI (l + 1)) D' ∧ cnu_ (M.2.1) (fun p q => E0 p q ∧ O (M.2.2.2.1 p l) (M.2.2.2.1 q l)) c' m' ∧ D'.1 351 18 = nI m' ∧ nwr_ D' 363 (M.2.1) c' ∧ fx_ (fun b => b = 363 ∨ b = 364 ∨ b = 365) (fun j => j = 18) D D' := by
  have hk := hM.1
  have cod : ∀ p q, p < M.2.1 → q < M.2.1 → (4096 * c p + c0 (M.2.2.2.1 p l) = 4096 * c q + c0 (M.2.2.2.1 q l) ↔ E0 p q ∧ O (M.2.2.2.1 p l) (M.2.2.2.1 q l)) := by
    intro p q hp hq
    have hp' := hM.2.2.2 p l hp hl
    have hq' := hM.2.2.2 q l hq hl
    have b1 := b2 _ hp'
    have b3 := b2 _ hq'
    rw [← h1 p q hp hq, ← h2 _ _ hp' hq']
    omega
  obtain ⟨D1, a1, a2, a3⟩ := x125 (w := w) (d := d) (D := D) (fun _ => 0)
  obtain ⟨D', e1, ⟨c', m', kk, e2, e3, e4, e5⟩, e6, e7⟩ := lp_ (fun s (E : dy_) => k126_92 w (d + 2) i1 (nI l) (nI s) E) (fun s E => (∃ c' m' kk, cnu_ s (fun p q => E0 p q ∧ O (M.2.2.2.1 p l) (M.2.2.2.1 q l)) c' m' ∧ nwr_ E 363 s c' ∧ tb_ E m' kk ∧ ∀ p, p < s → kk (c' p) = 4096 * c p + c0 (M.2.2.2.1 p l)) ∧ (∀ p, s ≤ p → p < M.2.1 → E.1 363 p = nI (c p)) ∧ fx_ (fun b => b = 363 ∨ b = 364 ∨ b = 365) (fun j => j = 18) D E) (M.2.1) (s := D1) (by
    rintro s E hs ⟨⟨c', m', kk, t1, t2, t3, t4⟩, t5, t6⟩
    have hbE := bg_fx hb t6 (by omega) (by omega) (by omega) (by omega)
    have hx := hM.2.2.2 s l hs hl
    have hc1 := b1 s hs
    have hc2 := b2 _ hx
    have g2 : E.1 362 (M.2.2.2.1 s l) = nI (c0 (M.2.2.2.1 s l)) := by
      rw [t6.1 362 (by omega) (by omega)]
      exact w2 _ hx
    have hm' : m' ≤ s := cn_m t1
    have kp : ∀ v, v < m' → ∃ p, p < s ∧ c' p = v ∧ kk v = 4096 * c p + c0 (M.2.2.2.1 p l) := by
      intro v hv
      obtain ⟨p, hp, ep⟩ := t1.2.2.2 v hv
      exact ⟨p, hp, ep, by rw [← ep]; exact t4 p hp⟩
    have kb : ∀ v, v < m' → kk v < 2 ^ 31 := by
      intro v hv
      obtain ⟨p, p1, p2, p3⟩ := kp v hv
      have := b1 p (by omega)
      have := b2 _ (hM.2.2.2 p l (by omega) hl)
      omega
    have ki : ∀ v v', v < m' → v' < m' → kk v = kk v' → v = v' := by
      intro v v' hv hv' e
      obtain ⟨p, p1, p2, p3⟩ := kp v hv
      obtain ⟨q, q1, q2, q3⟩ := kp v' hv'
      rw [p3, q3] at e
      have := (t1.1 p q p1 q1).mpr ((cod p q (by omega) (by omega)).mp e)
      omega
    have start : ∀ r D2, k124_21 w (d + 1) (nI (4096 * c s + c0 (M.2.2.2.1 s l))) (nI (hk_ (4096 * c s + c0 (M.2.2.2.1 s l)))) E = some (some (.int (nI r)), D2) → k126_92 w (d + 2) i1 (nI l) (nI s) E = k126_92 w (d + 2) i1 (nI l) (nI (s + 1)) (dI_ D2 363 s (nI r)) := by
      intro r D2 hr
      rw [e126_92]
      simp (disch := omega) only [nI_add, pk_mul, nI_clamp, nI_leI, nI_ltI, nI_eq, inb_, iz1_, iz2_, iz3_, iz4_, iz5_, reduceIte, if_pos, if_neg, op_os, op_vIs, op_vLs, op_vRs, op_vNs, dI_at, dL_at, dI_2, dL_1, Nat.reduceEqDiff, Nat.reduceAdd, Nat.reduceMul, false_and, and_false, true_and, and_true, ne_eq, not_true_eq_false, not_false_eq_true, b2_z, b2_o, b2_n, b2_01, nar_b, nar_0, nar_1, Bool.false_eq_true, Bool.true_eq_false, hbE.2.1, t5 s (Nat.le_refl s) hs, hbE.2.2.1 s l hs hl, g2, e124_0]
      rw [(hk_1 _).2, hr]
      simp (disch := omega) only [nI_add, pk_mul, nI_clamp, nI_leI, nI_ltI, nI_eq, inb_, iz1_, iz2_, iz3_, iz4_, iz5_, reduceIte, if_pos, if_neg, op_os, op_vIs, op_vLs, op_vRs, op_vNs, dI_at, dL_at, dI_2, dL_1, Nat.reduceEqDiff, Nat.reduceAdd, Nat.reduceMul, false_and, and_false, true_and, and_true, ne_eq, not_true_eq_false, not_false_eq_true, b2_z, b2_o, b2_n, b2_01, nar_b, nar_0, nar_1, Bool.false_eq_true, Bool.true_eq_false]
    have nxt : ∀ v p, p < s → (if p = s then v else c' p) = c' p := fun v p hp => if_neg (by omega)
    by_cases z : ∃ p, p < s ∧ 4096 * c p + c0 (M.2.2.2.1 p l) = 4096 * c s + c0 (M.2.2.2.1 s l)
    · obtain ⟨p, hp, ep⟩ := z
      have hr := x124i (w := w) (d := d) (key := 4096 * c s + c0 (M.2.2.2.1 s l)) t3 (by omega) kb ki (t1.2.2.1 p hp) (by rw [t4 p hp]; exact ep)
      refine ⟨_, start _ _ hr, ⟨fun q => if q = s then c' p else c' q, m', kk, cn_o hE t1 (nxt _) hp ((cod p s (by omega) hs).mp ep) (if_pos rfl), fun q hq => ?_, ?_, fun q hq => ?_⟩, fun q q1 q2 => ?_, fx_1 t6 (by omega)⟩
      · simp (disch := omega) only [nI_add, pk_mul, nI_clamp, nI_leI, nI_ltI, nI_eq, inb_, iz1_, iz2_, iz3_, iz4_, iz5_, reduceIte, op_os, op_vIs, op_vLs, op_vRs, op_vNs, dI_at, dL_at, dI_2, dL_1, Nat.reduceEqDiff, Nat.reduceAdd, Nat.reduceMul, false_and, and_false, true_and, and_true, ne_eq, not_true_eq_false, not_false_eq_true, b2_z, b2_o, b2_n, b2_01, nar_b, nar_0, nar_1, Bool.false_eq_true, Bool.true_eq_false]
        by_cases y : q = s
        · rw [if_pos y, if_pos y]
        · rw [if_neg y, if_neg y]
          exact t2 q (by omega)
      · exact tb_fr t3 (by rw [dI_ne (by decide)]) (dI_ne (by decide)) (dI_ne (by decide))
      · dsimp only
        by_cases y : q = s
        · rw [if_pos y, y, t4 p hp, ep]
        · rw [if_neg y]
          exact t4 q (by omega)
      · simp (disch := omega) only [nI_add, pk_mul, nI_clamp, nI_leI, nI_ltI, nI_eq, inb_, iz1_, iz2_, iz3_, iz4_, iz5_, reduceIte, if_pos, if_neg, op_os, op_vIs, op_vLs, op_vRs, op_vNs, dI_at, dL_at, dI_2, dL_1, Nat.reduceEqDiff, Nat.reduceAdd, Nat.reduceMul, false_and, and_false, true_and, and_true, ne_eq, not_true_eq_false, not_false_eq_true, b2_z, b2_o, b2_n, b2_01, nar_b, nar_0, nar_1, Bool.false_eq_true, Bool.true_eq_false]
        exact t5 q (by omega) q2
    · obtain ⟨D2, r1, r2, r3⟩ := x124n (w := w) (d := d) t3 (by omega) kb (show 4096 * c s + c0 (M.2.2.2.1 s l) < 2 ^ 31 by omega) (fun v hv e => by
        obtain ⟨p, p1, p2, p3⟩ := kp v hv
        exact z ⟨p, p1, by rw [← p3, e]⟩)
      refine ⟨_, start _ _ r1, ⟨fun q => if q = s then m' else c' q, m' + 1, fun v => if v = m' then 4096 * c s + c0 (M.2.2.2.1 s l) else kk v, cn_n hE t1 (nxt _) (fun q hq e => z ⟨q, hq, (cod q s (by omega) hs).mpr e⟩) (if_pos rfl), fun q hq => ?_, ?_, fun q hq => ?_⟩, fun q q1 q2 => ?_, fx_1 (fx_t t6 (fx_w r3 (fun b hb => by omega) (fun j hj => hj))) (by omega)⟩
      · simp (disch := omega) only [nI_add, pk_mul, nI_clamp, nI_leI, nI_ltI, nI_eq, inb_, iz1_, iz2_, iz3_, iz4_, iz5_, reduceIte, op_os, op_vIs, op_vLs, op_vRs, op_vNs, dI_at, dL_at, dI_2, dL_1, Nat.reduceEqDiff, Nat.reduceAdd, Nat.reduceMul, false_and, and_false, true_and, and_true, ne_eq, not_true_eq_false, not_false_eq_true, b2_z, b2_o, b2_n, b2_01, nar_b, nar_0, nar_1, Bool.false_eq_true, Bool.true_eq_false]
        by_cases y : q = s
        · rw [if_pos y, if_pos y]
        · rw [if_neg y, if_neg y, r3.1 363 (by omega) (by omega)]
          exact t2 q (by omega)
      · exact tb_fr r2 (by rw [dI_ne (by decide)]) (dI_ne (by decide)) (dI_ne (by decide))
      · dsimp only
        by_cases y : q = s
        · rw [if_pos y, if_pos rfl, y]
        · rw [if_neg y, if_neg (by have := t1.2.2.1 q (by omega); omega)]
          exact t4 q (by omega)
      · simp (disch := omega) only [nI_add, pk_mul, nI_clamp, nI_leI, nI_ltI, nI_eq, inb_, iz1_, iz2_, iz3_, iz4_, iz5_, reduceIte, if_pos, if_neg, op_os, op_vIs, op_vLs, op_vRs, op_vNs, dI_at, dL_at, dI_2, dL_1, Nat.reduceEqDiff, Nat.reduceAdd, Nat.reduceMul, false_and, and_false, true_and, and_true, ne_eq, not_true_eq_false, not_false_eq_true, b2_z, b2_o, b2_n, b2_01, nar_b, nar_0, nar_1, Bool.false_eq_true, Bool.true_eq_false]
        rw [r3.1 363 (by omega) (by omega)]
        exact t5 q (by omega) q2) ⟨⟨fun _ => 0, 0, fun _ => 0, cn_0 _ _, fun p hp => absurd hp (by omega), a2, fun p hp => absurd hp (by omega)⟩, fun p _ hp => by rw [a3.1 363 (by omega) (by omega)]; exact w1 p hp, fx_w a3 (fun b hb => by omega) (fun j hj => hj)⟩
  refine ⟨D', c', m', ?_, e2, e4.1, e3, e7⟩
  rw [e126_77]
  simp (disch := omega) only [nI_add, pk_mul, nI_clamp, nI_leI, nI_ltI, nI_eq, inb_, iz1_, iz2_, iz3_, iz4_, iz5_, reduceIte, if_pos, if_neg, op_os, op_vIs, op_vLs, op_vRs, op_vNs, dI_at, dL_at, dI_2, dL_1, Nat.reduceEqDiff, Nat.reduceAdd, Nat.reduceMul, false_and, and_false, true_and, and_true, ne_eq, not_true_eq_false, not_false_eq_true, b2_z, b2_o, b2_n, b2_01, nar_b, nar_0, nar_1, Bool.false_eq_true, Bool.true_eq_false, hb.1, a1]
  refine Eq.trans (show _ = k126_92 w (d + 2) i1 (nI l) (nI (M.2.1)) D' from e1) ?_
  rw [e126_92]
  simp (disch := omega) only [nI_add, pk_mul, nI_clamp, nI_leI, nI_ltI, nI_eq, inb_, iz1_, iz2_, iz3_, iz4_, iz5_, reduceIte, if_pos, if_neg, op_os, op_vIs, op_vLs, op_vRs, op_vNs, dI_at, dL_at, dI_2, dL_1, Nat.reduceEqDiff, Nat.reduceAdd, Nat.reduceMul, false_and, and_false, true_and, and_true, ne_eq, not_true_eq_false, not_false_eq_true, b2_z, b2_o, b2_n, b2_01, nar_b, nar_0, nar_1, Bool.false_eq_true, Bool.true_eq_false, (bg_fx hb e7 (by omega) (by omega) (by omega) (by omega)).2.1, Nat.le_refl]
/-- the letters of one round -/
theorem x126l {c0 : Nat → Nat} {r : Nat} {i1 : Int32} (hM : wm_ M) (hn : M.2.1 ≤ 3600) (h2 : ∀ p q, p < M.2.1 → q < M.2.1 → (c0 p = c0 q ↔ mrr_ M r p q)) (b2 : ∀ p, p < M.2.1 → c0 p < 3600) (hb : bg_ D M) (w2 : nwr_ D 362 (M.2.1) c0) (w1 : nwr_ D 363 (M.2.1) c0) : ∀ l, l ≤ M.1 → ∃ D' c', k126_77 w (d + 2) i1 (nI 0) D = k126_77 w (d + 2) i1 (nI l) D' ∧ (∀ p q, p < M.2.1 → q < M.2.1 → (c' p = c' q ↔ el_ M r l p q)) ∧ (∀ p, p < M.2.1 → c' p < 3600) ∧ nwr_ D' 363 (M.2.1) c' ∧ fx_ (fun b => b = 363 ∨ b = 364 ∨ b = 365) (fun j => j = 18) D D' ∧ (l ≠ 0 → ∃ m', cnu_ (M.2.1) (el_ M r l) c' m' ∧ D'.1 351 18 = nI m') := by
  intro l
  induction l with
  | zero =>
    intro _
    exact ⟨D, c0, rfl, fun p q hp hq => (h2 p q hp hq).trans ⟨fun h => ⟨h, fun j hj => absurd hj (by omega)⟩, fun h => h.1⟩, b2, w1, fx_r _ _ D, fun h => absurd rfl h⟩
  | succ l ih =>
    intro hl
    obtain ⟨D1, c1, a1, a2, a3, a4, a5, a6⟩ := ih (by omega)
    have hE : qv1_ fun p q => el_ M r l p q ∧ mrr_ M r (M.2.2.2.1 p l) (M.2.2.2.1 q l) := by
      obtain ⟨b1, b2, b3⟩ := el_qv M r (l + 1)
      exact ⟨fun p => (el_s M r l p p).mp (b1 p), fun p q z => (el_s M r l q p).mp (b2 _ _ ((el_s M r l p q).mpr z)), fun p q s z y => (el_s M r l p s).mp (b3 _ _ _ ((el_s M r l p q).mpr z) ((el_s M r l q s).mpr y))⟩
    obtain ⟨D2, c2, m2, e1, e2, e3, e4, e5⟩ := x126p (w := w) (d := d) (i1 := i1) hM (bg_fx hb a5 (by omega) (by omega) (by omega) (by omega)) hn (show l < M.1 by omega) hE a2 h2 a3 b2 a4 (fun p hp => by rw [a5.1 362 (by omega) (by omega)]; exact w2 p hp)
    have e2' := cn_c (E' := el_ M r (l + 1)) e2 (fun p q _ _ => (el_s M r l p q).symm) (fun _ _ => rfl)
    have := cn_m e2'
    exact ⟨D2, c2, a1.trans e1, e2'.1, fun p hp => by have := e2'.2.2.1 p hp; omega, e4, fx_t a5 e5, fun _ => ⟨m2, e2', e3⟩⟩
/-- the loop of rounds -/
theorem x126r (hM : wm_ M) (hn : M.2.1 ≤ 3600) : ∀ u r bf nw (E : dy_) c, 3601 ≤ nw + u → bg_ E M → (∀ p q, p < M.2.1 → q < M.2.1 → (c p = c q ↔ mrr_ M r p q)) → (∀ p, p < M.2.1 → c p < 3600) → nwr_ E 362 (M.2.1) c → nw ≤ 3600 → bf ≤ 3600 → (r = 0 → bf = 0 ∧ nw = 1) → (r = 1 → bf = 1) → (2 ≤ r → bf = mct_ M (r - 1)) → (r ≠ 0 → cnu_ (M.2.1) (mrr_ M r) c nw) → ∃ D', k126_40 w (d + 2) (nI bf) (nI nw) E = some (none, D') ∧ nwr_ D' 362 (M.2.1) (nfs_ M) ∧ fx_ ff_ (fun j => j = 18) E D' := by
  intro u
  induction u with
  | zero =>
    intro r bf nw E c hu
    intros
    omega
  | succ u ih =>
    intro r bf nw E c hu hb h1 b1 w1 hnw hbf r0 r1 r2 hcn
    have hk := hM.1
    rw [e126_40]
    by_cases z : nw ≤ bf
    · have hr : r ≠ 0 := fun y => by
        have := r0 y
        omega
      have g1 := hcn hr
      have g2 : nw = mct_ M r := (cn_u g1 (nc_1 (mo_qv M r) _)).2
      have g3 : mct_ M (r - 1 + 1) ≤ mct_ M (r - 1) := by
        rw [show r - 1 + 1 = r by omega, ← g2]
        by_cases y : r = 1
        · have := r1 y
          have h0 : 1 ≤ mct_ M (r - 1) := Nat.lt_of_le_of_lt (Nat.zero_le _) ((nc_1 (mo_qv M (r - 1)) (M.2.1)).2.2.1 0 hM.2.1)
          omega
        · rw [← r2 (by omega)]
          exact z
      have g4 := ct_fin hM g3 (show r - 1 ≤ r by omega) g1
      have g5 := cn_u g4 (nf_1 M)
      refine ⟨E, ?_, fun p hp => by rw [← g5.1 p hp]; exact w1 p hp, fx_r _ _ E⟩
      simp (disch := omega) only [nI_add, pk_mul, nI_clamp, nI_leI, nI_ltI, nI_eq, inb_, iz1_, iz2_, iz3_, iz4_, iz5_, reduceIte, if_pos, if_neg, op_os, op_vIs, op_vLs, op_vRs, op_vNs, dI_at, dL_at, dI_2, dL_1, Nat.reduceEqDiff, Nat.reduceAdd, Nat.reduceMul, false_and, and_false, true_and, and_true, ne_eq, not_true_eq_false, not_false_eq_true, b2_z, b2_o, b2_n, b2_01, nar_b, nar_0, nar_1, Bool.false_eq_true, Bool.true_eq_false]
    · obtain ⟨E1, a1, a2, a3⟩ := lp_ (fun s (F : dy_) => k126_49 w (d + 2) (nI nw) (nI s) F) (fun s F => nwr_ F 363 s c ∧ fx_ (fun b => b = 363) (fun _ => False) E F) (M.2.1) (s := E) (by
        rintro s F hs ⟨t1, t2⟩
        refine ⟨dI_ F 363 s (nI (c s)), ?_, fun p hp => ?_, fx_1 t2 (by omega)⟩
        · show k126_49 w (d + 2) (nI nw) (nI s) F = _
          rw [e126_49]
          simp (disch := omega) only [nI_add, pk_mul, nI_clamp, nI_leI, nI_ltI, nI_eq, inb_, iz1_, iz2_, iz3_, iz4_, iz5_, reduceIte, if_pos, if_neg, op_os, op_vIs, op_vLs, op_vRs, op_vNs, dI_at, dL_at, dI_2, dL_1, Nat.reduceEqDiff, Nat.reduceAdd, Nat.reduceMul, false_and, and_false, true_and, and_true, ne_eq, not_true_eq_false, not_false_eq_true, b2_z, b2_o, b2_n, b2_01, nar_b, nar_0, nar_1, Bool.false_eq_true, Bool.true_eq_false, t2.2.1 9 id, hb.2.1, t2.1 362 (by omega) (by omega), w1 s hs]
        · simp (disch := omega) only [nI_add, pk_mul, nI_clamp, nI_leI, nI_ltI, nI_eq, inb_, iz1_, iz2_, iz3_, iz4_, iz5_, reduceIte, op_os, op_vIs, op_vLs, op_vRs, op_vNs, dI_at, dL_at, dI_2, dL_1, Nat.reduceEqDiff, Nat.reduceAdd, Nat.reduceMul, false_and, and_false, true_and, and_true, ne_eq, not_true_eq_false, not_false_eq_true, b2_z, b2_o, b2_n, b2_01, nar_b, nar_0, nar_1, Bool.false_eq_true, Bool.true_eq_false]
          by_cases y : p = s
          · rw [if_pos y, y]
          · rw [if_neg y]
            exact t1 p (by omega)) ⟨fun p hp => absurd hp (by omega), fx_r _ _ E⟩
      have hb1 := bg_fx hb a3 id id (by omega) (by omega)
      obtain ⟨E2, c2, e1, e2, e3, e4, e5, e6⟩ := x126l (w := w) (d := d) (r := r) (i1 := nI nw) hM hn h1 b1 hb1 (fun p hp => by rw [a3.1 362 (by omega) (by omega)]; exact w1 p hp) a2 (M.1) (Nat.le_refl _)
      obtain ⟨m2, e7, e8⟩ := e6 (by omega)
      have e7' : cnu_ (M.2.1) (mrr_ M (r + 1)) c2 m2 := e7
      have hb2 := bg_fx hb1 e5 (by omega) (by omega) (by omega) (by omega)
      have hm2 := cn_m e7'
      obtain ⟨E3, f1, f2, f3⟩ := lp_ (fun s (F : dy_) => k126_154 w (d + 2) (nI nw) (nI m2) (nI s) F) (fun s F => nwr_ F 362 s c2 ∧ fx_ (fun b => b = 362) (fun _ => False) E2 F) (M.2.1) (s := E2) (by
        rintro s F hs ⟨t1, t2⟩
        refine ⟨dI_ F 362 s (nI (c2 s)), ?_, fun p hp => ?_, fx_1 t2 (by omega)⟩
        · show k126_154 w (d + 2) (nI nw) (nI m2) (nI s) F = _
          rw [e126_154]
          simp (disch := omega) only [nI_add, pk_mul, nI_clamp, nI_leI, nI_ltI, nI_eq, inb_, iz1_, iz2_, iz3_, iz4_, iz5_, reduceIte, if_pos, if_neg, op_os, op_vIs, op_vLs, op_vRs, op_vNs, dI_at, dL_at, dI_2, dL_1, Nat.reduceEqDiff, Nat.reduceAdd, Nat.reduceMul, false_and, and_false, true_and, and_true, ne_eq, not_true_eq_false, not_false_eq_true, b2_z, b2_o, b2_n, b2_01, nar_b, nar_0, nar_1, Bool.false_eq_true, Bool.true_eq_false, t2.2.1 9 id, hb2.2.1, t2.1 363 (by omega) (by omega), e4 s hs]
        · simp (disch := omega) only [nI_add, pk_mul, nI_clamp, nI_leI, nI_ltI, nI_eq, inb_, iz1_, iz2_, iz3_, iz4_, iz5_, reduceIte, op_os, op_vIs, op_vLs, op_vRs, op_vNs, dI_at, dL_at, dI_2, dL_1, Nat.reduceEqDiff, Nat.reduceAdd, Nat.reduceMul, false_and, and_false, true_and, and_true, ne_eq, not_true_eq_false, not_false_eq_true, b2_z, b2_o, b2_n, b2_01, nar_b, nar_0, nar_1, Bool.false_eq_true, Bool.true_eq_false]
          by_cases y : p = s
          · rw [if_pos y, y]
          · rw [if_neg y]
            exact t1 p (by omega)) ⟨fun p hp => absurd hp (by omega), fx_r _ _ E2⟩
      have hb3 := bg_fx hb2 f3 id id (by omega) (by omega)
      have fr : fx_ ff_ (fun j => j = 18) E E3 := fx_t (fx_w a3 (fun b hb => by unfold ff_; omega) (fun j hj => hj.elim)) (fx_t (fx_w e5 (fun b hb => by unfold ff_; omega) (fun j hj => hj)) (fx_w f3 (fun b hb => by unfold ff_; omega) (fun j hj => hj.elim)))
      have st : k126_49 w (d + 2) (nI nw) (nI 0) E = k126_40 w (d + 2) (nI nw) (nI m2) E3 := by
        refine Eq.trans (show _ = k126_49 w (d + 2) (nI nw) (nI (M.2.1)) E1 from a1) ?_
        rw [e126_49]
        simp (disch := omega) only [nI_add, pk_mul, nI_clamp, nI_leI, nI_ltI, nI_eq, inb_, iz1_, iz2_, iz3_, iz4_, iz5_, reduceIte, if_pos, if_neg, op_os, op_vIs, op_vLs, op_vRs, op_vNs, dI_at, dL_at, dI_2, dL_1, Nat.reduceEqDiff, Nat.reduceAdd, Nat.reduceMul, false_and, and_false, true_and, and_true, ne_eq, not_true_eq_false, not_false_eq_true, b2_z, b2_o, b2_n, b2_01, nar_b, nar_0, nar_1, Bool.false_eq_true, Bool.true_eq_false, hb1.2.1, Nat.le_refl]
        rw [e1, e126_77]
        simp (disch := omega) only [nI_add, pk_mul, nI_clamp, nI_leI, nI_ltI, nI_eq, inb_, iz1_, iz2_, iz3_, iz4_, iz5_, reduceIte, if_pos, if_neg, op_os, op_vIs, op_vLs, op_vRs, op_vNs, dI_at, dL_at, dI_2, dL_1, Nat.reduceEqDiff, Nat.reduceAdd, Nat.reduceMul, false_and, and_false, true_and, and_true, ne_eq, not_true_eq_false, not_false_eq_true, b2_z, b2_o, b2_n, b2_01, nar_b, nar_0, nar_1, Bool.false_eq_true, Bool.true_eq_false, hb2.1, Nat.le_refl, e8]
        refine Eq.trans (show _ = k126_154 w (d + 2) (nI nw) (nI m2) (nI (M.2.1)) E3 from f1) ?_
        rw [e126_154]
        simp (disch := omega) only [nI_add, pk_mul, nI_clamp, nI_leI, nI_ltI, nI_eq, inb_, iz1_, iz2_, iz3_, iz4_, iz5_, reduceIte, if_pos, if_neg, op_os, op_vIs, op_vLs, op_vRs, op_vNs, dI_at, dL_at, dI_2, dL_1, Nat.reduceEqDiff, Nat.reduceAdd, Nat.reduceMul, false_and, and_false, true_and, and_true, ne_eq, not_true_eq_false, not_false_eq_true, b2_z, b2_o, b2_n, b2_01, nar_b, nar_0, nar_1, Bool.false_eq_true, Bool.true_eq_false, hb3.2.1, Nat.le_refl]
      have hmm : r ≠ 0 → nw = mct_ M r := fun y => (cn_u (hcn y) (nc_1 (mo_qv M r) _)).2
      have hm2' : m2 = mct_ M (r + 1) := (cn_u e7' (nc_1 (mo_qv M (r + 1)) _)).2
      by_cases y : m2 ≤ nw
      · -- the next look ends it
        have g3 : mct_ M (r + 1) ≤ mct_ M r := by
          rw [← hm2']
          by_cases x : r = 0
          · have h0 : 1 ≤ mct_ M r := Nat.lt_of_le_of_lt (Nat.zero_le _) ((nc_1 (mo_qv M r) (M.2.1)).2.2.1 0 hM.2.1)
            have := (r0 x).2
            omega
          · rw [← hmm x]
            exact y
        have g4 := ct_fin hM g3 (Nat.le_succ r) e7'
        have g5 := cn_u g4 (nf_1 M)
        refine ⟨E3, ?_, fun p hp => by rw [← g5.1 p hp]; exact f2 p hp, fr⟩
        simp (disch := omega) only [nI_add, pk_mul, nI_clamp, nI_leI, nI_ltI, nI_eq, inb_, iz1_, iz2_, iz3_, iz4_, iz5_, reduceIte, if_pos, if_neg, op_os, op_vIs, op_vLs, op_vRs, op_vNs, dI_at, dL_at, dI_2, dL_1, Nat.reduceEqDiff, Nat.reduceAdd, Nat.reduceMul, false_and, and_false, true_and, and_true, ne_eq, not_true_eq_false, not_false_eq_true, b2_z, b2_o, b2_n, b2_01, nar_b, nar_0, nar_1, Bool.false_eq_true, Bool.true_eq_false]
        rw [st, e126_40]
        simp (disch := omega) only [nI_add, pk_mul, nI_clamp, nI_leI, nI_ltI, nI_eq, inb_, iz1_, iz2_, iz3_, iz4_, iz5_, reduceIte, if_pos, if_neg, op_os, op_vIs, op_vLs, op_vRs, op_vNs, dI_at, dL_at, dI_2, dL_1, Nat.reduceEqDiff, Nat.reduceAdd, Nat.reduceMul, false_and, and_false, true_and, and_true, ne_eq, not_true_eq_false, not_false_eq_true, b2_z, b2_o, b2_n, b2_01, nar_b, nar_0, nar_1, Bool.false_eq_true, Bool.true_eq_false]
      · obtain ⟨D', i1, i2, i3⟩ := ih (r + 1) nw m2 E3 c2 (by omega) hb3 e2 e3 f2 (by omega) hnw (fun x => absurd x (by omega)) (fun x => by
          have : r = 0 := by omega
          exact (r0 this).2) (fun x => by
          rw [Nat.add_sub_cancel]
          exact hmm (by omega)) (fun _ => e7')
        refine ⟨D', ?_, i2, fx_t fr i3⟩
        simp (disch := omega) only [nI_add, pk_mul, nI_clamp, nI_leI, nI_ltI, nI_eq, inb_, iz1_, iz2_, iz3_, iz4_, iz5_, reduceIte, if_pos, if_neg, op_os, op_vIs, op_vLs, op_vRs, op_vNs, dI_at, dL_at, dI_2, dL_1, Nat.reduceEqDiff, Nat.reduceAdd, Nat.reduceMul, false_and, and_false, true_and, and_true, ne_eq, not_true_eq_false, not_false_eq_true, b2_z, b2_o, b2_n, b2_01, nar_b, nar_0, nar_1, Bool.false_eq_true, Bool.true_eq_false]
        rw [st]
        exact i1
/-- findClasses -/
theorem x126 (hM : wm_ M) (hb : bg_ D M) (hn : M.2.1 ≤ 3600) : ∃ D', k126_0 w (d + 2) D = some (none, D') ∧ nwr_ D' 362 (M.2.1) (nfs_ M) ∧ fx_ ff_ (fun j => j = 18) D D' := by
  have h1 := hM.2.1
  let c : Nat → Nat := fun p => if M.2.2.2.2 p then 1 else 0
  rw [e126_0]
  obtain ⟨E, a1, a2, a3⟩ := lp_ (fun s (F : dy_) => k126_2 w (d + 2) (nI s) F) (fun s F => nwr_ F 362 s c ∧ fx_ (fun b => b = 362) (fun _ => False) D F) (M.2.1) (s := D) (by
    rintro s F hs ⟨t1, t2⟩
    refine ⟨dI_ F 362 s (nI (c s)), ?_, fun p hp => ?_, fx_1 t2 (by omega)⟩
    · show k126_2 w (d + 2) (nI s) F = _
      rw [e126_2]
      simp (disch := omega) only [nI_add, pk_mul, nI_clamp, nI_leI, nI_ltI, nI_eq, inb_, iz1_, iz2_, iz3_, iz4_, iz5_, reduceIte, if_pos, if_neg, op_os, op_vIs, op_vLs, op_vRs, op_vNs, dI_at, dL_at, dI_2, dL_1, Nat.reduceEqDiff, Nat.reduceAdd, Nat.reduceMul, false_and, and_false, true_and, and_true, ne_eq, not_true_eq_false, not_false_eq_true, b2_z, b2_o, b2_n, b2_01, nar_b, nar_0, nar_1, Bool.false_eq_true, Bool.true_eq_false, t2.2.1 9 id, hb.2.1, t2.1 359 (by omega) (by omega), hb.2.2.2 s hs]
      show (if M.2.2.2.2 s = false then _ else _) = _
      have : c s = if M.2.2.2.2 s then 1 else 0 := rfl
      rw [this]
      cases M.2.2.2.2 s
      · rw [if_pos rfl, e126_29]
        simp (disch := omega) only [nI_add, pk_mul, nI_clamp, nI_leI, nI_ltI, nI_eq, inb_, iz1_, iz2_, iz3_, iz4_, iz5_, reduceIte, if_pos, if_neg, op_os, op_vIs, op_vLs, op_vRs, op_vNs, dI_at, dL_at, dI_2, dL_1, Nat.reduceEqDiff, Nat.reduceAdd, Nat.reduceMul, false_and, and_false, true_and, and_true, ne_eq, not_true_eq_false, not_false_eq_true, b2_z, b2_o, b2_n, b2_01, nar_b, nar_0, nar_1, Bool.false_eq_true, Bool.true_eq_false, sf_362]
      · rw [if_neg (by decide), e126_29]
        simp (disch := omega) only [nI_add, pk_mul, nI_clamp, nI_leI, nI_ltI, nI_eq, inb_, iz1_, iz2_, iz3_, iz4_, iz5_, reduceIte, if_pos, if_neg, op_os, op_vIs, op_vLs, op_vRs, op_vNs, dI_at, dL_at, dI_2, dL_1, Nat.reduceEqDiff, Nat.reduceAdd, Nat.reduceMul, false_and, and_false, true_and, and_true, ne_eq, not_true_eq_false, not_false_eq_true, b2_z, b2_o, b2_n, b2_01, nar_b, nar_0, nar_1, Bool.false_eq_true, Bool.true_eq_false, sf_362]
    · simp (disch := omega) only [nI_add, pk_mul, nI_clamp, nI_leI, nI_ltI, nI_eq, inb_, iz1_, iz2_, iz3_, iz4_, iz5_, reduceIte, op_os, op_vIs, op_vLs, op_vRs, op_vNs, dI_at, dL_at, dI_2, dL_1, Nat.reduceEqDiff, Nat.reduceAdd, Nat.reduceMul, false_and, and_false, true_and, and_true, ne_eq, not_true_eq_false, not_false_eq_true, b2_z, b2_o, b2_n, b2_01, nar_b, nar_0, nar_1, Bool.false_eq_true, Bool.true_eq_false]
      by_cases y : p = s
      · rw [if_pos y, y]
      · rw [if_neg y]
        exact t1 p (by omega)) ⟨fun p hp => absurd hp (by omega), fx_r _ _ D⟩
  have hb1 := bg_fx hb a3 id id (by omega) (by omega)
  obtain ⟨D', i1, i2, i3⟩ := x126r (w := w) (d := d) hM hn 3600 0 0 1 E c (by omega) hb1 (fun p q hp hq => by
    show ((if M.2.2.2.2 p then 1 else 0) = if M.2.2.2.2 q then 1 else 0) ↔ M.2.2.2.2 p = M.2.2.2.2 q
    cases M.2.2.2.2 p <;> cases M.2.2.2.2 q <;> decide) (fun p hp => by
    show (if M.2.2.2.2 p then 1 else 0) < 3600
    cases M.2.2.2.2 p <;> decide) a2 (by omega) (by omega) (fun _ => ⟨rfl, rfl⟩) (fun x => absurd x (by omega)) (fun x => absurd x (by omega)) (fun x => absurd rfl x)
  refine ⟨D', ?_, i2, fx_t (fx_w a3 (fun b hb => by unfold ff_; omega) (fun j hj => hj.elim)) i3⟩
  refine Eq.trans (show _ = k126_2 w (d + 2) (nI (M.2.1)) E from a1) ?_
  rw [e126_2]
  simp (disch := omega) only [nI_add, pk_mul, nI_clamp, nI_leI, nI_ltI, nI_eq, inb_, iz1_, iz2_, iz3_, iz4_, iz5_, reduceIte, if_pos, if_neg, op_os, op_vIs, op_vLs, op_vRs, op_vNs, dI_at, dL_at, dI_2, dL_1, Nat.reduceEqDiff, Nat.reduceAdd, Nat.reduceMul, false_and, and_false, true_and, and_true, ne_eq, not_true_eq_false, not_false_eq_true, b2_z, b2_o, b2_n, b2_01, nar_b, nar_0, nar_1, Bool.false_eq_true, Bool.true_eq_false, hb1.2.1, Nat.le_refl]
  exact i1
end FIND
