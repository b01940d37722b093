section SIM
variable {w : (Nat → Int32) × Nat} {d : Nat} {D : dy_} {S : sp_} {B : Nat}
theorem x108 (hS : ok_ S) (h : rs_ D S) (s p : Int32) : k108_0 w (d + 2) s p D = some (some (.int (b2_ (vs_ S s p))), D) := by
  rw [e108_0, x106s]
  simp (disch := omega) only [nI_add, pk_mul, nI_clamp, nI_leI, nI_ltI, nI_eq, inb_, iz1_, iz2_, iz3_, iz4_, iz5_, reduceIte, if_pos, if_neg, op_os, op_vIs, op_vLs, op_vRs, op_vNs, dI_at, dL_at, dI_2, dL_1, Nat.reduceEqDiff, Nat.reduceAdd, Nat.reduceMul, false_and, and_false, true_and, and_true, ne_eq, not_true_eq_false, not_false_eq_true, b2_z, b2_o, b2_n, b2_01, nar_b, nar_0, nar_1, Bool.false_eq_true, Bool.true_eq_false]
  unfold vs_
  by_cases c : ls_ 6 s = true
  · obtain ⟨i, rfl, hi⟩ := ls_t (by omega) c
    have hn := (hS.1 i hi).2
    rw [c]
    simp (disch := omega) only [nI_add, pk_mul, nI_clamp, nI_leI, nI_ltI, nI_eq, inb_, iz1_, iz2_, iz3_, iz4_, iz5_, reduceIte, if_pos, if_neg, op_os, op_vIs, op_vLs, op_vRs, op_vNs, dI_at, dL_at, dI_2, dL_1, Nat.reduceEqDiff, Nat.reduceAdd, Nat.reduceMul, false_and, and_false, true_and, and_true, ne_eq, not_true_eq_false, not_false_eq_true, b2_z, b2_o, b2_n, b2_01, nar_b, nar_0, nar_1, Bool.false_eq_true, Bool.true_eq_false, sl1_, sl2_, cx7 (sl_ hi).2 (h i hi) (show (S.1 i).2.1 < 2 ^ 31 by omega), Bool.true_and]
    cases ls_ ((S.1 i).2.1) p <;> rfl
  · rw [bf_ c]
    rfl
theorem x116 (hS : ok_ S) (h : ys_ D S) (s p : Int32) : k116_0 w (d + 3) s p D = some (some (.int (b2_ (vs_ S s p))), D) := by
  rw [e116_0, x114s]
  simp (disch := omega) only [nI_add, pk_mul, nI_clamp, nI_leI, nI_ltI, nI_eq, inb_, iz1_, iz2_, iz3_, iz4_, iz5_, reduceIte, if_pos, if_neg, op_os, op_vIs, op_vLs, op_vRs, op_vNs, dI_at, dL_at, dI_2, dL_1, Nat.reduceEqDiff, Nat.reduceAdd, Nat.reduceMul, false_and, and_false, true_and, and_true, ne_eq, not_true_eq_false, not_false_eq_true, b2_z, b2_o, b2_n, b2_01, nar_b, nar_0, nar_1, Bool.false_eq_true, Bool.true_eq_false]
  unfold vs_
  by_cases c : ls_ 6 s = true
  · obtain ⟨i, rfl, hi⟩ := ls_t (by omega) c
    have hn := hS.1 i hi
    rw [c]
    simp (disch := omega) only [nI_add, pk_mul, nI_clamp, nI_leI, nI_ltI, nI_eq, inb_, iz1_, iz2_, iz3_, iz4_, iz5_, reduceIte, if_pos, if_neg, op_os, op_vIs, op_vLs, op_vRs, op_vNs, dI_at, dL_at, dI_2, dL_1, Nat.reduceEqDiff, Nat.reduceAdd, Nat.reduceMul, false_and, and_false, true_and, and_true, ne_eq, not_true_eq_false, not_false_eq_true, b2_z, b2_o, b2_n, b2_01, nar_b, nar_0, nar_1, Bool.false_eq_true, Bool.true_eq_false, (h i hi).2.1, x111n (show 1 ≤ (S.1 i).2.1 from hn.1.2.1) (show (S.1 i).2.1 < 2 ^ 31 by omega), Bool.true_and]
    cases ls_ ((S.1 i).2.1) p <;> rfl
  · rw [bf_ c]
    rfl
theorem pl_inj {k p p' l l' : Nat} (hl : l < k) (hl' : l' < k) : p' * k + l' = p * k + l ↔ p' = p ∧ l' = l := by
  constructor
  · intro h
    have h1 : (p' * k + l') / k = (p * k + l) / k := by rw [h]
    rw [Nat.mul_comm p' k, Nat.mul_comm p k, Nat.mul_add_div (by omega), Nat.mul_add_div (by omega), Nat.div_eq_of_lt hl, Nat.div_eq_of_lt hl'] at h1
    have h2 : p' = p := by omega
    subst h2
    exact ⟨rfl, by omega⟩
  · rintro ⟨rfl, rfl⟩
    rfl
def us_ (S : sp_) (i : Nat) (M : ma_) : sp_ := (fun j => if j = i then M else S.1 j, S.2)
theorem us_ok {i : Nat} {M : ma_} (hS : ok_ S) (hw : wm_ M) (hn : M.2.1 ≤ 60) : ok_ (us_ S i M) := by
  refine ⟨fun j hj => ?_, hS.2⟩
  show wm_ (if j = i then M else S.1 j) ∧ (if j = i then M else S.1 j).2.1 ≤ 60
  by_cases h : j = i
  · rw [if_pos h]
    exact ⟨hw, hn⟩
  · rw [if_neg h]
    exact hS.1 j hj
/-- cells that a call upon slot i may change -/
def wk_ (i b : Nat) : Prop := (3 + 3 * i ≤ b ∧ b ≤ 3 + 3 * i + 2) ∨ (24 ≤ b ∧ b ≤ 29) ∨ (36 ≤ b ∧ b ≤ 341)
theorem rc_us {D' : dy_} {i B' : Nat} {M : ma_} (h : rc_ D S B) (hi : i < 6) (hc : cm_ D' (3 + 3 * i) M) (hk : ∀ b, ¬ wk_ i b → D'.1 b = D.1 b) (hs : rsp_ D' B') : rc_ D' (us_ S i M) B' := by
  obtain ⟨h1, h2, h3, h4, h5⟩ := h
  have kk : ∀ b, ¬ (3 + 3 * i ≤ b ∧ b ≤ 3 + 3 * i + 2) → ¬ (24 ≤ b ∧ b ≤ 29) → ¬ (36 ≤ b ∧ b ≤ 341) → D'.1 b = D.1 b := by
    intro b q1 q2 q3
    refine hk b ?_
    rintro (q | q | q)
    · exact q1 q
    · exact q2 q
    · exact q3 q
  refine ⟨fun j hj => ?_, ?_, ?_, ⟨cm_fr h4.1 (kk _ (by omega) (by omega) (by omega)) (kk _ (by omega) (by omega) (by omega)) (kk _ (by omega) (by omega) (by omega)), cm_fr h4.2 (kk _ (by omega) (by omega) (by omega)) (kk _ (by omega) (by omega) (by omega)) (kk _ (by omega) (by omega) (by omega))⟩, hs⟩
  · show cm_ D' (3 + 3 * j) (if j = i then M else S.1 j)
    by_cases q : j = i
    · rw [if_pos q, q]
      exact hc
    · rw [if_neg q]
      exact cm_fr (h1 j hj) (kk _ (by omega) (by omega) (by omega)) (kk _ (by omega) (by omega) (by omega)) (kk _ (by omega) (by omega) (by omega))
  · unfold rtp_ at *
    rw [kk 21 (by omega) (by omega) (by omega), kk 22 (by omega) (by omega) (by omega)]
    exact h2
  · unfold rmp_ at *
    rw [kk 342 (by omega) (by omega) (by omega), kk 346 (by omega) (by omega) (by omega)]
    exact ⟨h3.1, fun q => ⟨cm_fr (h3.2 q).1 (kk _ (by omega) (by omega) (by omega)) (kk _ (by omega) (by omega) (by omega)) (kk _ (by omega) (by omega) (by omega)), (h3.2 q).2⟩⟩
theorem rsp_fr {D' : dy_} (h : rsp_ D B) (h1 : D'.1 41 = D.1 41) (h2 : D'.1 44 = D.1 44) (h3 : D'.1 24 = D.1 24) : rsp_ D' B := by
  unfold rsp_ at *
  rw [h1, h2, h3]
  exact h
theorem mr_us {D' : dy_} {i : Nat} {M : ma_} (h : mr_ D S) (hm : rm_ D' i M) (ho : ∀ j, j < 6 → j ≠ i → rm_ D j (S.1 j) → rm_ D' j (S.1 j)) (hf : ∀ j, (j = 7 ∨ j = 47 ∨ j = 48 ∨ j = 49) → D'.1 351 j = D.1 351 j) (hc : ∀ b, (b = 357 ∨ b = 384 ∨ b = 385) → D'.1 b = D.1 b) : mr_ D' (us_ S i M) := by
  obtain ⟨h1, h2, h3⟩ := h
  refine ⟨fun j hj => ?_, ?_, ?_⟩
  · show rm_ D' j (if j = i then M else S.1 j)
    by_cases q : j = i
    · rw [if_pos q, q]
      exact hm
    · rw [if_neg q]
      exact ho j hj q (h1 j hj)
  · unfold yt_ at *
    rw [hf 7 (by omega), hc 357 (by omega)]
    exact h2
  · unfold ym_ at *
    rw [hf 47 (by omega), hf 48 (by omega), hf 49 (by omega), hc 384 (by omega), hc 385 (by omega)]
    exact h3
theorem rm_om {D' : dy_} {i j : Nat} {M : ma_} (hw : M.2.1 ≤ 60 ∧ M.1 ≤ 4) (h : rm_ D j M) (g : om_ i D D') (hj : j ≠ i) : rm_ D' j M := by
  obtain ⟨h1, h2, h3, h4, h5⟩ := h
  obtain ⟨g0, g1, g2, g3, g4, g5⟩ := g
  refine ⟨(g3 _ _ (by omega) hj).trans h1, (g3 _ _ (by omega) hj).trans h2, (g3 _ _ (by omega) hj).trans h3, fun p l hp hl => (g4 _ (by omega)).trans (h4 p l hp hl), fun p hp => (g5 _ (by omega)).trans (h5 p hp)⟩
theorem mr_om {D' : dy_} {i : Nat} {M : ma_} (hS : ok_ S) (h : mr_ D S) (hm : rm_ D' i M) (g : om_ i D D') : mr_ D' (us_ S i M) :=
  mr_us h hm (fun j hj hji r => rm_om ⟨(hS.1 j hj).2, (hS.1 j hj).1.1.2⟩ r g hji) (fun j hj => g.2.2.1 j (by omega)) (fun b hb => g.2.1 b (by omega))
theorem lw_om {D' : dy_} {i : Nat} (g : om_ i D D') : lw_ D D' := fun b hb => ⟨g.2.1 b (by omega), by rw [g.1]⟩
/-- go and accepts of the reference -/
theorem x112 {m : Nat} {M : ma_} (hm : m < 110) (hw : M.2.1 ≤ 60 ∧ M.1 ≤ 4) (h : rm_ D m M) {p l : Nat} (hp : p < M.2.1) (hl : l < M.1) : k112_0 w (d + 1) (nI m) (nI p) (nI l) D = some (some (.int (nI (M.2.2.2.1 p l))), D) := by
  rw [e112_0]
  simp (disch := omega) only [nI_add, pk_mul, nI_clamp, nI_leI, nI_ltI, nI_eq, inb_, iz1_, iz2_, iz3_, iz4_, iz5_, reduceIte, if_pos, if_neg, op_os, op_vIs, op_vLs, op_vRs, op_vNs, dI_at, dL_at, dI_2, dL_1, Nat.reduceEqDiff, Nat.reduceAdd, Nat.reduceMul, false_and, and_false, true_and, and_true, ne_eq, not_true_eq_false, not_false_eq_true, b2_z, b2_o, b2_n, b2_01, nar_b, nar_0, nar_1, Bool.false_eq_true, Bool.true_eq_false, h.2.2.2.1 p l hp hl]
theorem x113 {m : Nat} {M : ma_} (hm : m < 110) (hw : M.2.1 ≤ 60 ∧ M.1 ≤ 4) (h : rm_ D m M) {p : Nat} (hp : p < M.2.1) : k113_0 w (d + 1) (nI m) (nI p) D = some (some (.int (b2_ (M.2.2.2.2 p))), D) := by
  rw [e113_0]
  simp (disch := omega) only [nI_add, pk_mul, nI_clamp, nI_leI, nI_ltI, nI_eq, inb_, iz1_, iz2_, iz3_, iz4_, iz5_, reduceIte, if_pos, if_neg, op_os, op_vIs, op_vLs, op_vRs, op_vNs, dI_at, dL_at, dI_2, dL_1, Nat.reduceEqDiff, Nat.reduceAdd, Nat.reduceMul, false_and, and_false, true_and, and_true, ne_eq, not_true_eq_false, not_false_eq_true, b2_z, b2_o, b2_n, b2_01, nar_b, nar_0, nar_1, Bool.false_eq_true, Bool.true_eq_false, h.2.2.2.2 p hp]
end SIM
section SIMPLE
variable {w : (Nat → Int32) × Nat} {d : Nat} {S : sp_} {B : Nat}
theorem bo_edge (hS : ok_ S) (s p l q : Int32) : bo_ S B (fun D => k83_0 w (d + 200) s p l q D) (fun D => k117_0 w (d + 200) s p l q D) := by
  by_cases c1 : vs_ S s p = true
  · obtain ⟨i, p, rfl, rfl, hi, hp⟩ := vs_t hS c1
    have hM := hS.1 i hi
    obtain ⟨⟨⟨hk1, hk4⟩, hn1, hs, hwf⟩, hn⟩ := hM
    by_cases c2 : vs_ S (nI i) q = true ∧ ls_ ((S.1 i).1) l = true
    · obtain ⟨c2, c3⟩ := c2
      obtain ⟨i', q, e, rfl, hi', hq⟩ := vs_t hS c2
      obtain rfl : i = i' := (nI_eq (by omega) (by omega)).mp e
      obtain ⟨l, rfl, hl⟩ := ls_t (by omega) c3
      have hpl : p * (S.1 i).1 + l < 60 * 4 := Nat.lt_of_lt_of_le (mul_in hp hl) (Nat.mul_le_mul hn hk4)
      refine bo_i (.int (nI ((S.1 i).2.2.2.1 p l))) (us_ S i ((S.1 i).1, (S.1 i).2.1, (S.1 i).2.2.1, fun p' l' => if p' = p ∧ l' = l then q else (S.1 i).2.2.2.1 p' l', (S.1 i).2.2.2.2)) (us_ok hS ⟨⟨hk1, hk4⟩, hn1, hs, fun p' l' hp' hl' => ?_⟩ hn) (fun D h => ?_) (fun D h => ?_)
      · show (if p' = p ∧ l' = l then q else (S.1 i).2.2.2.1 p' l') < (S.1 i).2.1
        by_cases e : p' = p ∧ l' = l
        · rw [if_pos e]; exact hq
        · rw [if_neg e]; exact hwf p' l' hp' hl'
      · have hc := h.1 i hi
        refine ⟨dI_ D (3 + 3 * i + 1) (p * (S.1 i).1 + l) (nI q), ?_, rc_us h hi ?_ (fun b hb => ?_) (rsp_m (rsp_fr h.2.2.2.2 ?_ ?_ ?_) (by omega)), hi_I (by omega)⟩
        · rw [e83_0, x108 hS h.1, c1]
          simp (disch := omega) only [nI_add, pk_mul, nI_clamp, nI_leI, nI_ltI, nI_eq, inb_, iz1_, iz2_, iz3_, iz4_, iz5_, reduceIte, if_pos, if_neg, op_os, op_vIs, op_vLs, op_vRs, op_vNs, dI_at, dL_at, dI_2, dL_1, Nat.reduceEqDiff, Nat.reduceAdd, Nat.reduceMul, false_and, and_false, true_and, and_true, ne_eq, not_true_eq_false, not_false_eq_true, b2_z, b2_o, b2_n, b2_01, nar_b, nar_0, nar_1, Bool.false_eq_true, Bool.true_eq_false, x108 hS h.1, c2, sl1_, sl2_, cx8 (sl_ hi).2 hc, c3]
          rw [cx9 (sl_ hi).2 hc (by rw [sl4_ hi]; exact hn) hk4 hp hl]
          simp (disch := omega) only [nI_add, pk_mul, nI_clamp, nI_leI, nI_ltI, nI_eq, inb_, iz1_, iz2_, iz3_, iz4_, iz5_, reduceIte, if_pos, if_neg, op_os, op_vIs, op_vLs, op_vRs, op_vNs, dI_at, dL_at, dI_2, dL_1, Nat.reduceEqDiff, Nat.reduceAdd, Nat.reduceMul, false_and, and_false, true_and, and_true, ne_eq, not_true_eq_false, not_false_eq_true, b2_z, b2_o, b2_n, b2_01, nar_b, nar_0, nar_1, Bool.false_eq_true, Bool.true_eq_false]
          rw [show k10_0 w (d + 199) (3 + 3 * i) (nI p) (nI l) (nI q) D = _ from m_lead (sl_ hi).2 (k := (S.1 i).1) hc.1 (by rw [sl4_ hi]; omega)]
          rfl
        · refine ⟨?_, ?_, ?_, fun p' l' hp' hl' => ?_, fun p' hp' => ?_⟩
          · simp (disch := omega) only [nI_add, pk_mul, nI_clamp, nI_leI, nI_ltI, nI_eq, inb_, iz1_, iz2_, iz3_, iz4_, iz5_, reduceIte, if_pos, if_neg, op_os, op_vIs, op_vLs, op_vRs, op_vNs, dI_at, dL_at, dI_2, dL_1, Nat.reduceEqDiff, Nat.reduceAdd, Nat.reduceMul, false_and, and_false, true_and, and_true, ne_eq, not_true_eq_false, not_false_eq_true, b2_z, b2_o, b2_n, b2_01, nar_b, nar_0, nar_1, Bool.false_eq_true, Bool.true_eq_false]; exact hc.1
          · simp (disch := omega) only [nI_add, pk_mul, nI_clamp, nI_leI, nI_ltI, nI_eq, inb_, iz1_, iz2_, iz3_, iz4_, iz5_, reduceIte, if_pos, if_neg, op_os, op_vIs, op_vLs, op_vRs, op_vNs, dI_at, dL_at, dI_2, dL_1, Nat.reduceEqDiff, Nat.reduceAdd, Nat.reduceMul, false_and, and_false, true_and, and_true, ne_eq, not_true_eq_false, not_false_eq_true, b2_z, b2_o, b2_n, b2_01, nar_b, nar_0, nar_1, Bool.false_eq_true, Bool.true_eq_false]; exact hc.2.1
          · simp (disch := omega) only [nI_add, pk_mul, nI_clamp, nI_leI, nI_ltI, nI_eq, inb_, iz1_, iz2_, iz3_, iz4_, iz5_, reduceIte, if_pos, if_neg, op_os, op_vIs, op_vLs, op_vRs, op_vNs, dI_at, dL_at, dI_2, dL_1, Nat.reduceEqDiff, Nat.reduceAdd, Nat.reduceMul, false_and, and_false, true_and, and_true, ne_eq, not_true_eq_false, not_false_eq_true, b2_z, b2_o, b2_n, b2_01, nar_b, nar_0, nar_1, Bool.false_eq_true, Bool.true_eq_false]; exact hc.2.2.1
          · have hp'' : p' < (S.1 i).2.1 := hp'
            have hl'' : l' < (S.1 i).1 := hl'
            show (dI_ D (3 + 3 * i + 1) (p * (S.1 i).1 + l) (nI q)).1 (3 + 3 * i + 1) (p' * (S.1 i).1 + l') = nI (if p' = p ∧ l' = l then q else (S.1 i).2.2.2.1 p' l')
            rw [dI_at]
            by_cases e : p' = p ∧ l' = l
            · rw [if_pos ⟨rfl, (pl_inj hl hl'').mpr e⟩, if_pos e]
            · rw [if_neg (fun z => e ((pl_inj hl hl'').mp z.2)), if_neg e]
              exact hc.2.2.2.1 p' l' hp'' hl''
          · simp (disch := omega) only [nI_add, pk_mul, nI_clamp, nI_leI, nI_ltI, nI_eq, inb_, iz1_, iz2_, iz3_, iz4_, iz5_, reduceIte, if_pos, if_neg, op_os, op_vIs, op_vLs, op_vRs, op_vNs, dI_at, dL_at, dI_2, dL_1, Nat.reduceEqDiff, Nat.reduceAdd, Nat.reduceMul, false_and, and_false, true_and, and_true, ne_eq, not_true_eq_false, not_false_eq_true, b2_z, b2_o, b2_n, b2_01, nar_b, nar_0, nar_1, Bool.false_eq_true, Bool.true_eq_false]
            exact hc.2.2.2.2 p' hp'
        · exact up_ne (f := D.1) (fun z => hb (Or.inl (by omega)))
        · exact up_ne (f := D.1) (by omega)
        · exact up_ne (f := D.1) (by omega)
        · exact up_ne (f := D.1) (by omega)
      · have h' := mr_0 (v := nI 0) h
        have hm := h'.1 i hi
        refine ⟨dI_ (dI_ D 351 0 (nI 0)) 355 (4 * (60 * i + p) + l) (nI q), ?_, mr_om hS h ?_ (om_t (om_I (i := 0) (Or.inl ⟨rfl, rfl⟩)) (om_I (Or.inr (Or.inr (Or.inl ⟨rfl, by omega, by omega⟩))))), lw_t (lw_I (by omega)) (lw_I (by omega))⟩
        · rw [e117_0, x116 hS h'.1, c1]
          simp (disch := omega) only [nI_add, pk_mul, nI_clamp, nI_leI, nI_ltI, nI_eq, inb_, iz1_, iz2_, iz3_, iz4_, iz5_, reduceIte, if_pos, if_neg, op_os, op_vIs, op_vLs, op_vRs, op_vNs, dI_at, dL_at, dI_2, dL_1, Nat.reduceEqDiff, Nat.reduceAdd, Nat.reduceMul, false_and, and_false, true_and, and_true, ne_eq, not_true_eq_false, not_false_eq_true, b2_z, b2_o, b2_n, b2_01, nar_b, nar_0, nar_1, Bool.false_eq_true, Bool.true_eq_false, (h.1 i hi).1, x111n hk1 (show (S.1 i).1 < 2 ^ 31 by omega), c3, x116 hS h'.1, c2, x112 (show i < 110 by omega) ⟨hn, hk4⟩ hm hp hl]
        · refine ⟨?_, ?_, ?_, fun p' l' hp' hl' => ?_, fun p' hp' => ?_⟩
          · simp (disch := omega) only [nI_add, pk_mul, nI_clamp, nI_leI, nI_ltI, nI_eq, inb_, iz1_, iz2_, iz3_, iz4_, iz5_, reduceIte, if_pos, if_neg, op_os, op_vIs, op_vLs, op_vRs, op_vNs, dI_at, dL_at, dI_2, dL_1, Nat.reduceEqDiff, Nat.reduceAdd, Nat.reduceMul, false_and, and_false, true_and, and_true, ne_eq, not_true_eq_false, not_false_eq_true, b2_z, b2_o, b2_n, b2_01, nar_b, nar_0, nar_1, Bool.false_eq_true, Bool.true_eq_false]; exact (h.1 i hi).1
          · simp (disch := omega) only [nI_add, pk_mul, nI_clamp, nI_leI, nI_ltI, nI_eq, inb_, iz1_, iz2_, iz3_, iz4_, iz5_, reduceIte, if_pos, if_neg, op_os, op_vIs, op_vLs, op_vRs, op_vNs, dI_at, dL_at, dI_2, dL_1, Nat.reduceEqDiff, Nat.reduceAdd, Nat.reduceMul, false_and, and_false, true_and, and_true, ne_eq, not_true_eq_false, not_false_eq_true, b2_z, b2_o, b2_n, b2_01, nar_b, nar_0, nar_1, Bool.false_eq_true, Bool.true_eq_false]; exact (h.1 i hi).2.1
          · simp (disch := omega) only [nI_add, pk_mul, nI_clamp, nI_leI, nI_ltI, nI_eq, inb_, iz1_, iz2_, iz3_, iz4_, iz5_, reduceIte, if_pos, if_neg, op_os, op_vIs, op_vLs, op_vRs, op_vNs, dI_at, dL_at, dI_2, dL_1, Nat.reduceEqDiff, Nat.reduceAdd, Nat.reduceMul, false_and, and_false, true_and, and_true, ne_eq, not_true_eq_false, not_false_eq_true, b2_z, b2_o, b2_n, b2_01, nar_b, nar_0, nar_1, Bool.false_eq_true, Bool.true_eq_false]; exact (h.1 i hi).2.2.1
          · have hp'' : p' < (S.1 i).2.1 := hp'
            have hl'' : l' < (S.1 i).1 := hl'
            show (dI_ (dI_ D 351 0 (nI 0)) 355 (4 * (60 * i + p) + l) (nI q)).1 355 (4 * (60 * i + p') + l') = nI (if p' = p ∧ l' = l then q else (S.1 i).2.2.2.1 p' l')
            simp (disch := omega) only [nI_add, pk_mul, nI_clamp, nI_leI, nI_ltI, nI_eq, inb_, iz1_, iz2_, iz3_, iz4_, iz5_, reduceIte, op_os, op_vIs, op_vLs, op_vRs, op_vNs, dI_at, dL_at, dI_2, dL_1, Nat.reduceEqDiff, Nat.reduceAdd, Nat.reduceMul, false_and, and_false, true_and, and_true, ne_eq, not_true_eq_false, not_false_eq_true, b2_z, b2_o, b2_n, b2_01, nar_b, nar_0, nar_1, Bool.false_eq_true, Bool.true_eq_false]
            by_cases e : p' = p ∧ l' = l
            · rw [if_pos (by omega), if_pos e]
            · rw [if_neg (by omega), if_neg e]
              exact (h.1 i hi).2.2.2.1 p' l' hp'' hl''
          · simp (disch := omega) only [nI_add, pk_mul, nI_clamp, nI_leI, nI_ltI, nI_eq, inb_, iz1_, iz2_, iz3_, iz4_, iz5_, reduceIte, if_pos, if_neg, op_os, op_vIs, op_vLs, op_vRs, op_vNs, dI_at, dL_at, dI_2, dL_1, Nat.reduceEqDiff, Nat.reduceAdd, Nat.reduceMul, false_and, and_false, true_and, and_true, ne_eq, not_true_eq_false, not_false_eq_true, b2_z, b2_o, b2_n, b2_01, nar_b, nar_0, nar_1, Bool.false_eq_true, Bool.true_eq_false]
            exact (h.1 i hi).2.2.2.2 p' hp'
    · refine bo_o (.int (-102)) hS (fun D h => ?_) (fun D h => ?_)
      · have hc := h.1 i hi
        rw [e83_0, x108 hS h.1, c1]
        simp (disch := omega) only [nI_add, pk_mul, nI_clamp, nI_leI, nI_ltI, nI_eq, inb_, iz1_, iz2_, iz3_, iz4_, iz5_, reduceIte, if_pos, if_neg, op_os, op_vIs, op_vLs, op_vRs, op_vNs, dI_at, dL_at, dI_2, dL_1, Nat.reduceEqDiff, Nat.reduceAdd, Nat.reduceMul, false_and, and_false, true_and, and_true, ne_eq, not_true_eq_false, not_false_eq_true, b2_z, b2_o, b2_n, b2_01, nar_b, nar_0, nar_1, Bool.false_eq_true, Bool.true_eq_false, x108 hS h.1, cx8 (sl_ hi).2 hc, sl1_, sl2_]
        generalize vs_ S (nI i) q = z1, ls_ ((S.1 i).1) l = z2 at c2
        cases z1 <;> cases z2 <;> first | rfl | exact absurd ⟨rfl, rfl⟩ c2
      · have h' := mr_0 (v := nI 0) h
        rw [e117_0, x116 hS h'.1, c1]
        simp (disch := omega) only [nI_add, pk_mul, nI_clamp, nI_leI, nI_ltI, nI_eq, inb_, iz1_, iz2_, iz3_, iz4_, iz5_, reduceIte, if_pos, if_neg, op_os, op_vIs, op_vLs, op_vRs, op_vNs, dI_at, dL_at, dI_2, dL_1, Nat.reduceEqDiff, Nat.reduceAdd, Nat.reduceMul, false_and, and_false, true_and, and_true, ne_eq, not_true_eq_false, not_false_eq_true, b2_z, b2_o, b2_n, b2_01, nar_b, nar_0, nar_1, Bool.false_eq_true, Bool.true_eq_false, (h.1 i hi).1, x111n hk1 (show (S.1 i).1 < 2 ^ 31 by omega), x116 hS h'.1]
        generalize vs_ S (nI i) q = z1, ls_ ((S.1 i).1) l = z2 at c2
        cases z1 <;> cases z2 <;> first | rfl | exact absurd ⟨rfl, rfl⟩ c2
  · have c1' := bf_ c1
    refine bo_o (.int (-102)) hS (fun D h => ?_) (fun D h => ?_)
    · rw [e83_0, x108 hS h.1, c1']
      rfl
    · rw [e117_0, x116 hS (mr_0 h).1, c1']
      rfl
end SIMPLE
