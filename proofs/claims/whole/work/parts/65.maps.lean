/-! the mappings of words -/
/-- 400, not to be unfolded -/
noncomputable def n40_ : Nat := Classical.choose (⟨400, rfl⟩ : ∃ n : Nat, n = 400)
theorem n40_e : n40_ = 400 := Classical.choose_spec (⟨400, rfl⟩ : ∃ n : Nat, n = 400)
def ro_ (r : List Nat) (p : Nat) : Nat := r.getD p 0
def gmp_ (Q : ma_) (r : List Nat) (l : Nat) : List Nat := r.map (fun p => Q.2.2.2.1 p l)
def xmp_ (Q : ma_) : List Nat := List.range (Q.2.1)
def dmp_ (Q : ma_) (r : List Nat) : Prop := r.length = Q.2.1 ∧ ∀ p, p < Q.2.1 → ro_ r p < Q.2.1
theorem ro_x {Q : ma_} {p : Nat} (hp : p < Q.2.1) : ro_ (xmp_ Q) p = p := by
  unfold ro_ xmp_
  rw [List.getD_eq_getElem?_getD, List.getElem?_range hp]
  rfl
theorem ro_g {Q : ma_} {r : List Nat} {l p : Nat} (h : r.length = Q.2.1) (hp : p < Q.2.1) : ro_ (gmp_ Q r l) p = Q.2.2.2.1 (ro_ r p) l := by
  unfold ro_ gmp_
  rw [List.getD_eq_getElem?_getD, List.getD_eq_getElem?_getD, List.getElem?_map, List.getElem?_eq_getElem (by omega)]
  rfl
theorem ro_ext {r r' : List Nat} {n : Nat} (h : r.length = n) (h' : r'.length = n) (e : ∀ p, p < n → ro_ r p = ro_ r' p) : r = r' := by
  refine List.ext_getElem (by omega) fun i h1 h2 => ?_
  have := e i (by omega)
  unfold ro_ at this
  rw [List.getD_eq_getElem?_getD, List.getD_eq_getElem?_getD, List.getElem?_eq_getElem h1, List.getElem?_eq_getElem h2] at this
  exact this
theorem dmp_0 (Q : ma_) : dmp_ Q (xmp_ Q) := ⟨List.length_range, fun p hp => by rw [ro_x hp]; exact hp⟩
theorem dmp_g {Q : ma_} (hQ : wm_ Q) (r : List Nat) (l : Nat) (h : dmp_ Q r) (hl : l < Q.1) : dmp_ Q (gmp_ Q r l) := ⟨by unfold gmp_; rw [List.length_map]; exact h.1, fun p hp => by rw [ro_g h.1 hp]; exact hQ.2.2.2 _ l (h.2 p hp) hl⟩
/-- the mapping of number i -/
noncomputable def mpf_ (Q : ma_) (i : Nat) : List Nat := kf_ (gmp_ Q) (Q.1) (xmp_ Q) n40_ i
noncomputable def mpn_ (Q : ma_) : Nat := (kq_ (gmp_ Q) (Q.1) (xmp_ Q) n40_).length
/-- the search that both make -/
theorem z40 {Q : ma_} (hQ : wm_ Q) (F : Nat → dy_ → rd_) (G : Nat → Nat → dy_ → rd_) (R : Nat → dy_ → Prop) (Z : dy_ → Prop) (hG : ∀ i l E c, R c E → i < c → c ≤ 400 → l < Q.1 → (∀ j, j < c → dmp_ Q (mpf_ Q j)) → (∀ j, j < c → mpf_ Q j = gmp_ Q (mpf_ Q i) l → ∃ E', G i l E = G i (l + 1) E' ∧ R c E') ∧ ((∀ j, j < c → mpf_ Q j ≠ gmp_ Q (mpf_ Q i) l) → (c < 400 → mpf_ Q c = gmp_ Q (mpf_ Q i) l → ∃ E', G i l E = G i (l + 1) E' ∧ R (c + 1) E') ∧ (c = 400 → ∃ E', G i l E = some (some (.int (-104)), E') ∧ Z E'))) (hGe : ∀ i E c, R c E → i < 400 → G i (Q.1) E = F (i + 1) E) (hFs : ∀ i E c, R c E → i < c → c ≤ 400 → F i E = G i 0 E) (hFe : ∀ i E c, R c E → c ≤ i → i ≤ 401 → c ≤ 400 → F i E = some (some (.int (nI c)), E)) {E0 : dy_} (h0 : R 1 E0) : (mpn_ Q ≤ 400 → ∃ E', F 0 E0 = some (some (.int (nI (mpn_ Q))), E') ∧ R (mpn_ Q) E') ∧ (400 < mpn_ Q → ∃ E', F 0 E0 = some (some (.int (-104)), E') ∧ Z E') := by
  have h40 := n40_e
  have hmn : mpn_ Q = (kq_ (gmp_ Q) (Q.1) (xmp_ Q) n40_).length := rfl
  have hdom := kq_dom (gmp_ Q) (Q.1) (xmp_ Q) (dmp_0 Q) (dmp_g hQ) n40_
  have letters : ∀ i, i < 400 → i < (kq_ (gmp_ Q) (Q.1) (xmp_ Q) i).length → ∀ u l (E : dy_), l + u = Q.1 → (li_ (gmp_ Q) (mpf_ Q i) (kq_ (gmp_ Q) (Q.1) (xmp_ Q) i) l).length ≤ 400 → R (li_ (gmp_ Q) (mpf_ Q i) (kq_ (gmp_ Q) (Q.1) (xmp_ Q) i) l).length E → (∃ E', G i l E = F (i + 1) E' ∧ (kq_ (gmp_ Q) (Q.1) (xmp_ Q) (i + 1)).length ≤ 400 ∧ R (kq_ (gmp_ Q) (Q.1) (xmp_ Q) (i + 1)).length E') ∨ (∃ E', G i l E = some (some (.int (-104)), E') ∧ 400 < mpn_ Q ∧ Z E') := by
    intro i hi4 hin
    have hst : kq_ (gmp_ Q) (Q.1) (xmp_ Q) (i + 1) = li_ (gmp_ Q) (mpf_ Q i) (kq_ (gmp_ Q) (Q.1) (xmp_ Q) i) (Q.1) := kq_step (gmp_ Q) (Q.1) (xmp_ Q) (N := n40_) (by omega) hin
    intro u
    induction u with
    | zero =>
      intro l E hu hlen q
      obtain rfl : l = Q.1 := by omega
      rw [← hst] at hlen q
      exact Or.inl ⟨E, hGe i E _ q hi4, hlen, q⟩
    | succ u ih =>
      intro l E hu hlen q
      have hl : l < Q.1 := by omega
      have pK : li_ (gmp_ Q) (mpf_ Q i) (kq_ (gmp_ Q) (Q.1) (xmp_ Q) i) l <+: kq_ (gmp_ Q) (Q.1) (xmp_ Q) n40_ := li_f (gmp_ Q) (Q.1) (xmp_ Q) (N := n40_) (l := l) (show i < n40_ by omega) hin (by omega)
      have hil : i < (li_ (gmp_ Q) (mpf_ Q i) (kq_ (gmp_ Q) (Q.1) (xmp_ Q) i) l).length := Nat.lt_of_lt_of_le hin (li_p (gmp_ Q) _ _ (Nat.zero_le l)).length_le
      obtain ⟨g1, g2⟩ := hG i l E _ q hil hlen hl (fun j hj => hdom _ (pK.subset (kf_mem (gmp_ Q) (Q.1) (xmp_ Q) pK hj)))
      by_cases c : gmp_ Q (mpf_ Q i) l ∈ li_ (gmp_ Q) (mpf_ Q i) (kq_ (gmp_ Q) (Q.1) (xmp_ Q) i) l
      · obtain ⟨k1, k2, k3⟩ := kt_t1 (gmp_ Q) (Q.1) (xmp_ Q) (N := n40_) (show i < n40_ by omega) hin hl c
        have k1' : li_ (gmp_ Q) (mpf_ Q i) (kq_ (gmp_ Q) (Q.1) (xmp_ Q) i) (l + 1) = li_ (gmp_ Q) (mpf_ Q i) (kq_ (gmp_ Q) (Q.1) (xmp_ Q) i) l := k1
        obtain ⟨E', a1, a2⟩ := g1 _ k2 k3
        rcases ih (l + 1) E' (by omega) (by rw [k1']; exact hlen) (by rw [k1']; exact a2) with ⟨E2, b1, b2⟩ | ⟨E2, b1, b2⟩
        · exact Or.inl ⟨E2, a1.trans b1, b2⟩
        · exact Or.inr ⟨E2, a1.trans b1, b2⟩
      · obtain ⟨k1, k2, k3, k4⟩ := kt_t2 (gmp_ Q) (Q.1) (xmp_ Q) (N := n40_) (show i < n40_ by omega) hin hl c
        have k1' : (li_ (gmp_ Q) (mpf_ Q i) (kq_ (gmp_ Q) (Q.1) (xmp_ Q) i) (l + 1)).length = (li_ (gmp_ Q) (mpf_ Q i) (kq_ (gmp_ Q) (Q.1) (xmp_ Q) i) l).length + 1 := k1
        have k4' : (li_ (gmp_ Q) (mpf_ Q i) (kq_ (gmp_ Q) (Q.1) (xmp_ Q) i) l).length < mpn_ Q := k4
        have hne : ∀ j, j < (li_ (gmp_ Q) (mpf_ Q i) (kq_ (gmp_ Q) (Q.1) (xmp_ Q) i) l).length → mpf_ Q j ≠ gmp_ Q (mpf_ Q i) l := fun j hj e => c (by rw [← e]; exact kf_mem (gmp_ Q) (Q.1) (xmp_ Q) pK hj)
        obtain ⟨g3, g4⟩ := g2 hne
        by_cases z : (li_ (gmp_ Q) (mpf_ Q i) (kq_ (gmp_ Q) (Q.1) (xmp_ Q) i) l).length = 400
        · obtain ⟨E', a1, a2⟩ := g4 z
          exact Or.inr ⟨E', a1, by omega, a2⟩
        · obtain ⟨E', a1, a2⟩ := g3 (by omega) k3
          rcases ih (l + 1) E' (by omega) (by omega) (by rw [k1']; exact a2) with ⟨E2, b1, b2⟩ | ⟨E2, b1, b2⟩
          · exact Or.inl ⟨E2, a1.trans b1, b2⟩
          · exact Or.inr ⟨E2, a1.trans b1, b2⟩
  have main : ∀ u i (E : dy_), i + u = 401 → (kq_ (gmp_ Q) (Q.1) (xmp_ Q) i).length ≤ 400 → R (kq_ (gmp_ Q) (Q.1) (xmp_ Q) i).length E → (mpn_ Q ≤ 400 ∧ ∃ E', F i E = some (some (.int (nI (mpn_ Q))), E') ∧ R (mpn_ Q) E') ∨ (400 < mpn_ Q ∧ ∃ E', F i E = some (some (.int (-104)), E') ∧ Z E') := by
    intro u
    induction u with
    | zero =>
      intro i E hu hlen q
      have hle := (kq_p (gmp_ Q) (Q.1) (xmp_ Q) (show n40_ ≤ i by omega)).length_le
      have hst := kq_st (gmp_ Q) (Q.1) (xmp_ Q) (i := n40_) (j := i) (by omega) (by omega)
      rw [hst] at hlen q
      exact Or.inl ⟨hlen, E, hFe i E _ q (by omega) (by omega) hlen, q⟩
    | succ u ih =>
      intro i E hu hlen q
      by_cases z : (kq_ (gmp_ Q) (Q.1) (xmp_ Q) i).length ≤ i
      · have hst := kq_st (gmp_ Q) (Q.1) (xmp_ Q) (i := i) (j := n40_) (by omega) z
        rw [← hst] at hlen q z
        exact Or.inl ⟨hlen, E, hFe i E _ q z (by omega) hlen, q⟩
      · have hin : i < (kq_ (gmp_ Q) (Q.1) (xmp_ Q) i).length := by omega
        have st := hFs i E _ q hin hlen
        rcases letters i (by omega) hin (Q.1) 0 E (by omega) hlen q with ⟨E', a1, a2, a3⟩ | ⟨E', a1, a2, a3⟩
        · rcases ih (i + 1) E' (by omega) a2 a3 with ⟨b0, E2, b1, b2⟩ | ⟨b0, E2, b1, b2⟩
          · exact Or.inl ⟨b0, E2, (st.trans a1).trans b1, b2⟩
          · exact Or.inr ⟨b0, E2, (st.trans a1).trans b1, b2⟩
        · exact Or.inr ⟨a2, E', st.trans a1, a3⟩
  rcases main 401 0 E0 (by omega) (by show 1 ≤ 400; omega) h0 with ⟨a1, a2⟩ | ⟨a1, a2⟩
  · exact ⟨fun _ => a2, fun z => absurd z (by omega)⟩
  · exact ⟨fun z => absurd z (by omega), fun _ => a2⟩
/-- the bucket of a row -/
def hs4_ (r : List Nat) : Nat → Int32
  | 0 => nI 0
  | n + 1 => hs4_ r n * nI 31 + nI (ro_ r n)
theorem of_bv (y : Int32) : y = nI y.toBitVec.toNat := by
  apply Int32.toBitVec_inj.mp
  unfold nI
  rw [Int32.toBitVec_ofNat', BitVec.ofNat_toNat]
  simp
theorem bk4 (x : Int32) : ∃ m, m < 512 ∧ ((x * (-1640531527)).toUInt32 >>> ((nI 23).toUInt32 &&& Int32.toUInt32 31)).toInt32 = nI m := by
  have h := pk_ushr (x * (-1640531527)) (nI 23) 23 (by decide)
  refine ⟨(x * (-1640531527)).toBitVec.toNat / 2 ^ 23, ?_, ?_⟩
  · have := (x * (-1640531527)).toBitVec.isLt
    omega
  · have := of_bv ((x * (-1640531527)).toUInt32 >>> ((nI 23).toUInt32 &&& Int32.toUInt32 31)).toInt32
    rw [h] at this
    exact this
noncomputable def bkr_ (n : Nat) (r : List Nat) : Nat := Classical.choose (bk4 (hs4_ r n))
theorem bkr_1 (n : Nat) (r : List Nat) : bkr_ n r < 512 ∧ ((hs4_ r n * (-1640531527)).toUInt32 >>> ((nI 23).toUInt32 &&& Int32.toUInt32 31)).toInt32 = nI (bkr_ n r) := Classical.choose_spec (bk4 (hs4_ r n))
/-- the class's rows -/
def ms4_ (Q : ma_) (c : Nat) (D : dy_) : Prop := D.1 342 6 = nI c ∧ (∀ j, j < c → (∀ p, p < Q.2.1 → D.1 346 (j * 60 + p) = nI (ro_ (mpf_ Q j) p)) ∧ D.1 347 j = lsb_ (fun i => bkr_ (Q.2.1) (mpf_ Q i)) (bkr_ (Q.2.1) (mpf_ Q j)) j) ∧ ∀ b, b < 512 → D.1 348 b = lsb_ (fun i => bkr_ (Q.2.1) (mpf_ Q i)) b c
theorem ms4_fr {Q : ma_} {c : Nat} {D D' : dy_} (h : ms4_ Q c D) (h1 : ∀ b, b = 342 ∨ (346 ≤ b ∧ b ≤ 348) → D'.1 b = D.1 b) : ms4_ Q c D' := by
  unfold ms4_ at *
  rw [h1 342 (by omega), h1 346 (by omega), h1 347 (by omega), h1 348 (by omega)]
  exact h
theorem dC_io {D : dy_} {a0 a dp n j : Nat} : (dC_ D a0 0 a dp n).1 a j = if dp ≤ j ∧ j < dp + n then D.1 a0 (j - dp) else D.1 a j := by
  show va_up D.1 a (va_cpy (D.1 a0) (D.1 a) 0 dp n) a j = _
  rw [show va_up D.1 a (va_cpy (D.1 a0) (D.1 a) 0 dp n) a = va_cpy (D.1 a0) (D.1 a) 0 dp n from up_eq]
  by_cases z : dp ≤ j ∧ j < dp + n
  · rw [if_pos z, pk_cpy_in z.1 z.2, Nat.zero_add]
  · rw [if_neg z, pk_cpy_out (by omega)]
theorem ml_343 : 343 ∈ ml_ := by decide +kernel
theorem cap_343 : cap_ 343 = 60 := by decide +kernel
section MAPS
variable {w : (Nat → Int32) × Nat} {d : Nat} {D : dy_} {Q : ma_}
theorem x17 {c i p : Nat} (h : ms4_ Q c D) (hc : c ≤ 400) (hn : Q.2.1 ≤ 60) (hi : i < c) (hp : p < Q.2.1) : k17_0 w (d + 1) (nI i) (nI p) D = some (some (.int (nI (ro_ (mpf_ Q i) p))), D) := by
  rw [e17_0]
  simp (disch := omega) only [nI_add, pk_mul, nI_clamp, nI_leI, nI_ltI, nI_eq, inb_, iz1_, iz2_, iz3_, iz4_, iz5_, reduceIte, if_pos, if_neg, op_os, op_vIs, op_vLs, op_vRs, op_vNs, dI_at, dL_at, dI_2, dL_1, Nat.reduceEqDiff, Nat.reduceAdd, Nat.reduceMul, false_and, and_false, true_and, and_true, ne_eq, not_true_eq_false, not_false_eq_true, b2_z, b2_o, b2_n, b2_01, nar_b, nar_0, nar_1, Bool.false_eq_true, Bool.true_eq_false, (h.2.1 i hi).1 p hp]
/-- bucketOfTrial -/
theorem x19 {r : List Nat} (hq : D.1 343 3 = nI (Q.2.1)) (hn : Q.2.1 ≤ 60) (ht : ∀ p, p < Q.2.1 → D.1 349 p = nI (ro_ r p)) : k19_0 w (d + 1) D = some (some (.int (nI (bkr_ (Q.2.1) r))), D) := by
  rw [e19_0]
  have := lq_ (fun i (x : Int32) => k19_4 w (d + 1) x (nI i) D) (fun i => hs4_ r i) (Q.2.1) (by
    intro i hi
    show k19_4 w (d + 1) (hs4_ r i) (nI i) D = k19_4 w (d + 1) (hs4_ r i * nI 31 + nI (ro_ r i)) (nI (i + 1)) D
    rw [e19_4]
    simp (disch := omega) only [nI_add, pk_mul, nI_clamp, nI_leI, nI_ltI, nI_eq, inb_, iz1_, iz2_, iz3_, iz4_, iz5_, reduceIte, if_pos, if_neg, op_os, op_vIs, op_vLs, op_vRs, op_vNs, dI_at, dL_at, dI_2, dL_1, Nat.reduceEqDiff, Nat.reduceAdd, Nat.reduceMul, false_and, and_false, true_and, and_true, ne_eq, not_true_eq_false, not_false_eq_true, b2_z, b2_o, b2_n, b2_01, nar_b, nar_0, nar_1, Bool.false_eq_true, Bool.true_eq_false, hq, ht i hi])
  refine Eq.trans (show _ = k19_4 w (d + 1) (hs4_ r (Q.2.1)) (nI (Q.2.1)) D from this) ?_
  rw [e19_4]
  simp (disch := omega) only [nI_add, pk_mul, nI_clamp, nI_leI, nI_ltI, nI_eq, inb_, iz1_, iz2_, iz3_, iz4_, iz5_, reduceIte, if_pos, if_neg, op_os, op_vIs, op_vLs, op_vRs, op_vNs, dI_at, dL_at, dI_2, dL_1, Nat.reduceEqDiff, Nat.reduceAdd, Nat.reduceMul, false_and, and_false, true_and, and_true, ne_eq, not_true_eq_false, not_false_eq_true, b2_z, b2_o, b2_n, b2_01, nar_b, nar_0, nar_1, Bool.false_eq_true, Bool.true_eq_false, hq, Nat.le_refl]
  rw [(bkr_1 (Q.2.1) r).2]
/-- isTrial -/
theorem x20 {c j : Nat} {r : List Nat} (h : ms4_ Q c D) (hc : c ≤ 400) (hq : D.1 343 3 = nI (Q.2.1)) (hn : Q.2.1 ≤ 60) (ht : ∀ p, p < Q.2.1 → D.1 349 p = nI (ro_ r p)) (hr : dmp_ Q r) (hf : dmp_ Q (mpf_ Q j)) (hj : j < c) : k20_0 w (d + 2) (nI j) D = some (some (.int (b2_ (decide (mpf_ Q j = r)))), D) := by
  have key : ∀ u p, p + u = Q.2.1 → (∀ x, x < p → ro_ (mpf_ Q j) x = ro_ r x) → k20_2 w (d + 2) (nI j) (nI p) D = some (some (.int (b2_ (decide (mpf_ Q j = r)))), D) := by
    intro u
    induction u with
    | zero =>
      intro p hp he
      obtain rfl : p = Q.2.1 := by omega
      rw [decide_eq_true (ro_ext hf.1 hr.1 he), e20_2]
      simp (disch := omega) only [nI_add, pk_mul, nI_clamp, nI_leI, nI_ltI, nI_eq, inb_, iz1_, iz2_, iz3_, iz4_, iz5_, reduceIte, if_pos, if_neg, op_os, op_vIs, op_vLs, op_vRs, op_vNs, dI_at, dL_at, dI_2, dL_1, Nat.reduceEqDiff, Nat.reduceAdd, Nat.reduceMul, false_and, and_false, true_and, and_true, ne_eq, not_true_eq_false, not_false_eq_true, b2_z, b2_o, b2_n, b2_01, nar_b, nar_0, nar_1, Bool.false_eq_true, Bool.true_eq_false, hq, Nat.le_refl]
      rfl
    | succ u ih =>
      intro p hp he
      have b1 := hf.2 p (by omega)
      have b2 := hr.2 p (by omega)
      rw [e20_2]
      by_cases z : ro_ (mpf_ Q j) p = ro_ r p
      · simp (disch := omega) only [nI_add, pk_mul, nI_clamp, nI_leI, nI_ltI, nI_eq, inb_, iz1_, iz2_, iz3_, iz4_, iz5_, reduceIte, if_pos, if_neg, op_os, op_vIs, op_vLs, op_vRs, op_vNs, dI_at, dL_at, dI_2, dL_1, Nat.reduceEqDiff, Nat.reduceAdd, Nat.reduceMul, false_and, and_false, true_and, and_true, ne_eq, not_true_eq_false, not_false_eq_true, b2_z, b2_o, b2_n, b2_01, nar_b, nar_0, nar_1, Bool.false_eq_true, Bool.true_eq_false, hq, x17 h hc hn hj (show p < Q.2.1 by omega), ht p (show p < Q.2.1 by omega), z]
        exact ih (p + 1) (by omega) (fun x hx => by
          by_cases y : x = p
          · rw [y]; exact z
          · exact he x (by omega))
      · rw [decide_eq_false (fun y => z (by rw [y]))]
        simp (disch := omega) only [nI_add, pk_mul, nI_clamp, nI_leI, nI_ltI, nI_eq, inb_, iz1_, iz2_, iz3_, iz4_, iz5_, reduceIte, if_pos, if_neg, op_os, op_vIs, op_vLs, op_vRs, op_vNs, dI_at, dL_at, dI_2, dL_1, Nat.reduceEqDiff, Nat.reduceAdd, Nat.reduceMul, false_and, and_false, true_and, and_true, ne_eq, not_true_eq_false, not_false_eq_true, b2_z, b2_o, b2_n, b2_01, nar_b, nar_0, nar_1, Bool.false_eq_true, Bool.true_eq_false, hq, x17 h hc hn hj (show p < Q.2.1 by omega), ht p (show p < Q.2.1 by omega)]
        rfl
  rw [e20_0]
  exact key (Q.2.1) 0 (by omega) (fun x hx => absurd hx (by omega))
/-- the walk down a chain -/
theorem x18w {c : Nat} {r : List Nat} (h : ms4_ Q c D) (hc : c ≤ 400) (hq : D.1 343 3 = nI (Q.2.1)) (hn : Q.2.1 ≤ 60) (ht : ∀ p, p < Q.2.1 → D.1 349 p = nI (ro_ r p)) (hr : dmp_ Q r) (hf : ∀ j, j < c → dmp_ Q (mpf_ Q j)) : ∀ m L, m ≤ L → L ≤ c → (∀ j, m ≤ j → j < c → mpf_ Q j ≠ r) → (∃ j, j < c ∧ mpf_ Q j = r ∧ k18_17 w (d + 3) (nI (bkr_ (Q.2.1) r)) (lsb_ (fun i => bkr_ (Q.2.1) (mpf_ Q i)) (bkr_ (Q.2.1) r) m) (nI L) D = some (some (.int (nI 1)), D)) ∨ ((∀ j, j < c → mpf_ Q j ≠ r) ∧ k18_17 w (d + 3) (nI (bkr_ (Q.2.1) r)) (lsb_ (fun i => bkr_ (Q.2.1) (mpf_ Q i)) (bkr_ (Q.2.1) r) m) (nI L) D = k18_48 w (d + 3) (nI (bkr_ (Q.2.1) r)) D) := by
  intro m
  induction m using Nat.strongRecOn with
  | _ m ih =>
    intro L hm hL hne
    rcases lsb_1 (fun i => bkr_ (Q.2.1) (mpf_ Q i)) (bkr_ (Q.2.1) r) m with ⟨h1, h2⟩ | ⟨j, h1, h2, h3, h4⟩
    · refine Or.inr ⟨fun j hj e => ?_, ?_⟩
      · by_cases z : m ≤ j
        · exact hne j z hj e
        · exact h2 j (by omega) (by rw [e])
      · rw [h1, e18_17]
        simp (disch := omega) only [nI_add, pk_mul, nI_clamp, nI_leI, nI_ltI, nI_eq, inb_, iz1_, iz2_, iz3_, iz4_, iz5_, reduceIte, op_os, op_vIs, op_vLs, op_vRs, op_vNs, dI_at, dL_at, dI_2, dL_1, Nat.reduceEqDiff, Nat.reduceAdd, Nat.reduceMul, false_and, and_false, true_and, and_true, ne_eq, not_true_eq_false, not_false_eq_true, b2_z, b2_o, b2_n, b2_01, nar_b, nar_0, nar_1, Bool.false_eq_true, Bool.true_eq_false]
        rw [if_pos (show (-1 : Int32) < nI 0 by decide)]
        by_cases z : L ≤ 0
        · rw [if_pos z]
        · rw [if_neg z]
    · rw [h3, e18_17]
      have h20 := x20 (w := w) (d := d) h hc hq hn ht hr (hf j (by omega)) (show j < c by omega)
      have h47 := (h.2.1 j (by omega)).2
      by_cases z : mpf_ Q j = r
      · refine Or.inl ⟨j, by omega, z, ?_⟩
        rw [decide_eq_true z] at h20
        simp (disch := omega) only [nI_add, pk_mul, nI_clamp, nI_leI, nI_ltI, nI_eq, inb_, iz1_, iz2_, iz3_, iz4_, iz5_, reduceIte, if_pos, if_neg, op_os, op_vIs, op_vLs, op_vRs, op_vNs, dI_at, dL_at, dI_2, dL_1, Nat.reduceEqDiff, Nat.reduceAdd, Nat.reduceMul, false_and, and_false, true_and, and_true, ne_eq, not_true_eq_false, not_false_eq_true, b2_z, b2_o, b2_n, b2_01, nar_b, nar_0, nar_1, Bool.false_eq_true, Bool.true_eq_false, h20]
      · rw [decide_eq_false z] at h20
        have hL1 : nI L + (-1) = nI (L - 1) := by rw [dm1, pk_sub (by omega)]
        have := ih j h1 (L - 1) (by omega) (by omega) (fun i hi hi' => by
          by_cases y : i = j
          · rw [y]; exact z
          · by_cases y2 : m ≤ i
            · exact hne i y2 hi'
            · exact fun e => h4 i (by omega) (by omega) (by rw [e]))
        simp (disch := omega) only [nI_add, pk_mul, nI_clamp, nI_leI, nI_ltI, nI_eq, inb_, iz1_, iz2_, iz3_, iz4_, iz5_, reduceIte, if_pos, if_neg, op_os, op_vIs, op_vLs, op_vRs, op_vNs, dI_at, dL_at, dI_2, dL_1, Nat.reduceEqDiff, Nat.reduceAdd, Nat.reduceMul, false_and, and_false, true_and, and_true, ne_eq, not_true_eq_false, not_false_eq_true, b2_z, b2_o, b2_n, b2_01, nar_b, nar_0, nar_1, Bool.false_eq_true, Bool.true_eq_false, h20, h47, hL1]
        rw [h2]
        exact this
/-- keepTrial -/
theorem x18 {c : Nat} {r : List Nat} (h : ms4_ Q c D) (hc : c ≤ 400) (hq : D.1 343 3 = nI (Q.2.1)) (hn : Q.2.1 ≤ 60) (ht : ∀ p, p < Q.2.1 → D.1 349 p = nI (ro_ r p)) (hr : dmp_ Q r) (hf : ∀ j, j < c → dmp_ Q (mpf_ Q j)) : (∀ j, j < c → mpf_ Q j = r → k18_0 w (d + 4) D = some (some (.int (nI 1)), D)) ∧ ((∀ j, j < c → mpf_ Q j ≠ r) → (c < 400 → mpf_ Q c = r → ∃ D', k18_0 w (d + 4) D = some (some (.int (nI 1)), D') ∧ ms4_ Q (c + 1) D' ∧ sx_ (fun b => b = 342 ∨ (346 ≤ b ∧ b ≤ 348)) D D' ∧ (∀ j, j ≠ 6 → D'.1 342 j = D.1 342 j)) ∧ (c = 400 → k18_0 w (d + 4) D = some (some (.int (nI 0)), D))) := by
  obtain ⟨b1, b2⟩ := bkr_1 (Q.2.1) r
  have st : k18_0 w (d + 4) D = k18_17 w (d + 4) (nI (bkr_ (Q.2.1) r)) (lsb_ (fun i => bkr_ (Q.2.1) (mpf_ Q i)) (bkr_ (Q.2.1) r) c) (nI c) D := by
    rw [e18_0, x19 hq hn ht]
    simp (disch := omega) only [nI_add, pk_mul, nI_clamp, nI_leI, nI_ltI, nI_eq, inb_, iz1_, iz2_, iz3_, iz4_, iz5_, reduceIte, if_pos, if_neg, op_os, op_vIs, op_vLs, op_vRs, op_vNs, dI_at, dL_at, dI_2, dL_1, Nat.reduceEqDiff, Nat.reduceAdd, Nat.reduceMul, false_and, and_false, true_and, and_true, ne_eq, not_true_eq_false, not_false_eq_true, b2_z, b2_o, b2_n, b2_01, nar_b, nar_0, nar_1, Bool.false_eq_true, Bool.true_eq_false, h.1, h.2.2 _ b1]
  have hw := x18w (w := w) (d := d + 1) h hc hq hn ht hr hf c c (Nat.le_refl _) (Nat.le_refl _) (fun j a b => absurd a (by omega))
  refine ⟨fun j hj e => ?_, fun hne => ⟨fun hlt e => ?_, fun e => ?_⟩⟩
  · rcases hw with ⟨i, i1, i2, i3⟩ | ⟨i1, _⟩
    · rw [st, i3]
    · exact absurd e (i1 j hj)
  · rcases hw with ⟨i, i1, i2, i3⟩ | ⟨_, i2⟩
    · exact absurd i2 (hne i i1)
    · generalize hE : dC_ D 349 0 346 (c * 60) (Q.2.1) = E
      have hEn : ∀ b, b ≠ 346 → E.1 b = D.1 b := fun b hb => by rw [← hE]; exact dC_ne hb
      refine ⟨dI_ (dI_ (dI_ E 347 c (lsb_ (fun i => bkr_ (Q.2.1) (mpf_ Q i)) (bkr_ (Q.2.1) r) c)) 348 (bkr_ (Q.2.1) r) (nI c)) 342 6 (nI (c + 1)), ?_, ⟨by simp (disch := omega) only [nI_add, pk_mul, nI_clamp, nI_leI, nI_ltI, nI_eq, inb_, iz1_, iz2_, iz3_, iz4_, iz5_, reduceIte, if_pos, if_neg, op_os, op_vIs, op_vLs, op_vRs, op_vNs, dI_at, dL_at, dI_2, dL_1, Nat.reduceEqDiff, Nat.reduceAdd, Nat.reduceMul, false_and, and_false, true_and, and_true, ne_eq, not_true_eq_false, not_false_eq_true, b2_z, b2_o, b2_n, b2_01, nar_b, nar_0, nar_1, Bool.false_eq_true, Bool.true_eq_false], fun j hj => ⟨fun p hp => ?_, ?_⟩, fun b hb => ?_⟩, ?_, fun j hj => by simp (disch := omega) only [nI_add, pk_mul, nI_clamp, nI_leI, nI_ltI, nI_eq, inb_, iz1_, iz2_, iz3_, iz4_, iz5_, reduceIte, if_pos, if_neg, op_os, op_vIs, op_vLs, op_vRs, op_vNs, dI_at, dL_at, dI_2, dL_1, Nat.reduceEqDiff, Nat.reduceAdd, Nat.reduceMul, false_and, and_false, true_and, and_true, ne_eq, not_true_eq_false, not_false_eq_true, b2_z, b2_o, b2_n, b2_01, nar_b, nar_0, nar_1, Bool.false_eq_true, Bool.true_eq_false]; rw [hEn 342 (by omega)]⟩
      · rw [st, i2, e18_48]
        simp (disch := omega) only [nI_add, pk_mul, nI_clamp, nI_leI, nI_ltI, nI_eq, inb_, iz1_, iz2_, iz3_, iz4_, iz5_, reduceIte, if_pos, if_neg, op_os, op_vIs, op_vLs, op_vRs, op_vNs, dI_at, dL_at, dI_2, dL_1, Nat.reduceEqDiff, Nat.reduceAdd, Nat.reduceMul, false_and, and_false, true_and, and_true, ne_eq, not_true_eq_false, not_false_eq_true, b2_z, b2_o, b2_n, b2_01, nar_b, nar_0, nar_1, Bool.false_eq_true, Bool.true_eq_false, h.1, hq, np0, mkca0, Nat.zero_add]
        rw [hE]
        simp (disch := omega) only [nI_add, pk_mul, nI_clamp, nI_leI, nI_ltI, nI_eq, inb_, iz1_, iz2_, iz3_, iz4_, iz5_, reduceIte, if_pos, if_neg, op_os, op_vIs, op_vLs, op_vRs, op_vNs, dI_at, dL_at, dI_2, dL_1, Nat.reduceEqDiff, Nat.reduceAdd, Nat.reduceMul, false_and, and_false, true_and, and_true, ne_eq, not_true_eq_false, not_false_eq_true, b2_z, b2_o, b2_n, b2_01, nar_b, nar_0, nar_1, Bool.false_eq_true, Bool.true_eq_false, hEn 342 (show 342 ≠ 346 by decide), h.1, hEn 348 (show 348 ≠ 346 by decide), h.2.2 _ b1]
      · simp (disch := omega) only [nI_add, pk_mul, nI_clamp, nI_leI, nI_ltI, nI_eq, inb_, iz1_, iz2_, iz3_, iz4_, iz5_, reduceIte, if_pos, if_neg, op_os, op_vIs, op_vLs, op_vRs, op_vNs, dI_at, dL_at, dI_2, dL_1, Nat.reduceEqDiff, Nat.reduceAdd, Nat.reduceMul, false_and, and_false, true_and, and_true, ne_eq, not_true_eq_false, not_false_eq_true, b2_z, b2_o, b2_n, b2_01, nar_b, nar_0, nar_1, Bool.false_eq_true, Bool.true_eq_false]
        rw [← hE, dC_io]
        by_cases z : j = c
        · rw [if_pos (by omega), z, e, show c * 60 + p - c * 60 = p by omega]
          exact ht p hp
        · rw [if_neg (by omega)]
          exact (h.2.1 j (by omega)).1 p hp
      · simp (disch := omega) only [nI_add, pk_mul, nI_clamp, nI_leI, nI_ltI, nI_eq, inb_, iz1_, iz2_, iz3_, iz4_, iz5_, reduceIte, op_os, op_vIs, op_vLs, op_vRs, op_vNs, dI_at, dL_at, dI_2, dL_1, Nat.reduceEqDiff, Nat.reduceAdd, Nat.reduceMul, false_and, and_false, true_and, and_true, ne_eq, not_true_eq_false, not_false_eq_true, b2_z, b2_o, b2_n, b2_01, nar_b, nar_0, nar_1, Bool.false_eq_true, Bool.true_eq_false]
        by_cases z : j = c
        · rw [if_pos z, z, e]
        · rw [if_neg z, hEn 347 (by omega)]
          exact (h.2.1 j (by omega)).2
      · simp (disch := omega) only [nI_add, pk_mul, nI_clamp, nI_leI, nI_ltI, nI_eq, inb_, iz1_, iz2_, iz3_, iz4_, iz5_, reduceIte, op_os, op_vIs, op_vLs, op_vRs, op_vNs, dI_at, dL_at, dI_2, dL_1, Nat.reduceEqDiff, Nat.reduceAdd, Nat.reduceMul, false_and, and_false, true_and, and_true, ne_eq, not_true_eq_false, not_false_eq_true, b2_z, b2_o, b2_n, b2_01, nar_b, nar_0, nar_1, Bool.false_eq_true, Bool.true_eq_false]
        show _ = if bkr_ (Q.2.1) (mpf_ Q c) = b then nI c else lsb_ (fun i => bkr_ (Q.2.1) (mpf_ Q i)) b c
        rw [e]
        by_cases z : b = bkr_ (Q.2.1) r
        · rw [if_pos z, if_pos z.symm]
        · rw [if_neg z, if_neg (fun y => z y.symm), hEn 348 (by omega)]
          exact h.2.2 b hb
      · refine sx_1 (sx_1 (sx_1 (fun b hb => ⟨hEn b (by omega), by rw [← hE]; rfl⟩) (by omega)) (by omega)) (by omega)
  · rcases hw with ⟨i, i1, i2, i3⟩ | ⟨_, i2⟩
    · exact absurd i2 (hne i i1)
    · rw [st, i2, e18_48]
      simp (disch := omega) only [nI_add, pk_mul, nI_clamp, nI_leI, nI_ltI, nI_eq, inb_, iz1_, iz2_, iz3_, iz4_, iz5_, reduceIte, if_pos, if_neg, op_os, op_vIs, op_vLs, op_vRs, op_vNs, dI_at, dL_at, dI_2, dL_1, Nat.reduceEqDiff, Nat.reduceAdd, Nat.reduceMul, false_and, and_false, true_and, and_true, ne_eq, not_true_eq_false, not_false_eq_true, b2_z, b2_o, b2_n, b2_01, nar_b, nar_0, nar_1, Bool.false_eq_true, Bool.true_eq_false, h.1, e]
/-- findAll -/
theorem x16 (hQ : wm_ Q) (hc : cm_ D 343 Q) (hn : Q.2.1 ≤ 60) : (mpn_ Q ≤ 400 → ∃ D', k16_0 w (d + 5) D = some (some (.int (nI (mpn_ Q))), D') ∧ ms4_ Q (mpn_ Q) D' ∧ sx_ (fun b => b = 342 ∨ (346 ≤ b ∧ b ≤ 349)) D D') ∧ (400 < mpn_ Q → ∃ D', k16_0 w (d + 5) D = some (some (.int (-104)), D') ∧ D'.1 342 6 = nI 0 ∧ sx_ (fun b => b = 342 ∨ (346 ≤ b ∧ b ≤ 349)) D D') := by
  have hk := hQ.1
  obtain ⟨E1, a1, a2, a3, a4⟩ := x186 (w := w) (d := d + 3) (D := D) (r := 348) (n := 512) (v := -1) sf_348 (by decide)
  have hcE : ∀ E, sx_ (fun b => b = 342 ∨ (346 ≤ b ∧ b ≤ 349)) D E → cm_ E 343 Q := fun E hE => cm_sx hc hE (by omega) (by omega) (by omega)
  obtain ⟨E2, b1, b2, b3, b4⟩ := lp_ (fun s (E : dy_) => k16_15 w (d + 5) (nI s) E) (fun s E => (∀ p, p < s → E.1 349 p = nI (ro_ (xmp_ Q) p)) ∧ ms4_ Q 0 E ∧ sx_ (fun b => b = 342 ∨ (346 ≤ b ∧ b ≤ 349)) D E) (Q.2.1) (s := dI_ E1 342 6 (nI 0)) (by
    rintro s E hs ⟨t1, t2, t3⟩
    refine ⟨dI_ E 349 s (nI s), ?_, fun p hp => ?_, ms4_fr t2 (fun b hb => dI_ne (by omega)), sx_1 t3 (by omega)⟩
    · show k16_15 w (d + 5) (nI s) E = _
      rw [e16_15]
      simp (disch := omega) only [nI_add, pk_mul, nI_clamp, nI_leI, nI_ltI, nI_eq, inb_, iz1_, iz2_, iz3_, iz4_, iz5_, reduceIte, if_pos, if_neg, op_os, op_vIs, op_vLs, op_vRs, op_vNs, dI_at, dL_at, dI_2, dL_1, Nat.reduceEqDiff, Nat.reduceAdd, Nat.reduceMul, false_and, and_false, true_and, and_true, ne_eq, not_true_eq_false, not_false_eq_true, b2_z, b2_o, b2_n, b2_01, nar_b, nar_0, nar_1, Bool.false_eq_true, Bool.true_eq_false, (hcE E t3).2.1]
    · simp (disch := omega) only [nI_add, pk_mul, nI_clamp, nI_leI, nI_ltI, nI_eq, inb_, iz1_, iz2_, iz3_, iz4_, iz5_, reduceIte, op_os, op_vIs, op_vLs, op_vRs, op_vNs, dI_at, dL_at, dI_2, dL_1, Nat.reduceEqDiff, Nat.reduceAdd, Nat.reduceMul, false_and, and_false, true_and, and_true, ne_eq, not_true_eq_false, not_false_eq_true, b2_z, b2_o, b2_n, b2_01, nar_b, nar_0, nar_1, Bool.false_eq_true, Bool.true_eq_false]
      by_cases y : p = s
      · rw [if_pos y, y, ro_x hs]
      · rw [if_neg y]
        exact t1 p (by omega)) ⟨fun p hp => absurd hp (by omega), ⟨by simp (disch := omega) only [nI_add, pk_mul, nI_clamp, nI_leI, nI_ltI, nI_eq, inb_, iz1_, iz2_, iz3_, iz4_, iz5_, reduceIte, if_pos, if_neg, op_os, op_vIs, op_vLs, op_vRs, op_vNs, dI_at, dL_at, dI_2, dL_1, Nat.reduceEqDiff, Nat.reduceAdd, Nat.reduceMul, false_and, and_false, true_and, and_true, ne_eq, not_true_eq_false, not_false_eq_true, b2_z, b2_o, b2_n, b2_01, nar_b, nar_0, nar_1, Bool.false_eq_true, Bool.true_eq_false], fun j hj => absurd hj (by omega), fun b hb => by simp (disch := omega) only [nI_add, pk_mul, nI_clamp, nI_leI, nI_ltI, nI_eq, inb_, iz1_, iz2_, iz3_, iz4_, iz5_, reduceIte, if_pos, if_neg, op_os, op_vIs, op_vLs, op_vRs, op_vNs, dI_at, dL_at, dI_2, dL_1, Nat.reduceEqDiff, Nat.reduceAdd, Nat.reduceMul, false_and, and_false, true_and, and_true, ne_eq, not_true_eq_false, not_false_eq_true, b2_z, b2_o, b2_n, b2_01, nar_b, nar_0, nar_1, Bool.false_eq_true, Bool.true_eq_false]; rw [a2 b hb]; rfl⟩, sx_1 (sx_w a3 (fun b hb => by omega)) (Or.inl rfl)⟩
  have hx0 : mpf_ Q 0 = xmp_ Q := kf_0 (gmp_ Q) (Q.1) (xmp_ Q)
  obtain ⟨E3, c1, c2, c3, c4⟩ := ((x18 (w := w) (d := d) b3 (by omega) (hcE E2 b4).2.1 hn b2 (dmp_0 Q) (fun j hj => absurd hj (by omega))).2 (fun j hj => absurd hj (by omega))).1 (by omega) hx0
  have s3 : sx_ (fun b => b = 342 ∨ (346 ≤ b ∧ b ≤ 349)) D E3 := sx_t b4 (sx_w c3 (fun b hb => by omega))
  have z := z40 hQ (fun i E => k16_46 w (d + 5) (nI i) E) (fun i l E => k16_63 w (d + 5) (nI i) (nI l) E) (fun c E => ms4_ Q c E ∧ sx_ (fun b => b = 342 ∨ (346 ≤ b ∧ b ≤ 349)) D E) (fun E => E.1 342 6 = nI 0 ∧ sx_ (fun b => b = 342 ∨ (346 ≤ b ∧ b ≤ 349)) D E) (by
      rintro i l E c ⟨t1, t2⟩ hi hc4 hl hf
      have hfi := hf i hi
      have hcE2 := hcE E t2
      obtain ⟨E', f1, f2, f3, f4⟩ := lp_ (fun s (E' : dy_) => k16_76 w (d + 5) (nI i) (nI l) (nI s) E') (fun s E' => (∀ p, p < s → E'.1 349 p = nI (ro_ (gmp_ Q (mpf_ Q i) l) p)) ∧ ms4_ Q c E' ∧ sx_ (fun b => b = 342 ∨ (346 ≤ b ∧ b ≤ 349)) D E') (Q.2.1) (s := E) (by
        rintro s F hs ⟨u1, u2, u3⟩
        have hb := hfi.2 s hs
        have hcF := hcE F u3
        refine ⟨dI_ F 349 s (nI (ro_ (gmp_ Q (mpf_ Q i) l) s)), ?_, fun p hp => ?_, ms4_fr u2 (fun b hb => dI_ne (by omega)), sx_1 u3 (by omega)⟩
        · show k16_76 w (d + 5) (nI i) (nI l) (nI s) F = _
          rw [e16_76, ro_g hfi.1 hs]
          simp (disch := omega) only [nI_add, pk_mul, nI_clamp, nI_leI, nI_ltI, nI_eq, inb_, iz1_, iz2_, iz3_, iz4_, iz5_, reduceIte, if_pos, if_neg, op_os, op_vIs, op_vLs, op_vRs, op_vNs, dI_at, dL_at, dI_2, dL_1, Nat.reduceEqDiff, Nat.reduceAdd, Nat.reduceMul, false_and, and_false, true_and, and_true, ne_eq, not_true_eq_false, not_false_eq_true, b2_z, b2_o, b2_n, b2_01, nar_b, nar_0, nar_1, Bool.false_eq_true, Bool.true_eq_false, hcF.2.1, x17 u2 hc4 hn hi hs, cx9 ml_343 hcF (by rw [cap_343]; exact hn) hk.2 hb hl]
        · simp (disch := omega) only [nI_add, pk_mul, nI_clamp, nI_leI, nI_ltI, nI_eq, inb_, iz1_, iz2_, iz3_, iz4_, iz5_, reduceIte, op_os, op_vIs, op_vLs, op_vRs, op_vNs, dI_at, dL_at, dI_2, dL_1, Nat.reduceEqDiff, Nat.reduceAdd, Nat.reduceMul, false_and, and_false, true_and, and_true, ne_eq, not_true_eq_false, not_false_eq_true, b2_z, b2_o, b2_n, b2_01, nar_b, nar_0, nar_1, Bool.false_eq_true, Bool.true_eq_false]
          by_cases y : p = s
          · rw [if_pos y, y]
          · rw [if_neg y]
            exact u1 p (by omega)) ⟨fun p hp => absurd hp (by omega), t1, t2⟩
      have st : k16_63 w (d + 5) (nI i) (nI l) E = op_o (k18_0 w (d + 4) E') none (fun p1 => op_vI p1.1 none (fun n1 => if n1 ≠ (nI 0) then (k16_63 w (d + 5) (nI i) (nI l + nI 1) p1.2) else (some (some (.int (-104)), (dI_ p1.2 342 6 (nI 0)))))) := by
        rw [e16_63]
        simp (disch := omega) only [nI_add, pk_mul, nI_clamp, nI_leI, nI_ltI, nI_eq, inb_, iz1_, iz2_, iz3_, iz4_, iz5_, reduceIte, if_pos, if_neg, op_os, op_vIs, op_vLs, op_vRs, op_vNs, dI_at, dL_at, dI_2, dL_1, Nat.reduceEqDiff, Nat.reduceAdd, Nat.reduceMul, false_and, and_false, true_and, and_true, ne_eq, not_true_eq_false, not_false_eq_true, b2_z, b2_o, b2_n, b2_01, nar_b, nar_0, nar_1, Bool.false_eq_true, Bool.true_eq_false, hcE2.1]
        refine Eq.trans (show _ = k16_76 w (d + 5) (nI i) (nI l) (nI (Q.2.1)) E' from f1) ?_
        rw [e16_76]
        simp (disch := omega) only [nI_add, pk_mul, nI_clamp, nI_leI, nI_ltI, nI_eq, inb_, iz1_, iz2_, iz3_, iz4_, iz5_, reduceIte, if_pos, if_neg, op_os, op_vIs, op_vLs, op_vRs, op_vNs, dI_at, dL_at, dI_2, dL_1, Nat.reduceEqDiff, Nat.reduceAdd, Nat.reduceMul, false_and, and_false, true_and, and_true, ne_eq, not_true_eq_false, not_false_eq_true, b2_z, b2_o, b2_n, b2_01, nar_b, nar_0, nar_1, Bool.false_eq_true, Bool.true_eq_false, (hcE E' f4).2.1, Nat.le_refl]
      obtain ⟨g1, g2⟩ := x18 (w := w) (d := d) (r := gmp_ Q (mpf_ Q i) l) f3 hc4 (hcE E' f4).2.1 hn f2 (dmp_g hQ _ l hfi hl) hf
      refine ⟨fun j hj e => ⟨E', ?_, f3, f4⟩, fun hne => ⟨fun hlt e => ?_, fun e => ?_⟩⟩
      · show k16_63 w (d + 5) (nI i) (nI l) E = k16_63 w (d + 5) (nI i) (nI (l + 1)) E'
        rw [st, g1 j hj e]
        simp (disch := omega) only [nI_add, pk_mul, nI_clamp, nI_leI, nI_ltI, nI_eq, inb_, iz1_, iz2_, iz3_, iz4_, iz5_, reduceIte, if_pos, if_neg, op_os, op_vIs, op_vLs, op_vRs, op_vNs, dI_at, dL_at, dI_2, dL_1, Nat.reduceEqDiff, Nat.reduceAdd, Nat.reduceMul, false_and, and_false, true_and, and_true, ne_eq, not_true_eq_false, not_false_eq_true, b2_z, b2_o, b2_n, b2_01, nar_b, nar_0, nar_1, Bool.false_eq_true, Bool.true_eq_false]
      · obtain ⟨E2, q1, q2, q3, q4⟩ := (g2 hne).1 hlt e
        refine ⟨E2, ?_, q2, sx_t f4 (sx_w q3 (fun b hb => by omega))⟩
        show k16_63 w (d + 5) (nI i) (nI l) E = k16_63 w (d + 5) (nI i) (nI (l + 1)) E2
        rw [st, q1]
        simp (disch := omega) only [nI_add, pk_mul, nI_clamp, nI_leI, nI_ltI, nI_eq, inb_, iz1_, iz2_, iz3_, iz4_, iz5_, reduceIte, if_pos, if_neg, op_os, op_vIs, op_vLs, op_vRs, op_vNs, dI_at, dL_at, dI_2, dL_1, Nat.reduceEqDiff, Nat.reduceAdd, Nat.reduceMul, false_and, and_false, true_and, and_true, ne_eq, not_true_eq_false, not_false_eq_true, b2_z, b2_o, b2_n, b2_01, nar_b, nar_0, nar_1, Bool.false_eq_true, Bool.true_eq_false]
      · refine ⟨dI_ E' 342 6 (nI 0), ?_, by simp (disch := omega) only [nI_add, pk_mul, nI_clamp, nI_leI, nI_ltI, nI_eq, inb_, iz1_, iz2_, iz3_, iz4_, iz5_, reduceIte, if_pos, if_neg, op_os, op_vIs, op_vLs, op_vRs, op_vNs, dI_at, dL_at, dI_2, dL_1, Nat.reduceEqDiff, Nat.reduceAdd, Nat.reduceMul, false_and, and_false, true_and, and_true, ne_eq, not_true_eq_false, not_false_eq_true, b2_z, b2_o, b2_n, b2_01, nar_b, nar_0, nar_1, Bool.false_eq_true, Bool.true_eq_false], sx_1 f4 (Or.inl rfl)⟩
        show k16_63 w (d + 5) (nI i) (nI l) E = _
        rw [st, (g2 hne).2 e]
        simp (disch := omega) only [nI_add, pk_mul, nI_clamp, nI_leI, nI_ltI, nI_eq, inb_, iz1_, iz2_, iz3_, iz4_, iz5_, reduceIte, if_pos, if_neg, op_os, op_vIs, op_vLs, op_vRs, op_vNs, dI_at, dL_at, dI_2, dL_1, Nat.reduceEqDiff, Nat.reduceAdd, Nat.reduceMul, false_and, and_false, true_and, and_true, ne_eq, not_true_eq_false, not_false_eq_true, b2_z, b2_o, b2_n, b2_01, nar_b, nar_0, nar_1, Bool.false_eq_true, Bool.true_eq_false]) (by
      rintro i E c ⟨t1, t2⟩ hi
      show k16_63 w (d + 5) (nI i) (nI (Q.1)) E = k16_46 w (d + 5) (nI (i + 1)) E
      rw [e16_63]
      simp (disch := omega) only [nI_add, pk_mul, nI_clamp, nI_leI, nI_ltI, nI_eq, inb_, iz1_, iz2_, iz3_, iz4_, iz5_, reduceIte, if_pos, if_neg, op_os, op_vIs, op_vLs, op_vRs, op_vNs, dI_at, dL_at, dI_2, dL_1, Nat.reduceEqDiff, Nat.reduceAdd, Nat.reduceMul, false_and, and_false, true_and, and_true, ne_eq, not_true_eq_false, not_false_eq_true, b2_z, b2_o, b2_n, b2_01, nar_b, nar_0, nar_1, Bool.false_eq_true, Bool.true_eq_false, (hcE E t2).1, Nat.le_refl]) (by
      rintro i E c ⟨t1, t2⟩ hi hc4
      show k16_46 w (d + 5) (nI i) E = k16_63 w (d + 5) (nI i) (nI 0) E
      rw [e16_46]
      simp (disch := omega) only [nI_add, pk_mul, nI_clamp, nI_leI, nI_ltI, nI_eq, inb_, iz1_, iz2_, iz3_, iz4_, iz5_, reduceIte, if_pos, if_neg, op_os, op_vIs, op_vLs, op_vRs, op_vNs, dI_at, dL_at, dI_2, dL_1, Nat.reduceEqDiff, Nat.reduceAdd, Nat.reduceMul, false_and, and_false, true_and, and_true, ne_eq, not_true_eq_false, not_false_eq_true, b2_z, b2_o, b2_n, b2_01, nar_b, nar_0, nar_1, Bool.false_eq_true, Bool.true_eq_false, t1.1]) (by
      rintro i E c ⟨t1, t2⟩ hi hi2 hc4
      show k16_46 w (d + 5) (nI i) E = _
      rw [e16_46]
      simp (disch := omega) only [nI_add, pk_mul, nI_clamp, nI_leI, nI_ltI, nI_eq, inb_, iz1_, iz2_, iz3_, iz4_, iz5_, reduceIte, if_pos, if_neg, op_os, op_vIs, op_vLs, op_vRs, op_vNs, dI_at, dL_at, dI_2, dL_1, Nat.reduceEqDiff, Nat.reduceAdd, Nat.reduceMul, false_and, and_false, true_and, and_true, ne_eq, not_true_eq_false, not_false_eq_true, b2_z, b2_o, b2_n, b2_01, nar_b, nar_0, nar_1, Bool.false_eq_true, Bool.true_eq_false, t1.1]) ⟨c2, s3⟩
  have st : k16_0 w (d + 5) D = k16_46 w (d + 5) (nI 0) E3 := by
    rw [e16_0]
    simp (disch := omega) only [nI_add, pk_mul, nI_clamp, nI_leI, nI_ltI, nI_eq, inb_, iz1_, iz2_, iz3_, iz4_, iz5_, reduceIte, if_pos, if_neg, op_os, op_vIs, op_vLs, op_vRs, op_vNs, dI_at, dL_at, dI_2, dL_1, Nat.reduceEqDiff, Nat.reduceAdd, Nat.reduceMul, false_and, and_false, true_and, and_true, ne_eq, not_true_eq_false, not_false_eq_true, b2_z, b2_o, b2_n, b2_01, nar_b, nar_0, nar_1, Bool.false_eq_true, Bool.true_eq_false, a1]
    refine Eq.trans (show _ = k16_15 w (d + 5) (nI (Q.2.1)) E2 from b1) ?_
    rw [e16_15]
    simp (disch := omega) only [nI_add, pk_mul, nI_clamp, nI_leI, nI_ltI, nI_eq, inb_, iz1_, iz2_, iz3_, iz4_, iz5_, reduceIte, if_pos, if_neg, op_os, op_vIs, op_vLs, op_vRs, op_vNs, dI_at, dL_at, dI_2, dL_1, Nat.reduceEqDiff, Nat.reduceAdd, Nat.reduceMul, false_and, and_false, true_and, and_true, ne_eq, not_true_eq_false, not_false_eq_true, b2_z, b2_o, b2_n, b2_01, nar_b, nar_0, nar_1, Bool.false_eq_true, Bool.true_eq_false, (hcE E2 b4).2.1, Nat.le_refl, c1]
  refine ⟨fun h => ?_, fun h => ?_⟩
  · obtain ⟨D', q1, q2⟩ := z.1 h
    exact ⟨D', st.trans q1, q2⟩
  · obtain ⟨D', q1, q2⟩ := z.2 h
    exact ⟨D', st.trans q1, q2⟩
end MAPS
