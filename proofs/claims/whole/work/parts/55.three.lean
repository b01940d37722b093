/-! gather: turned, then, again -/
def gtu_ (M : ma_) (x : Nat × Nat) (l : Nat) : Nat × Nat := (0, lbk_ M x.2 l)
def xtu_ (M : ma_) : Nat × Nat := (0, ese_ M)
def gth_ (A B : ma_) (x : Nat × Nat) (l : Nat) : Nat × Nat := (A.2.2.2.1 x.1 l, lon_ B x.2 l ||| (if A.2.2.2.2 (A.2.2.2.1 x.1 l) then 2 ^ B.2.2.1 else 0))
def xth_ (A B : ma_) : Nat × Nat := (A.2.2.1, if A.2.2.2.2 (A.2.2.1) then 2 ^ B.2.2.1 else 0)
def agn_ (A : ma_) (s : Nat) : Nat := if hac_ A s then s ||| 2 ^ A.2.2.1 else s
def gag_ (A : ma_) (x : Nat × Nat) (l : Nat) : Nat × Nat := (0, agn_ A (lon_ A (if x.2 = 0 then 2 ^ A.2.2.1 else x.2) l))
def xag_ : Nat × Nat := (0, 0)
theorem or_lt60 {a b : Nat} (ha : a < 2 ^ 60) (hb : b < 2 ^ 60) : a ||| b < 2 ^ 60 := Nat.or_lt_two_pow ha hb
theorem gtu_d {M : ma_} (hn : M.2.1 ≤ 60) : dm_ (xtu_ M) ∧ ∀ x l, dm_ x → l < M.1 → dm_ (gtu_ M x l) := ⟨⟨by show 0 < 60; omega, ese_lt hn⟩, fun x l _ _ => ⟨by show 0 < 60; omega, lbk_lt hn⟩⟩
theorem gth_d {A B : ma_} (wA : wm_ A) (wB : wm_ B) (nA : A.2.1 ≤ 60) (nB : B.2.1 ≤ 60) (hk : A.1 = B.1) : (∀ x, x ∈ kq_ (gth_ A B) (A.1) (xth_ A B) n50_ → x.1 < A.2.1 ∧ x.2 < 2 ^ 60) := by
  have hs := wB.2.2.1
  refine kq_dom (gth_ A B) (A.1) (xth_ A B) ⟨wA.2.2.1, ite_lt (by omega)⟩ (fun x l h hl => ⟨wA.2.2.2 _ _ h.1 hl, or_lt60 (lon_lt wB nB (by omega)) (ite_lt (by omega))⟩) n50_
theorem agn_lt {A : ma_} (wA : wm_ A) (nA : A.2.1 ≤ 60) {s : Nat} (h : s < 2 ^ 60) : agn_ A s < 2 ^ 60 := by
  have hs := wA.2.2.1
  unfold agn_
  cases hac_ A s
  · exact h
  · exact or_lt60 h (pw_lt (by omega))
/-- the sets of again hold a state, but the first -/
def dag_ (A : ma_) (x : Nat × Nat) : Prop := x.1 = 0 ∧ x.2 < 2 ^ 60 ∧ (x.2 = 0 → x = xag_) ∧ (x.2 ≠ 0 → ∃ p, p < A.2.1 ∧ x.2.testBit p = true)
theorem agn_t {A : ma_} {s p : Nat} (h : s.testBit p = true) : (agn_ A s).testBit p = true := by
  unfold agn_
  cases hac_ A s
  · exact h
  · show (s ||| 2 ^ A.2.2.1).testBit p = true
    rw [Nat.testBit_or, h]
    rfl
theorem gag_d {A : ma_} (wA : wm_ A) (nA : A.2.1 ≤ 60) : dag_ A xag_ ∧ ∀ x l, dag_ A x → l < A.1 → dag_ A (gag_ A x l) := by
  have hs := wA.2.2.1
  refine ⟨⟨rfl, by show 0 < 2 ^ 60; decide, fun _ => rfl, fun h => absurd rfl h⟩, fun x l h hl => ?_⟩
  have hb : ∃ p, p < A.2.1 ∧ (gag_ A x l).2.testBit p = true := by
    have : ∃ p, p < A.2.1 ∧ (if x.2 = 0 then 2 ^ A.2.2.1 else x.2).testBit p = true := by
      by_cases z : x.2 = 0
      · rw [if_pos z]
        exact ⟨A.2.2.1, hs, by rw [Nat.testBit_two_pow, decide_eq_true_iff]⟩
      · rw [if_neg z]
        exact h.2.2.2 z
    obtain ⟨p, p1, p2⟩ := this
    exact ⟨A.2.2.2.1 p l, wA.2.2.2 p l p1 hl, agn_t (lon_t.mpr ⟨p, p1, p2, rfl⟩)⟩
  refine ⟨rfl, agn_lt wA nA (lon_lt wA nA hl), fun z => ?_, fun _ => hb⟩
  obtain ⟨p, p1, p2⟩ := hb
  rw [z] at p2
  simp at p2
theorem gag_dm {A : ma_} (wA : wm_ A) (nA : A.2.1 ≤ 60) : dm_ xag_ ∧ ∀ x l, dm_ x → l < A.1 → dm_ (gag_ A x l) := ⟨⟨by show 0 < 60; omega, by show 0 < 2 ^ 60; decide⟩, fun x l _ hl => ⟨by show 0 < 60; omega, agn_lt wA nA (lon_lt wA nA hl)⟩⟩
theorem gag_0 {A : ma_} (wA : wm_ A) (nA : A.2.1 ≤ 60) {i : Nat} (hi : i < (kq_ (gag_ A) (A.1) xag_ n50_).length) : (kf_ (gag_ A) (A.1) xag_ n50_ i).2 = 0 ↔ i = 0 := by
  have hd := gag_d wA nA
  constructor
  · intro h
    have := (kf_dom (gag_ A) (A.1) xag_ hd.1 hd.2 hi).2.2.1 h
    refine kf_inj (gag_ A) (A.1) xag_ hi (kq_1 _ _ _ _) ?_
    rw [this, kf_0]
  · rintro rfl
    rw [kf_0]
    rfl
noncomputable def tum_ (M : ma_) : ma_ := gsm_ (M.1) (gtu_ M) (xtu_ M) (aci_ 6 (2 ^ M.2.2.1) (kf_ (gtu_ M) (M.1) (xtu_ M) n50_))
noncomputable def thm_ (A B : ma_) : ma_ := gsm_ (A.1) (gth_ A B) (xth_ A B) (aci_ 4 (ese_ B) (kf_ (gth_ A B) (A.1) (xth_ A B) n50_))
noncomputable def agm_ (A : ma_) : ma_ := gsm_ (A.1) (gag_ A) xag_ (aci_ 5 (ese_ A) (kf_ (gag_ A) (A.1) xag_ n50_))
section THREE
variable {w : (Nat → Int32) × Nat} {d : Nat} {D : dy_} {A B : ma_}
theorem x48z {f : Nat → Nat × Nat} {x : Nat × Nat} (h : sr5_ D f 0) (e : f 0 = x) (hx : dm_ x) : ∃ D', k48_0 w (d + 1) (nI x.1) (lN x.2) D = some (some (.int (nI 0)), D') ∧ sr5_ D' f 1 ∧ sx_ (fun b => 36 ≤ b ∧ b ≤ 40) D D' := by
  obtain ⟨D', a1, a2, a3⟩ := x48a (w := w) (d := d) h (by omega) e
  exact ⟨D', (x48n h (by omega) (fun j hj => absurd hj (by omega)) hx (fun j hj => absurd hj (by omega))).trans a1, a2, a3⟩
/-- the end of each -/
theorem x76e {g : Nat × Nat → Nat → Nat × Nat} {k : Nat} {x0 : Nat × Nat} {a b h je : Nat} {E : dy_} (hf : D.1 24 4 = nI 0) (st : k76_0 w (d + 3) (nI h) a b D = k76_58 w (d + 3) (nI h) a b (lN je) (nI 0) E) (H : (∃ D', k76_58 w (d + 3) (nI h) a b (lN je) (nI 0) E = some (some (.int (nI 1)), D') ∧ (kq_ g k x0 n50_).length ≤ 500 ∧ D'.1 24 3 = nI (kq_ g k x0 n50_).length ∧ D'.1 24 2 = nI k ∧ D'.1 24 4 = D.1 24 4 ∧ (∀ i l, i < (kq_ g k x0 n50_).length → l < k → D'.1 25 (i * k + l) = nI (kt_ g k x0 n50_ i l)) ∧ (∀ i, i < (kq_ g k x0 n50_).length → D'.1 26 i = b2_ (aci_ h je (kf_ g k x0 n50_) i)) ∧ sx_ gw_ D D') ∨ (∃ D', k76_58 w (d + 3) (nI h) a b (lN je) (nI 0) E = some (some (.int (nI 0)), D') ∧ 500 < (kq_ g k x0 n50_).length ∧ sx_ gw_ D D' ∧ D'.1 24 4 = D.1 24 4)) : ∃ D', k76_0 w (d + 3) (nI h) a b D = some (some (.int (b2_ (decide ((kq_ g k x0 n50_).length ≤ 500)))), D') ∧ sx_ gw_ D D' ∧ D'.1 24 4 = nI 0 ∧ ((kq_ g k x0 n50_).length ≤ 500 → cm_ D' 24 (gsm_ k g x0 (aci_ h je (kf_ g k x0 n50_)))) := by
  rcases H with ⟨D', a1, a2, a3, a4, a5, a6, a7, a8⟩ | ⟨D', a1, a2, a3, a4⟩
  · refine ⟨D', ?_, a8, by rw [a5]; exact hf, fun _ => ⟨a4, a3, by rw [a5]; exact hf, fun p l hp hl => a6 p l hp hl, a7⟩⟩
    rw [st, a1, decide_eq_true a2]
    rfl
  · refine ⟨D', ?_, a3, by rw [a4]; exact hf, fun z => absurd z (by omega)⟩
    rw [st, a1, decide_eq_false (by omega)]
    rfl
theorem x76t {a b : Nat} (ha : a ∈ ml_) (hb : b ∈ ml_) (ha24 : a ≠ 24) (hA : cm_ D a A) (wA : wm_ A) (nA : A.2.1 ≤ 60) (cA : A.2.1 ≤ cap_ a) (hf : D.1 24 4 = nI 0) : ∃ D', k76_0 w (d + 3) (nI 6) a b D = some (some (.int (b2_ (decide ((tum_ A).2.1 ≤ 500)))), D') ∧ sx_ gw_ D D' ∧ D'.1 24 4 = nI 0 ∧ ((tum_ A).2.1 ≤ 500 → cm_ D' 24 (tum_ A)) := by
  have h50 := n50_e
  have pa := ml_p ha ha24
  have hs := wA.2.2.1
  have hd := gtu_d (M := A) nA
  have s0 : sx_ gw_ D (dI_ D 24 2 (nI (A.1))) := sx_I (by unfold gw_; omega)
  obtain ⟨E1, a1, a2, a3⟩ := x47 (w := w) (d := d) (D := dI_ D 24 2 (nI (A.1))) (kf_ (gtu_ A) (A.1) (xtu_ A) n50_)
  have s1 : sx_ gw_ D E1 := sx_t s0 (sx_w a3 (fun b hb => by unfold gw_; omega))
  have hA1 := cm_sx hA s1 (by unfold gw_; omega) (by unfold gw_; omega) (by unfold gw_; omega)
  obtain ⟨E2, b1, b2, b3⟩ := x48z (w := w) (d := d) a2 (kf_0 (gtu_ A) (A.1) (xtu_ A)) hd.1
  have b1' : k48_0 w (d + 1) (nI 0) (lN (ese_ A)) E1 = some (some (.int (nI 0)), E2) := b1
  have s2 : sx_ gw_ D E2 := sx_t s1 (sx_w b3 (fun b hb => by unfold gw_; omega))
  have hA2 := cm_sx hA s2 (by unfold gw_; omega) (by unfold gw_; omega) (by unfold gw_; omega)
  have h24 : ∀ j, j ≠ 2 → E2.1 24 j = D.1 24 j := fun j hj => by
    rw [(b3 24 (by omega)).1, (a3 24 (by omega)).1]
    simp (disch := omega) only [nI_add, pk_mul, nI_clamp, nI_leI, nI_ltI, nI_eq, inb_, iz1_, iz2_, iz3_, iz4_, iz5_, reduceIte, if_pos, if_neg, op_os, op_vIs, op_vLs, op_vRs, op_vNs, dI_at, dL_at, dI_2, dL_1, Nat.reduceEqDiff, Nat.reduceAdd, Nat.reduceMul, false_and, and_false, true_and, and_true, ne_eq, not_true_eq_false, not_false_eq_true, b2_z, b2_o, b2_n, b2_01, nar_b, nar_0, nar_1, Bool.false_eq_true, Bool.true_eq_false]
  have h242 : E2.1 24 2 = nI (A.1) := by
    rw [(b3 24 (by omega)).1, (a3 24 (by omega)).1]
    simp (disch := omega) only [nI_add, pk_mul, nI_clamp, nI_leI, nI_ltI, nI_eq, inb_, iz1_, iz2_, iz3_, iz4_, iz5_, reduceIte, if_pos, if_neg, op_os, op_vIs, op_vLs, op_vRs, op_vNs, dI_at, dL_at, dI_2, dL_1, Nat.reduceEqDiff, Nat.reduceAdd, Nat.reduceMul, false_and, and_false, true_and, and_true, ne_eq, not_true_eq_false, not_false_eq_true, b2_z, b2_o, b2_n, b2_01, nar_b, nar_0, nar_1, Bool.false_eq_true, Bool.true_eq_false]
  refine x76e hf (E := E2) ?_ (x76r (w := w) (d := d + 1) (je := 2 ^ A.2.2.1) (h := 6) ha hb ha24 hA wA nA cA rfl (kq_dom (gtu_ A) (A.1) (xtu_ A) hd.1 hd.2 n50_) (fun x l hx hl => hd.2 x l (kq_dom (gtu_ A) (A.1) (xtu_ A) hd.1 hd.2 n50_ x hx) hl) (by omega) (fun z => absurd z (by decide)) (fun _ _ _ => rfl) (fun z => absurd z (by decide)) (fun E i n hE hsr hi hn hi' h0 => ?_) 501 0 E2 (by omega) (by show 1 ≤ 500; omega) ⟨b2, h242, h24 4 (by omega), fun i' l' _ h => absurd h (by unfold bef_; omega), fun i' h => absurd h (by omega), s2⟩)
  · rw [e76_0 ha hb]
    simp (disch := omega) only [nI_add, pk_mul, nI_clamp, nI_leI, nI_ltI, nI_eq, inb_, iz1_, iz2_, iz3_, iz4_, iz5_, reduceIte, if_pos, if_neg, op_os, op_vIs, op_vLs, op_vRs, op_vNs, dI_at, dL_at, dI_2, dL_1, Nat.reduceEqDiff, Nat.reduceAdd, Nat.reduceMul, false_and, and_false, true_and, and_true, ne_eq, not_true_eq_false, not_false_eq_true, b2_z, b2_o, b2_n, b2_01, nar_b, nar_0, nar_1, Bool.false_eq_true, Bool.true_eq_false, hA.1, a1, e77_0 ha hb, x13 ha hA1 nA cA, b1', hA2.2.2.1, sb1, e76_53 ha hb]
  · have hA' := cm_sx hA hE (by unfold gw_; omega) (by unfold gw_; omega) (by unfold gw_; omega)
    have hk := wA.1
    obtain ⟨E', c1, c2, c3⟩ := x80 (w := w) (d := d) (S := (kf_ (gtu_ A) (A.1) (xtu_ A) n50_ i).2) ha hA' wA nA cA (fun l hl => h0 l (by omega))
    refine ⟨E', ?_, c2, c3⟩
    rw [e78_0 ha hb]
    simp (disch := omega) only [nI_add, pk_mul, nI_clamp, nI_leI, nI_ltI, nI_eq, inb_, iz1_, iz2_, iz3_, iz4_, iz5_, reduceIte, if_pos, if_neg, op_os, op_vIs, op_vLs, op_vRs, op_vNs, dI_at, dL_at, dI_2, dL_1, Nat.reduceEqDiff, Nat.reduceAdd, Nat.reduceMul, false_and, and_false, true_and, and_true, ne_eq, not_true_eq_false, not_false_eq_true, b2_z, b2_o, b2_n, b2_01, nar_b, nar_0, nar_1, Bool.false_eq_true, Bool.true_eq_false, (hsr.2.1 i hi).1, c1]
theorem x76h {a b : Nat} (ha : a ∈ ml_) (hb : b ∈ ml_) (ha24 : a ≠ 24) (hb24 : b ≠ 24) (hA : cm_ D a A) (hB : cm_ D b B) (wA : wm_ A) (wB : wm_ B) (nA : A.2.1 ≤ 60) (nB : B.2.1 ≤ 60) (cA : A.2.1 ≤ cap_ a) (cB : B.2.1 ≤ cap_ b) (hkk : A.1 = B.1) (hf : D.1 24 4 = nI 0) : ∃ D', k76_0 w (d + 3) (nI 4) a b D = some (some (.int (b2_ (decide ((thm_ A B).2.1 ≤ 500)))), D') ∧ sx_ gw_ D D' ∧ D'.1 24 4 = nI 0 ∧ ((thm_ A B).2.1 ≤ 500 → cm_ D' 24 (thm_ A B)) := by
  have h50 := n50_e
  have pa := ml_p ha ha24
  have pb := ml_p hb hb24
  have hs := wA.2.2.1
  have hsB := wB.2.2.1
  have ca := mcap ha
  have hk := wA.1
  have hdm := gth_d wA wB nA nB hkk
  have hd0 : dm_ (xth_ A B) := ⟨by show A.2.2.1 < 60; omega, ite_lt (by omega)⟩
  have s0 : sx_ gw_ D (dI_ D 24 2 (nI (A.1))) := sx_I (by unfold gw_; omega)
  obtain ⟨E1, a1, a2, a3⟩ := x47 (w := w) (d := d) (D := dI_ D 24 2 (nI (A.1))) (kf_ (gth_ A B) (A.1) (xth_ A B) n50_)
  have s1 : sx_ gw_ D E1 := sx_t s0 (sx_w a3 (fun b hb => by unfold gw_; omega))
  have hA1 := cm_sx hA s1 (by unfold gw_; omega) (by unfold gw_; omega) (by unfold gw_; omega)
  have hB1 := cm_sx hB s1 (by unfold gw_; omega) (by unfold gw_; omega) (by unfold gw_; omega)
  obtain ⟨E2, b1, b2, b3⟩ := x48z (w := w) (d := d) a2 (kf_0 (gth_ A B) (A.1) (xth_ A B)) hd0
  have b1' : k48_0 w (d + 1) (nI (A.2.2.1)) (lN (if A.2.2.2.2 (A.2.2.1) then 2 ^ B.2.2.1 else 0)) E1 = some (some (.int (nI 0)), E2) := b1
  have s2 : sx_ gw_ D E2 := sx_t s1 (sx_w b3 (fun b hb => by unfold gw_; omega))
  have hA2 := cm_sx hA s2 (by unfold gw_; omega) (by unfold gw_; omega) (by unfold gw_; omega)
  have hB2 := cm_sx hB s2 (by unfold gw_; omega) (by unfold gw_; omega) (by unfold gw_; omega)
  have h24 : ∀ j, j ≠ 2 → E2.1 24 j = D.1 24 j := fun j hj => by
    rw [(b3 24 (by omega)).1, (a3 24 (by omega)).1]
    simp (disch := omega) only [nI_add, pk_mul, nI_clamp, nI_leI, nI_ltI, nI_eq, inb_, iz1_, iz2_, iz3_, iz4_, iz5_, reduceIte, if_pos, if_neg, op_os, op_vIs, op_vLs, op_vRs, op_vNs, dI_at, dL_at, dI_2, dL_1, Nat.reduceEqDiff, Nat.reduceAdd, Nat.reduceMul, false_and, and_false, true_and, and_true, ne_eq, not_true_eq_false, not_false_eq_true, b2_z, b2_o, b2_n, b2_01, nar_b, nar_0, nar_1, Bool.false_eq_true, Bool.true_eq_false]
  have h242 : E2.1 24 2 = nI (A.1) := by
    rw [(b3 24 (by omega)).1, (a3 24 (by omega)).1]
    simp (disch := omega) only [nI_add, pk_mul, nI_clamp, nI_leI, nI_ltI, nI_eq, inb_, iz1_, iz2_, iz3_, iz4_, iz5_, reduceIte, if_pos, if_neg, op_os, op_vIs, op_vLs, op_vRs, op_vNs, dI_at, dL_at, dI_2, dL_1, Nat.reduceEqDiff, Nat.reduceAdd, Nat.reduceMul, false_and, and_false, true_and, and_true, ne_eq, not_true_eq_false, not_false_eq_true, b2_z, b2_o, b2_n, b2_01, nar_b, nar_0, nar_1, Bool.false_eq_true, Bool.true_eq_false]
  refine x76e hf (E := E2) ?_ (x76r (w := w) (d := d + 1) (je := ese_ B) (h := 4) (g := gth_ A B) (k := A.1) (x0 := xth_ A B) ha hb ha24 hA wA nA cA rfl (fun x hx => ⟨by have := (hdm x hx).1; omega, (hdm x hx).2⟩) (fun x l hx hl => ⟨by have := wA.2.2.2 _ l (hdm x hx).1 hl; show A.2.2.2.1 x.1 l < 60; omega, or_lt60 (lon_lt wB nB (by omega)) (ite_lt (by omega))⟩) (by omega) (fun _ _ _ => rfl) (fun z => absurd rfl z) (fun _ x hx => (hdm x hx).1) (fun E i n hE hsr hi hn hi' h0 => ?_) 501 0 E2 (by omega) (by show 1 ≤ 500; omega) ⟨b2, h242, h24 4 (by omega), fun i' l' _ h => absurd h (by unfold bef_; omega), fun i' h => absurd h (by omega), s2⟩)
  · have first : k77_0 w (d + 2) (nI 4) a b E1 = some (none, E2) := by
      rw [e77_0 ha hb]
      cases hac : A.2.2.2.2 (A.2.2.1) with
      | true =>
        rw [hac, if_pos rfl] at b1'
        simp (disch := omega) only [nI_add, pk_mul, nI_clamp, nI_leI, nI_ltI, nI_eq, inb_, iz1_, iz2_, iz3_, iz4_, iz5_, reduceIte, if_pos, if_neg, op_os, op_vIs, op_vLs, op_vRs, op_vNs, dI_at, dL_at, dI_2, dL_1, Nat.reduceEqDiff, Nat.reduceAdd, Nat.reduceMul, false_and, and_false, true_and, and_true, ne_eq, not_true_eq_false, not_false_eq_true, b2_z, b2_o, b2_n, b2_01, nar_b, nar_0, nar_1, Bool.false_eq_true, Bool.true_eq_false, hA1.2.2.1, hA1.2.2.2.2 _ hs, hac, hB1.2.2.1, sb1, e77_57, b1']
      | false =>
        rw [hac, if_neg (by decide)] at b1'
        simp (disch := omega) only [nI_add, pk_mul, nI_clamp, nI_leI, nI_ltI, nI_eq, inb_, iz1_, iz2_, iz3_, iz4_, iz5_, reduceIte, if_pos, if_neg, op_os, op_vIs, op_vLs, op_vRs, op_vNs, dI_at, dL_at, dI_2, dL_1, Nat.reduceEqDiff, Nat.reduceAdd, Nat.reduceMul, false_and, and_false, true_and, and_true, ne_eq, not_true_eq_false, not_false_eq_true, b2_z, b2_o, b2_n, b2_01, nar_b, nar_0, nar_1, Bool.false_eq_true, Bool.true_eq_false, hA1.2.2.1, hA1.2.2.2.2 _ hs, hac, e77_57, b1']
    rw [e76_0 ha hb]
    simp (disch := omega) only [nI_add, pk_mul, nI_clamp, nI_leI, nI_ltI, nI_eq, inb_, iz1_, iz2_, iz3_, iz4_, iz5_, reduceIte, if_pos, if_neg, op_os, op_vIs, op_vLs, op_vRs, op_vNs, dI_at, dL_at, dI_2, dL_1, Nat.reduceEqDiff, Nat.reduceAdd, Nat.reduceMul, false_and, and_false, true_and, and_true, ne_eq, not_true_eq_false, not_false_eq_true, b2_z, b2_o, b2_n, b2_01, nar_b, nar_0, nar_1, Bool.false_eq_true, Bool.true_eq_false, hA.1, a1, first, e76_50 ha hb hb, x13 hb hB2 nB cB, e76_53 ha hb]
  · have hA' := cm_sx hA hE (by unfold gw_; omega) (by unfold gw_; omega) (by unfold gw_; omega)
    have hB' := cm_sx hB hE (by unfold gw_; omega) (by unfold gw_; omega) (by unfold gw_; omega)
    obtain ⟨F, c1, c2, c3⟩ := x79 (w := w) (d := d) (S := (kf_ (gth_ A B) (A.1) (xth_ A B) n50_ i).2) hb hB' wB nB cB (fun l hl => h0 l (by omega))
    have hx1 : (kf_ (gth_ A B) (A.1) (xth_ A B) n50_ i).1 < A.2.1 := (hdm _ (List.mem_of_getElem? (kf_get _ _ _ hi'))).1
    have h38 := (hsr.2.1 i hi).2.1
    obtain ⟨F', f1, f2, f3⟩ := lp_ (fun l (G : dy_) => k78_46 w (d + 2) (nI i) a b (nI l) G) (fun l G => (∀ l', l' < A.1 → G.2 49 l' = lN (if l' < l then (gth_ A B (kf_ (gth_ A B) (A.1) (xth_ A B) n50_ i) l').2 else lon_ B (kf_ (gth_ A B) (A.1) (xth_ A B) n50_ i).2 l')) ∧ ol_ 49 E G) (A.1) (s := F) (by
      rintro l G hl ⟨u1, u2⟩
      have hA2 := cm_ol hA' u2.1
      have hB2 := cm_ol hB' u2.1
      have hnx := wA.2.2.2 _ l hx1 hl
      have g38 : G.1 38 i = nI (kf_ (gth_ A B) (A.1) (xth_ A B) n50_ i).1 := by rw [u2.1]; exact h38
      have u1l := u1 l hl
      rw [if_neg (by omega)] at u1l
      have rest : ∀ (H : dy_), H.2 49 l = lN (gth_ A B (kf_ (gth_ A B) (A.1) (xth_ A B) n50_ i) l).2 → (∀ l', l' ≠ l → H.2 49 l' = G.2 49 l') → ∀ l', l' < A.1 → H.2 49 l' = lN (if l' < l + 1 then (gth_ A B (kf_ (gth_ A B) (A.1) (xth_ A B) n50_ i) l').2 else lon_ B (kf_ (gth_ A B) (A.1) (xth_ A B) n50_ i).2 l') := by
        intro H h1 h2 l' hl'
        by_cases z : l' = l
        · rw [z, if_pos (by omega)]; exact h1
        · rw [h2 l' z, u1 l' hl']
          by_cases y : l' < l
          · rw [if_pos y, if_pos (by omega)]
          · rw [if_neg y, if_neg (by omega)]
      have hg : (gth_ A B (kf_ (gth_ A B) (A.1) (xth_ A B) n50_ i) l).2 = lon_ B (kf_ (gth_ A B) (A.1) (xth_ A B) n50_ i).2 l ||| (if A.2.2.2.2 (A.2.2.2.1 (kf_ (gth_ A B) (A.1) (xth_ A B) n50_ i).1 l) then 2 ^ B.2.2.1 else 0) := rfl
      show ∃ s', k78_46 w (d + 2) (nI i) a b (nI l) G = _ ∧ _
      rw [e78_46 ha hb]
      cases hac : A.2.2.2.2 (A.2.2.2.1 (kf_ (gth_ A B) (A.1) (xth_ A B) n50_ i).1 l) with
      | true =>
        rw [hac, if_pos rfl] at hg
        refine ⟨dL_ G 49 l (lN (lon_ B (kf_ (gth_ A B) (A.1) (xth_ A B) n50_ i).2 l ||| 2 ^ B.2.2.1)), ?_, rest _ (by simp (disch := omega) only [nI_add, pk_mul, nI_clamp, nI_leI, nI_ltI, nI_eq, inb_, iz1_, iz2_, iz3_, iz4_, iz5_, reduceIte, if_pos, if_neg, op_os, op_vIs, op_vLs, op_vRs, op_vNs, dI_at, dL_at, dI_2, dL_1, Nat.reduceEqDiff, Nat.reduceAdd, Nat.reduceMul, false_and, and_false, true_and, and_true, ne_eq, not_true_eq_false, not_false_eq_true, b2_z, b2_o, b2_n, b2_01, nar_b, nar_0, nar_1, Bool.false_eq_true, Bool.true_eq_false]; rw [hg]) (fun l' hl' => by simp (disch := omega) only [nI_add, pk_mul, nI_clamp, nI_leI, nI_ltI, nI_eq, inb_, iz1_, iz2_, iz3_, iz4_, iz5_, reduceIte, if_pos, if_neg, op_os, op_vIs, op_vLs, op_vRs, op_vNs, dI_at, dL_at, dI_2, dL_1, Nat.reduceEqDiff, Nat.reduceAdd, Nat.reduceMul, false_and, and_false, true_and, and_true, ne_eq, not_true_eq_false, not_false_eq_true, b2_z, b2_o, b2_n, b2_01, nar_b, nar_0, nar_1, Bool.false_eq_true, Bool.true_eq_false]), ol_t u2 (ol_L _ _ _ _)⟩
        simp (disch := omega) only [nI_add, pk_mul, nI_clamp, nI_leI, nI_ltI, nI_eq, inb_, iz1_, iz2_, iz3_, iz4_, iz5_, reduceIte, if_pos, if_neg, op_os, op_vIs, op_vLs, op_vRs, op_vNs, dI_at, dL_at, dI_2, dL_1, Nat.reduceEqDiff, Nat.reduceAdd, Nat.reduceMul, false_and, and_false, true_and, and_true, ne_eq, not_true_eq_false, not_false_eq_true, b2_z, b2_o, b2_n, b2_01, nar_b, nar_0, nar_1, Bool.false_eq_true, Bool.true_eq_false, hA2.1, g38, cx9 ha hA2 cA hk.2 hx1 hl, hA2.2.2.2.2 _ hnx, hac, u1l, hB2.2.2.1, sb1, lN_or, e78_95 ha hb]
      | false =>
        rw [hac, if_neg (by decide), Nat.or_zero] at hg
        refine ⟨G, ?_, rest G (by rw [hg]; exact u1l) (fun _ _ => rfl), u2⟩
        simp (disch := omega) only [nI_add, pk_mul, nI_clamp, nI_leI, nI_ltI, nI_eq, inb_, iz1_, iz2_, iz3_, iz4_, iz5_, reduceIte, if_pos, if_neg, op_os, op_vIs, op_vLs, op_vRs, op_vNs, dI_at, dL_at, dI_2, dL_1, Nat.reduceEqDiff, Nat.reduceAdd, Nat.reduceMul, false_and, and_false, true_and, and_true, ne_eq, not_true_eq_false, not_false_eq_true, b2_z, b2_o, b2_n, b2_01, nar_b, nar_0, nar_1, Bool.false_eq_true, Bool.true_eq_false, hA2.1, g38, cx9 ha hA2 cA hk.2 hx1 hl, hA2.2.2.2.2 _ hnx, hac, e78_95 ha hb]) ⟨fun l' hl' => by rw [if_neg (by omega)]; exact c2 l' (by omega), c3⟩
    refine ⟨F', ?_, fun l hl => by rw [f2 l hl, if_pos hl], f3⟩
    rw [e78_0 ha hb]
    simp (disch := omega) only [nI_add, pk_mul, nI_clamp, nI_leI, nI_ltI, nI_eq, inb_, iz1_, iz2_, iz3_, iz4_, iz5_, reduceIte, if_pos, if_neg, op_os, op_vIs, op_vLs, op_vRs, op_vNs, dI_at, dL_at, dI_2, dL_1, Nat.reduceEqDiff, Nat.reduceAdd, Nat.reduceMul, false_and, and_false, true_and, and_true, ne_eq, not_true_eq_false, not_false_eq_true, b2_z, b2_o, b2_n, b2_01, nar_b, nar_0, nar_1, Bool.false_eq_true, Bool.true_eq_false, (hsr.2.1 i hi).1, c1]
    refine Eq.trans (show _ = k78_46 w (d + 2) (nI i) a b (nI (A.1)) F' from f1) ?_
    rw [e78_46 ha hb]
    simp (disch := omega) only [nI_add, pk_mul, nI_clamp, nI_leI, nI_ltI, nI_eq, inb_, iz1_, iz2_, iz3_, iz4_, iz5_, reduceIte, if_pos, if_neg, op_os, op_vIs, op_vLs, op_vRs, op_vNs, dI_at, dL_at, dI_2, dL_1, Nat.reduceEqDiff, Nat.reduceAdd, Nat.reduceMul, false_and, and_false, true_and, and_true, ne_eq, not_true_eq_false, not_false_eq_true, b2_z, b2_o, b2_n, b2_01, nar_b, nar_0, nar_1, Bool.false_eq_true, Bool.true_eq_false, (cm_ol hA' f3.1).1, Nat.le_refl]
theorem x76a {a b : Nat} (ha : a ∈ ml_) (hb : b ∈ ml_) (ha24 : a ≠ 24) (hA : cm_ D a A) (wA : wm_ A) (nA : A.2.1 ≤ 60) (cA : A.2.1 ≤ cap_ a) (hf : D.1 24 4 = nI 0) : ∃ D', k76_0 w (d + 4) (nI 5) a b D = some (some (.int (b2_ (decide ((agm_ A).2.1 ≤ 500)))), D') ∧ sx_ gw_ D D' ∧ D'.1 24 4 = nI 0 ∧ ((agm_ A).2.1 ≤ 500 → cm_ D' 24 (agm_ A)) := by
  have h50 := n50_e
  have pa := ml_p ha ha24
  have hs := wA.2.2.1
  have ca := mcap ha
  have hk := wA.1
  have hd := gag_dm wA nA
  have s0 : sx_ gw_ D (dI_ D 24 2 (nI (A.1))) := sx_I (by unfold gw_; omega)
  obtain ⟨E1, a1, a2, a3⟩ := x47 (w := w) (d := d + 1) (D := dI_ D 24 2 (nI (A.1))) (kf_ (gag_ A) (A.1) xag_ n50_)
  have s1 : sx_ gw_ D E1 := sx_t s0 (sx_w a3 (fun b hb => by unfold gw_; omega))
  obtain ⟨E2, b1, b2, b3⟩ := x48z (w := w) (d := d + 1) a2 (kf_0 (gag_ A) (A.1) xag_) hd.1
  have b1' : k48_0 w (d + 2) (nI 0) (lN 0) E1 = some (some (.int (nI 0)), E2) := b1
  have s2 : sx_ gw_ D E2 := sx_t s1 (sx_w b3 (fun b hb => by unfold gw_; omega))
  have hA2 := cm_sx hA s2 (by unfold gw_; omega) (by unfold gw_; omega) (by unfold gw_; omega)
  have h24 : ∀ j, j ≠ 2 → E2.1 24 j = D.1 24 j := fun j hj => by
    rw [(b3 24 (by omega)).1, (a3 24 (by omega)).1]
    simp (disch := omega) only [nI_add, pk_mul, nI_clamp, nI_leI, nI_ltI, nI_eq, inb_, iz1_, iz2_, iz3_, iz4_, iz5_, reduceIte, if_pos, if_neg, op_os, op_vIs, op_vLs, op_vRs, op_vNs, dI_at, dL_at, dI_2, dL_1, Nat.reduceEqDiff, Nat.reduceAdd, Nat.reduceMul, false_and, and_false, true_and, and_true, ne_eq, not_true_eq_false, not_false_eq_true, b2_z, b2_o, b2_n, b2_01, nar_b, nar_0, nar_1, Bool.false_eq_true, Bool.true_eq_false]
  have h242 : E2.1 24 2 = nI (A.1) := by
    rw [(b3 24 (by omega)).1, (a3 24 (by omega)).1]
    simp (disch := omega) only [nI_add, pk_mul, nI_clamp, nI_leI, nI_ltI, nI_eq, inb_, iz1_, iz2_, iz3_, iz4_, iz5_, reduceIte, if_pos, if_neg, op_os, op_vIs, op_vLs, op_vRs, op_vNs, dI_at, dL_at, dI_2, dL_1, Nat.reduceEqDiff, Nat.reduceAdd, Nat.reduceMul, false_and, and_false, true_and, and_true, ne_eq, not_true_eq_false, not_false_eq_true, b2_z, b2_o, b2_n, b2_01, nar_b, nar_0, nar_1, Bool.false_eq_true, Bool.true_eq_false]
  refine x76e hf (E := E2) ?_ (x76r (w := w) (d := d + 2) (je := ese_ A) (h := 5) (g := gag_ A) (k := A.1) (x0 := xag_) ha hb ha24 hA wA nA cA rfl (kq_dom (gag_ A) (A.1) xag_ hd.1 hd.2 n50_) (fun x l hx hl => hd.2 x l (kq_dom (gag_ A) (A.1) xag_ hd.1 hd.2 n50_ x hx) hl) (by omega) (fun z => absurd z (by decide)) (fun _ _ _ => rfl) (fun z => absurd z (by decide)) (fun E i n hE hsr hi hn hi' h0 => ?_) 501 0 E2 (by omega) (by show 1 ≤ 500; omega) ⟨b2, h242, h24 4 (by omega), fun i' l' _ h => absurd h (by unfold bef_; omega), fun i' h => absurd h (by omega), s2⟩)
  · rw [e76_0 ha hb]
    simp (disch := omega) only [nI_add, pk_mul, nI_clamp, nI_leI, nI_ltI, nI_eq, inb_, iz1_, iz2_, iz3_, iz4_, iz5_, reduceIte, if_pos, if_neg, op_os, op_vIs, op_vLs, op_vRs, op_vNs, dI_at, dL_at, dI_2, dL_1, Nat.reduceEqDiff, Nat.reduceAdd, Nat.reduceMul, false_and, and_false, true_and, and_true, ne_eq, not_true_eq_false, not_false_eq_true, b2_z, b2_o, b2_n, b2_01, nar_b, nar_0, nar_1, Bool.false_eq_true, Bool.true_eq_false, hA.1, a1, e77_0 ha hb, b1', e76_50 ha hb ha, x13 ha hA2 nA cA, e76_53 ha hb]
  · have hA' := cm_sx hA hE (by unfold gw_; omega) (by unfold gw_; omega) (by unfold gw_; omega)
    have hi0 := gag_0 wA nA hi'
    generalize hS : (if (kf_ (gag_ A) (A.1) xag_ n50_ i).2 = 0 then 2 ^ A.2.2.1 else (kf_ (gag_ A) (A.1) xag_ n50_ i).2) = S
    have st : k78_0 w (d + 3) (nI 5) (nI i) a b E = k78_127 w (d + 3) a (lN S) E := by
      rw [e78_0 ha hb]
      by_cases z : i = 0
      · rw [if_pos (hi0.mpr z)] at hS
        rw [← hS]
        simp (disch := omega) only [nI_add, pk_mul, nI_clamp, nI_leI, nI_ltI, nI_eq, inb_, iz1_, iz2_, iz3_, iz4_, iz5_, reduceIte, if_pos, if_neg, op_os, op_vIs, op_vLs, op_vRs, op_vNs, dI_at, dL_at, dI_2, dL_1, Nat.reduceEqDiff, Nat.reduceAdd, Nat.reduceMul, false_and, and_false, true_and, and_true, ne_eq, not_true_eq_false, not_false_eq_true, b2_z, b2_o, b2_n, b2_01, nar_b, nar_0, nar_1, Bool.false_eq_true, Bool.true_eq_false, z, hA'.2.2.1, sb1]
      · rw [if_neg (fun y => z (hi0.mp y))] at hS
        rw [← hS]
        simp (disch := omega) only [nI_add, pk_mul, nI_clamp, nI_leI, nI_ltI, nI_eq, inb_, iz1_, iz2_, iz3_, iz4_, iz5_, reduceIte, if_pos, if_neg, op_os, op_vIs, op_vLs, op_vRs, op_vNs, dI_at, dL_at, dI_2, dL_1, Nat.reduceEqDiff, Nat.reduceAdd, Nat.reduceMul, false_and, and_false, true_and, and_true, ne_eq, not_true_eq_false, not_false_eq_true, b2_z, b2_o, b2_n, b2_01, nar_b, nar_0, nar_1, Bool.false_eq_true, Bool.true_eq_false, (hsr.2.1 i hi).1]
    have hg : ∀ l, (gag_ A (kf_ (gag_ A) (A.1) xag_ n50_ i) l).2 = agn_ A (lon_ A S l) := fun l => by
      rw [← hS]
      rfl
    obtain ⟨F, c1, c2, c3⟩ := x79 (w := w) (d := d + 1) (S := S) ha hA' wA nA cA (fun l hl => h0 l (by omega))
    have hAF := cm_ol hA' c3.1
    obtain ⟨F', f1, f2, f3⟩ := lp_ (fun l (G : dy_) => k78_140 w (d + 3) a (lN (ese_ A)) (nI l) G) (fun l G => (∀ l', l' < A.1 → G.2 49 l' = lN (if l' < l then agn_ A (lon_ A S l') else lon_ A S l')) ∧ ol_ 49 E G) (A.1) (s := F) (by
      rintro l G hl ⟨u1, u2⟩
      have hA2 := cm_ol hA' u2.1
      have u1l := u1 l hl
      rw [if_neg (by omega)] at u1l
      have hlt := lon_lt wA nA (S := S) hl
      have rest : ∀ (H : dy_), H.2 49 l = lN (agn_ A (lon_ A S l)) → (∀ l', l' ≠ l → H.2 49 l' = G.2 49 l') → ∀ l', l' < A.1 → H.2 49 l' = lN (if l' < l + 1 then agn_ A (lon_ A S l') else lon_ A S l') := by
        intro H h1 h2 l' hl'
        by_cases z : l' = l
        · rw [z, if_pos (by omega)]; exact h1
        · rw [h2 l' z, u1 l' hl']
          by_cases y : l' < l
          · rw [if_pos y, if_pos (by omega)]
          · rw [if_neg y, if_neg (by omega)]
      have hag : agn_ A (lon_ A S l) = if hac_ A (lon_ A S l) then lon_ A S l ||| 2 ^ A.2.2.1 else lon_ A S l := rfl
      have ht := hac_t (M := A) (S := lon_ A S l)
      show ∃ s', k78_140 w (d + 3) a (lN (ese_ A)) (nI l) G = _ ∧ _
      rw [e78_140 ha]
      cases hac : hac_ A (lon_ A S l) with
      | true =>
        rw [hac] at ht
        rw [hac, if_pos rfl] at hag
        have hnz : ¬ (lon_ A S l &&& ese_ A = 0) := fun z => absurd (ht.mp z) (by decide)
        refine ⟨dL_ G 49 l (lN (lon_ A S l ||| 2 ^ A.2.2.1)), ?_, rest _ (by simp (disch := omega) only [nI_add, pk_mul, nI_clamp, nI_leI, nI_ltI, nI_eq, inb_, iz1_, iz2_, iz3_, iz4_, iz5_, reduceIte, if_pos, if_neg, op_os, op_vIs, op_vLs, op_vRs, op_vNs, dI_at, dL_at, dI_2, dL_1, Nat.reduceEqDiff, Nat.reduceAdd, Nat.reduceMul, false_and, and_false, true_and, and_true, ne_eq, not_true_eq_false, not_false_eq_true, b2_z, b2_o, b2_n, b2_01, nar_b, nar_0, nar_1, Bool.false_eq_true, Bool.true_eq_false]; rw [hag]) (fun l' hl' => by simp (disch := omega) only [nI_add, pk_mul, nI_clamp, nI_leI, nI_ltI, nI_eq, inb_, iz1_, iz2_, iz3_, iz4_, iz5_, reduceIte, if_pos, if_neg, op_os, op_vIs, op_vLs, op_vRs, op_vNs, dI_at, dL_at, dI_2, dL_1, Nat.reduceEqDiff, Nat.reduceAdd, Nat.reduceMul, false_and, and_false, true_and, and_true, ne_eq, not_true_eq_false, not_false_eq_true, b2_z, b2_o, b2_n, b2_01, nar_b, nar_0, nar_1, Bool.false_eq_true, Bool.true_eq_false]), ol_t u2 (ol_L _ _ _ _)⟩
        simp (disch := omega) only [nI_add, pk_mul, nI_clamp, nI_leI, nI_ltI, nI_eq, inb_, iz1_, iz2_, iz3_, iz4_, iz5_, reduceIte, op_os, op_vIs, op_vLs, op_vRs, op_vNs, dI_at, dL_at, dI_2, dL_1, Nat.reduceEqDiff, Nat.reduceAdd, Nat.reduceMul, false_and, and_false, true_and, and_true, ne_eq, not_true_eq_false, not_false_eq_true, b2_z, b2_o, b2_n, b2_01, nar_b, nar_0, nar_1, Bool.false_eq_true, Bool.true_eq_false, hA2.1, u1l, tb3, hA2.2.2.1, sb1, lN_or, e78_180 ha]
        rw [if_neg (by omega), if_neg hnz]
      | false =>
        rw [hac] at ht
        rw [hac, if_neg (by decide)] at hag
        have hz := ht.mpr rfl
        refine ⟨G, ?_, rest G (by rw [hag]; exact u1l) (fun _ _ => rfl), u2⟩
        simp (disch := omega) only [nI_add, pk_mul, nI_clamp, nI_leI, nI_ltI, nI_eq, inb_, iz1_, iz2_, iz3_, iz4_, iz5_, reduceIte, op_os, op_vIs, op_vLs, op_vRs, op_vNs, dI_at, dL_at, dI_2, dL_1, Nat.reduceEqDiff, Nat.reduceAdd, Nat.reduceMul, false_and, and_false, true_and, and_true, ne_eq, not_true_eq_false, not_false_eq_true, b2_z, b2_o, b2_n, b2_01, nar_b, nar_0, nar_1, Bool.false_eq_true, Bool.true_eq_false, hA2.1, u1l, tb3, e78_180 ha]
        rw [if_neg (by omega), if_pos hz]) ⟨fun l' hl' => by rw [if_neg (by omega)]; exact c2 l' hl', c3⟩
    refine ⟨F', ?_, fun l hl => by rw [f2 l hl, if_pos hl, hg], f3⟩
    rw [st, e78_127 ha]
    simp (disch := omega) only [nI_add, pk_mul, nI_clamp, nI_leI, nI_ltI, nI_eq, inb_, iz1_, iz2_, iz3_, iz4_, iz5_, reduceIte, if_pos, if_neg, op_os, op_vIs, op_vLs, op_vRs, op_vNs, dI_at, dL_at, dI_2, dL_1, Nat.reduceEqDiff, Nat.reduceAdd, Nat.reduceMul, false_and, and_false, true_and, and_true, ne_eq, not_true_eq_false, not_false_eq_true, b2_z, b2_o, b2_n, b2_01, nar_b, nar_0, nar_1, Bool.false_eq_true, Bool.true_eq_false, c1, x13 ha hAF nA cA]
    refine Eq.trans (show _ = k78_140 w (d + 3) a (lN (ese_ A)) (nI (A.1)) F' from f1) ?_
    rw [e78_140 ha]
    simp (disch := omega) only [nI_add, pk_mul, nI_clamp, nI_leI, nI_ltI, nI_eq, inb_, iz1_, iz2_, iz3_, iz4_, iz5_, reduceIte, if_pos, if_neg, op_os, op_vIs, op_vLs, op_vRs, op_vNs, dI_at, dL_at, dI_2, dL_1, Nat.reduceEqDiff, Nat.reduceAdd, Nat.reduceMul, false_and, and_false, true_and, and_true, ne_eq, not_true_eq_false, not_false_eq_true, b2_z, b2_o, b2_n, b2_01, nar_b, nar_0, nar_1, Bool.false_eq_true, Bool.true_eq_false, (cm_ol hA' f3.1).1, Nat.le_refl]
end THREE
