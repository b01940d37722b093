/-! pairs of states, as the class meets them -/
theorem nI_or (a b : Nat) : nI a ||| nI b = nI (a ||| b) := by
  apply Int32.toBitVec_inj.mp
  rw [Int32.toBitVec_or]
  unfold nI
  rw [Int32.toBitVec_ofNat', Int32.toBitVec_ofNat', Int32.toBitVec_ofNat']
  exact (BitVec.ofNat_or ..).symm
theorem lN_or (a b : Nat) : lN a ||| lN b = lN (a ||| b) := by
  apply Int64.toBitVec_inj.mp
  rw [Int64.toBitVec_or]
  unfold lN
  rw [Int64.toBitVec_ofNat', Int64.toBitVec_ofNat', Int64.toBitVec_ofNat']
  exact (BitVec.ofNat_or ..).symm
theorem lN_and (a b : Nat) : lN a &&& lN b = lN (a &&& b) := by
  apply Int64.toBitVec_inj.mp
  rw [Int64.toBitVec_and]
  unfold lN
  rw [Int64.toBitVec_ofNat', Int64.toBitVec_ofNat', Int64.toBitVec_ofNat']
  exact (BitVec.ofNat_and ..).symm
theorem or64 {p q : Nat} (h : q < 64) : p * 64 ||| q = p * 64 + q := by
  have := Nat.shiftLeft_add_eq_or_of_lt (i := 6) (a := p) (b := q) h
  rw [Nat.shiftLeft_eq] at this
  exact this.symm
theorem cd1 {p q : Nat} (hp : p < 2 ^ 20) (hq : q < 64) : (nI p <<< (nI 6 &&& 31)) ||| nI q = nI (p * 64 + q) := by
  rw [pk_shlN (nI 6 &&& 31) 6 (by decide) (by omega), nI_or, show p * 2 ^ 6 = p * 64 from rfl, or64 hq]
theorem cd2 {c : Nat} (h : c < 2 ^ 31) : nI c >>> (nI 6 &&& 31) = nI (c / 64) := pk_shrN h _ 6 (by decide)
theorem cd3 {c : Nat} (h : c < 2 ^ 31) : nI c &&& nI 63 = nI (c % 64) := pk_andN (by omega) 6 (by decide)
/-- 3600, not to be unfolded -/
noncomputable def n36_ : Nat := Classical.choose (⟨3600, rfl⟩ : ∃ n : Nat, n = 3600)
theorem n36_e : n36_ = 3600 := Classical.choose_spec (⟨3600, rfl⟩ : ∃ n : Nat, n = 3600)
/-- the place of a key -/
def ix_ {α : Type} [DecidableEq α] (K : List α) (x : α) : Nat := K.idxOf x
theorem ix_lt {α : Type} [DecidableEq α] {K : List α} {x : α} (h : x ∈ K) : ix_ K x < K.length := List.idxOf_lt_length_of_mem h
theorem kt_s1 {α : Type} [DecidableEq α] (g : α → Nat → α) (k : Nat) (x0 : α) {N : Nat} (hc : (kq_ g k x0 N).length ≤ N) {i l : Nat} (hi : i < (kq_ g k x0 N).length) (hl : l < k) (c : g (kf_ g k x0 N i) l ∈ li_ g (kf_ g k x0 N i) (kq_ g k x0 i) l) : li_ g (kf_ g k x0 N i) (kq_ g k x0 i) (l + 1) = li_ g (kf_ g k x0 N i) (kq_ g k x0 i) l ∧ kt_ g k x0 N i l = ix_ (li_ g (kf_ g k x0 N i) (kq_ g k x0 i) l) (g (kf_ g k x0 N i) l) := by
  have hin := kq_in g k x0 hc hi
  have p1 := li_f g k x0 (N := N) (l := l) (show i < N by omega) hin (by omega)
  refine ⟨?_, pre_idx p1 c⟩
  show me_ _ _ = _
  unfold me_
  rw [if_pos c]
theorem kt_s2 {α : Type} [DecidableEq α] (g : α → Nat → α) (k : Nat) (x0 : α) {N : Nat} (hc : (kq_ g k x0 N).length ≤ N) {i l : Nat} (hi : i < (kq_ g k x0 N).length) (hl : l < k) (c : g (kf_ g k x0 N i) l ∉ li_ g (kf_ g k x0 N i) (kq_ g k x0 i) l) : li_ g (kf_ g k x0 N i) (kq_ g k x0 i) (l + 1) = li_ g (kf_ g k x0 N i) (kq_ g k x0 i) l ++ [g (kf_ g k x0 N i) l] ∧ kt_ g k x0 N i l = (li_ g (kf_ g k x0 N i) (kq_ g k x0 i) l).length ∧ (li_ g (kf_ g k x0 N i) (kq_ g k x0 i) l).length < (kq_ g k x0 N).length ∧ og1_ g k x0 N (li_ g (kf_ g k x0 N i) (kq_ g k x0 i) l).length i l := by
  have hin := kq_in g k x0 hc hi
  have e2 : li_ g (kf_ g k x0 N i) (kq_ g k x0 i) (l + 1) = li_ g (kf_ g k x0 N i) (kq_ g k x0 i) l ++ [g (kf_ g k x0 N i) l] := by
    show me_ _ _ = _
    unfold me_
    rw [if_neg c]
  have p2 := li_f g k x0 (N := N) (l := l + 1) (show i < N by omega) hin (by omega)
  have et : kt_ g k x0 N i l = (li_ g (kf_ g k x0 N i) (kq_ g k x0 i) (l + 1)).idxOf (g (kf_ g k x0 N i) l) := pre_idx p2 (me_m _ _)
  have e3 : kt_ g k x0 N i l = (li_ g (kf_ g k x0 N i) (kq_ g k x0 i) l).length := by
    rw [et, e2, List.idxOf_append, if_neg c, List.idxOf_cons_self, Nat.zero_add]
  have h5 := p2.length_le
  rw [e2, List.length_append] at h5
  have h5' : (li_ g (kf_ g k x0 N i) (kq_ g k x0 i) l).length + 1 ≤ _ := h5
  have h6 := io_li g k x0 hc hi (io_kq g k x0 hc i (by omega)) l (by omega)
  have h7 := (li_p g (kf_ g k x0 N i) (kq_ g k x0 i) (Nat.zero_le l)).length_le
  exact ⟨e2, e3, by omega, Nat.lt_of_lt_of_le hin h7, hl, e3, h6.2⟩
/-- a row of the numbers of keys -/
def nb_ {α : Type} [DecidableEq α] (P : α → Prop) (enc : α → Nat) (f : Nat → Int32) (K : List α) : Prop := ∀ x, P x → f (enc x) = if x ∈ K then nI (ix_ K x) else -1
theorem nb_new {α : Type} [DecidableEq α] {P : α → Prop} {enc : α → Nat} {f f' : Nat → Int32} {K : List α} {x : α} (hinj : ∀ x y, P x → P y → enc x = enc y → x = y) (h : nb_ P enc f K) (hx : P x) (hn : x ∉ K) (h1 : f' (enc x) = nI K.length) (h2 : ∀ j, j ≠ enc x → f' j = f j) : nb_ P enc f' (K ++ [x]) := by
  intro y hy
  unfold ix_
  by_cases c : y = x
  · subst c
    rw [h1, if_pos (List.mem_append.mpr (Or.inr (List.mem_singleton.mpr rfl))), List.idxOf_append, if_neg hn, List.idxOf_cons_self, Nat.zero_add]
  · rw [h2 _ (fun z => c (hinj y x hy hx z)), h y hy]
    unfold ix_
    by_cases c2 : y ∈ K
    · rw [if_pos c2, if_pos (List.mem_append.mpr (Or.inl c2)), List.idxOf_append, if_pos c2]
    · rw [if_neg c2, if_neg (fun z => by
        rcases List.mem_append.mp z with q | q
        · exact c2 q
        · exact c (List.mem_singleton.mp q))]
/-- a row of keys -/
def ky_ {α : Type} (enc : α → Nat) (f : Nat → Int32) (K : List α) : Prop := ∀ j x, K[j]? = some x → f j = nI (enc x)
theorem ky_new {α : Type} {enc : α → Nat} {f f' : Nat → Int32} {K : List α} {x : α} (h : ky_ enc f K) (h1 : f' K.length = nI (enc x)) (h2 : ∀ j, j < K.length → f' j = f j) : ky_ enc f' (K ++ [x]) := by
  intro j y hj
  by_cases c : j < K.length
  · rw [List.getElem?_append_left c] at hj
    rw [h2 j c]
    exact h j y hj
  · rw [List.getElem?_append_right (by omega)] at hj
    by_cases z : j = K.length
    · subst z
      rw [Nat.sub_self] at hj
      rw [h1, Option.some.inj hj]
    · rw [List.getElem?_eq_none (by show 1 ≤ _; omega)] at hj
      cases hj
/-- the pairs of two machines -/
def gp_ (A B : ma_) (x : Nat × Nat) (l : Nat) : Nat × Nat := (A.2.2.2.1 x.1 l, B.2.2.2.1 x.2 l)
def dp_ (A B : ma_) (x : Nat × Nat) : Prop := x.1 < A.2.1 ∧ x.2 < B.2.1
theorem dp_g {A B : ma_} (hA : wm_ A) (hB : wm_ B) {k : Nat} (hk : k ≤ A.1 ∧ k ≤ B.1) (x : Nat × Nat) (l : Nat) (h : dp_ A B x) (hl : l < k) : dp_ A B (gp_ A B x l) := ⟨hA.2.2.2 _ _ h.1 (by omega), hB.2.2.2 _ _ h.2 (by omega)⟩
theorem gp_len {A B : ma_} (hA : wm_ A) (hB : wm_ B) {k : Nat} (hk : k ≤ A.1 ∧ k ≤ B.1) (nA : A.2.1 ≤ 60) (nB : B.2.1 ≤ 60) {x0 : Nat × Nat} (h0 : dp_ A B x0) (i : Nat) : (kq_ (gp_ A B) k x0 i).length ≤ 3600 := by
  have hd := kq_dom (gp_ A B) k x0 h0 (dp_g hA hB hk) i
  refine nodup_enc (enc := fun x => x.1 * 60 + x.2) _ (kq_n _ _ _ i) (fun x y hx hy e => ?_) (fun x hx => ?_)
  · have h1 := hd x hx
    have h2 := hd y hy
    unfold dp_ at h1 h2
    have e' : x.1 * 60 + x.2 = y.1 * 60 + y.2 := e
    exact Prod.ext (by omega) (by omega)
  · have h1 := hd x hx
    unfold dp_ at h1
    show x.1 * 60 + x.2 < 3600
    omega
/-- how a pair accepts -/
def hw_ (h : Nat) (a b : Bool) : Bool := match h with
  | 0 => a && b
  | 1 => a || b
  | 2 => a && !b
  | _ => a != b
/-- letters of both -/
def km_ (A B : ma_) : Nat := min (A.1) (B.1)
theorem km_le (A B : ma_) : km_ A B ≤ A.1 ∧ km_ A B ≤ B.1 := ⟨Nat.min_le_left _ _, Nat.min_le_right _ _⟩
noncomputable def pf_ (A B : ma_) (x0 : Nat × Nat) (i : Nat) : Nat × Nat := kf_ (gp_ A B) (km_ A B) x0 n36_ i
/-- the machine of the pairs that are met -/
noncomputable def bm_ (A B : ma_) (h : Nat) (x0 : Nat × Nat) : ma_ := (km_ A B, (kq_ (gp_ A B) (km_ A B) x0 n36_).length, 0, kt_ (gp_ A B) (km_ A B) x0 n36_, fun i => hw_ h (A.2.2.2.2 (pf_ A B x0 i).1) (B.2.2.2.2 (pf_ A B x0 i).2))
/-- in order: every number but 0 is met first from a lower one, and no higher one before it -/
def io_ (M : ma_) : Prop := ∀ v, v < M.2.1 → v ≠ 0 → ∃ i l, i < v ∧ l < M.1 ∧ M.2.2.2.1 i l = v ∧ ∀ i' l', l' < M.1 → bef_ i' l' i l → M.2.2.2.1 i' l' < v
theorem bm_wm {A B : ma_} (hA : wm_ A) (hB : wm_ B) (nA : A.2.1 ≤ 60) (nB : B.2.1 ≤ 60) (h : Nat) {x0 : Nat × Nat} (h0 : dp_ A B x0) : wm_ (bm_ A B h x0) := by
  have hl := gp_len hA hB (km_le A B) nA nB h0 n36_
  have h1 := hA.1
  have h2 := hB.1
  have h36 := n36_e
  refine ⟨⟨?_, ?_⟩, kq_1 (gp_ A B) (km_ A B) x0 n36_, kq_1 (gp_ A B) (km_ A B) x0 n36_, fun p l hp hl' => kt_lt (gp_ A B) (km_ A B) x0 (by omega) hp hl'⟩
  · show 1 ≤ min (A.1) (B.1)
    omega
  · show min (A.1) (B.1) ≤ 4
    omega
theorem bm_io {A B : ma_} (hA : wm_ A) (hB : wm_ B) (nA : A.2.1 ≤ 60) (nB : B.2.1 ≤ 60) (h : Nat) {x0 : Nat × Nat} (h0 : dp_ A B x0) : io_ (bm_ A B h x0) := by
  intro v hv hz
  have hl := gp_len hA hB (km_le A B) nA nB h0 n36_
  have h36 := n36_e
  obtain ⟨i, l, q1, q2, q3, q4⟩ := io_og (gp_ A B) (km_ A B) x0 (N := n36_) (by omega) hv hz
  exact ⟨i, l, q1, q2, q3, q4⟩
/-- the cells that the pairs are met in -/
def pw_ (b : Nat) : Prop := b = 24 ∨ b = 25 ∨ b = 26 ∨ b = 46 ∨ b = 47 ∨ b = 48
theorem ml_p {a : Nat} (h : a ∈ ml_) (h24 : a ≠ 24) : a + 2 < 24 ∨ (26 < a ∧ a + 2 < 36) ∨ (51 < a ∧ a + 2 < 340) ∨ 342 < a := (show ∀ a ∈ ml_, a ≠ 24 → (a + 2 < 24 ∨ (26 < a ∧ a + 2 < 36) ∨ (51 < a ∧ a + 2 < 340) ∨ 342 < a) from by decide +kernel) a h h24
theorem ml_24 : 24 ∈ ml_ := by decide +kernel
theorem cap_24 : cap_ 24 = 3600 := by decide +kernel
def prq_ (A B : ma_) (k : Nat) (x0 : Nat × Nat) (acc : Nat → Bool) (K : List (Nat × Nat)) (i l e : Nat) (D : dy_) : Prop := (D.1 24 2 = nI k ∧ D.1 24 3 = nI K.length) ∧ nb_ (dp_ A B) (fun x => x.1 * 64 + x.2) (D.1 47) K ∧ ky_ (fun x => x.1 * 64 + x.2) (D.1 46) K ∧ (∀ v, v < K.length → v ≠ 0 → ∃ i l, og1_ (gp_ A B) k x0 n36_ v i l ∧ D.1 48 v = nI (i * 4 + l)) ∧ (∀ i' l', l' < k → bef_ i' l' i l → D.1 25 (i' * k + l') = nI (kt_ (gp_ A B) k x0 n36_ i' l')) ∧ ∀ i', i' < e → D.1 26 i' = b2_ (acc i')
theorem sx_1 {A : Nat → Prop} {D E : dy_} {a i : Nat} {v : Int32} (h : sx_ A D E) (ha : A a) : sx_ A D (dI_ E a i v) := sx_t h (sx_I ha)
section PAIR
variable {w : (Nat → Int32) × Nat} {d : Nat} {D : dy_} {S : sp_} {B0 : Nat} {A B : ma_}
theorem x75 {h : Nat} (hh : h < 4) (a b : Bool) : k75_0 w (d + 1) (nI h) (b2_ a) (b2_ b) D = some (some (.int (b2_ (hw_ h a b))), D) := by
  rw [e75_0]
  rcases (show h = 0 ∨ h = 1 ∨ h = 2 ∨ h = 3 by omega) with rfl | rfl | rfl | rfl <;> cases a <;> cases b <;> rfl
theorem x138 {h : Nat} (hh : h < 4) (a b : Bool) : k138_0 w (d + 1) (nI h) (b2_ a) (b2_ b) D = some (some (.int (b2_ (hw_ h a b))), D) := by
  rw [e138_0]
  rcases (show h = 0 ∨ h = 1 ∨ h = 2 ∨ h = 3 by omega) with rfl | rfl | rfl | rfl <;> cases a <;> cases b <;> rfl
/-- forgetPairs -/
theorem x73 {n m : Nat} (hn : n ≤ 60) (hm : m ≤ 60) : ∃ D', k73_0 w (d + 1) (nI n) (nI m) D = some (none, D') ∧ (∀ p q, p < n → q < m → D'.1 47 (p * 64 + q) = -1) ∧ sx_ (fun b => b = 47) D D' := by
  rw [e73_0]
  obtain ⟨D', e1, e2, e3⟩ := lp_ (fun i (E : dy_) => k73_2 w (d + 1) (nI n) (nI m) (nI i) E) (fun i E => (∀ p q, p < i → q < m → E.1 47 (p * 64 + q) = -1) ∧ sx_ (fun b => b = 47) D E) n (s := D) (by
    rintro i E hi ⟨t1, t2⟩
    obtain ⟨E', f1, f2, f3⟩ := lp_ (fun j (E' : dy_) => k73_10 w (d + 1) (nI n) (nI m) (nI i) (nI j) E') (fun j E' => (∀ p q, q < m → (p < i ∨ p = i ∧ q < j) → E'.1 47 (p * 64 + q) = -1) ∧ sx_ (fun b => b = 47) D E') m (s := E) (by
      rintro j E' hj ⟨u1, u2⟩
      refine ⟨dI_ E' 47 (i * 64 + j) (-1), ?_, fun p q hq hp => ?_, sx_t u2 (sx_I rfl)⟩
      · show k73_10 w (d + 1) (nI n) (nI m) (nI i) (nI j) E' = _
        rw [e73_10]
        simp (disch := omega) only [nI_add, pk_mul, nI_clamp, nI_leI, nI_ltI, nI_eq, inb_, iz1_, iz2_, iz3_, iz4_, iz5_, reduceIte, if_pos, if_neg, op_os, op_vIs, op_vLs, op_vRs, op_vNs, dI_at, dL_at, dI_2, dL_1, Nat.reduceEqDiff, Nat.reduceAdd, Nat.reduceMul, false_and, and_false, true_and, and_true, ne_eq, not_true_eq_false, not_false_eq_true, b2_z, b2_o, b2_n, b2_01, nar_b, nar_0, nar_1, Bool.false_eq_true, Bool.true_eq_false, cd1]
      · simp (disch := omega) only [nI_add, pk_mul, nI_clamp, nI_leI, nI_ltI, nI_eq, inb_, iz1_, iz2_, iz3_, iz4_, iz5_, reduceIte, op_os, op_vIs, op_vLs, op_vRs, op_vNs, dI_at, dL_at, dI_2, dL_1, Nat.reduceEqDiff, Nat.reduceAdd, Nat.reduceMul, false_and, and_false, true_and, and_true, ne_eq, not_true_eq_false, not_false_eq_true, b2_z, b2_o, b2_n, b2_01, nar_b, nar_0, nar_1, Bool.false_eq_true, Bool.true_eq_false]
        by_cases z : p * 64 + q = i * 64 + j
        · rw [if_pos z]
        · rw [if_neg z]
          exact u1 p q hq (by omega)) ⟨fun p q hq hp => t1 p q (by omega) hq, t2⟩
    refine ⟨E', ?_, fun p q hp hq => f2 p q hq (by omega), f3⟩
    show k73_2 w (d + 1) (nI n) (nI m) (nI i) E = _
    rw [e73_2]
    simp (disch := omega) only [nI_add, pk_mul, nI_clamp, nI_leI, nI_ltI, nI_eq, inb_, iz1_, iz2_, iz3_, iz4_, iz5_, reduceIte, if_pos, if_neg, op_os, op_vIs, op_vLs, op_vRs, op_vNs, dI_at, dL_at, dI_2, dL_1, Nat.reduceEqDiff, Nat.reduceAdd, Nat.reduceMul, false_and, and_false, true_and, and_true, ne_eq, not_true_eq_false, not_false_eq_true, b2_z, b2_o, b2_n, b2_01, nar_b, nar_0, nar_1, Bool.false_eq_true, Bool.true_eq_false]
    refine f1.trans ?_
    show k73_10 w (d + 1) (nI n) (nI m) (nI i) (nI m) E' = _
    rw [e73_10]
    simp (disch := omega) only [nI_add, pk_mul, nI_clamp, nI_leI, nI_ltI, nI_eq, inb_, iz1_, iz2_, iz3_, iz4_, iz5_, reduceIte, if_pos, if_neg, op_os, op_vIs, op_vLs, op_vRs, op_vNs, dI_at, dL_at, dI_2, dL_1, Nat.reduceEqDiff, Nat.reduceAdd, Nat.reduceMul, false_and, and_false, true_and, and_true, ne_eq, not_true_eq_false, not_false_eq_true, b2_z, b2_o, b2_n, b2_01, nar_b, nar_0, nar_1, Bool.false_eq_true, Bool.true_eq_false, Nat.le_refl]) ⟨fun p q hp => absurd hp (by omega), sx_r _ _⟩
  refine ⟨D', e1.trans ?_, e2, e3⟩
  show k73_2 w (d + 1) (nI n) (nI m) (nI n) D' = _
  rw [e73_2]
  simp (disch := omega) only [nI_add, pk_mul, nI_clamp, nI_leI, nI_ltI, nI_eq, inb_, iz1_, iz2_, iz3_, iz4_, iz5_, reduceIte, if_pos, if_neg, op_os, op_vIs, op_vLs, op_vRs, op_vNs, dI_at, dL_at, dI_2, dL_1, Nat.reduceEqDiff, Nat.reduceAdd, Nat.reduceMul, false_and, and_false, true_and, and_true, ne_eq, not_true_eq_false, not_false_eq_true, b2_z, b2_o, b2_n, b2_01, nar_b, nar_0, nar_1, Bool.false_eq_true, Bool.true_eq_false, Nat.le_refl]
/-- meet: a pair that is there -/
theorem x74i {k : Nat} {x0 x : Nat × Nat} {acc : Nat → Bool} {K : List (Nat × Nat)} {i l e : Nat} {o : Int32} (h : prq_ A B k x0 acc K i l e D) (hK : K.length ≤ 3600) (nA : A.2.1 ≤ 60) (nB : B.2.1 ≤ 60) (hx : dp_ A B x) (hm : x ∈ K) : k74_0 w (d + 1) (nI (x.1 * 64 + x.2)) o D = some (some (.int (nI (ix_ K x))), D) := by
  have h1 := h.2.1 x hx
  rw [if_pos hm] at h1
  have h1' : D.1 47 (x.1 * 64 + x.2) = nI (ix_ K x) := h1
  have h2 := ix_lt hm
  unfold dp_ at hx
  rw [e74_0]
  simp (disch := omega) only [nI_add, pk_mul, nI_clamp, nI_leI, nI_ltI, nI_eq, inb_, iz1_, iz2_, iz3_, iz4_, iz5_, reduceIte, if_pos, if_neg, op_os, op_vIs, op_vLs, op_vRs, op_vNs, dI_at, dL_at, dI_2, dL_1, Nat.reduceEqDiff, Nat.reduceAdd, Nat.reduceMul, false_and, and_false, true_and, and_true, ne_eq, not_true_eq_false, not_false_eq_true, b2_z, b2_o, b2_n, b2_01, nar_b, nar_0, nar_1, Bool.false_eq_true, Bool.true_eq_false, h1']
/-- meet: a new pair -/
theorem x74n {k : Nat} {x0 x : Nat × Nat} {acc : Nat → Bool} {K : List (Nat × Nat)} {i l e : Nat} {o : Int32} (h : prq_ A B k x0 acc K i l e D) (hK : K.length < 3600) (nA : A.2.1 ≤ 60) (nB : B.2.1 ≤ 60) (hx : dp_ A B x) (hm : x ∉ K) : k74_0 w (d + 1) (nI (x.1 * 64 + x.2)) o D = some (some (.int (nI K.length)), dI_ (dI_ (dI_ (dI_ D 47 (x.1 * 64 + x.2) (nI K.length)) 46 K.length (nI (x.1 * 64 + x.2))) 48 K.length o) 24 3 (nI (K.length + 1))) := by
  have h1 := h.2.1 x hx
  rw [if_neg hm] at h1
  have h1' : D.1 47 (x.1 * 64 + x.2) = -1 := h1
  unfold dp_ at hx
  rw [e74_0]
  simp (disch := omega) only [nI_add, pk_mul, nI_clamp, nI_leI, nI_ltI, nI_eq, inb_, iz1_, iz2_, iz3_, iz4_, iz5_, reduceIte, if_pos, if_neg, op_os, op_vIs, op_vLs, op_vRs, op_vNs, dI_at, dL_at, dI_2, dL_1, Nat.reduceEqDiff, Nat.reduceAdd, Nat.reduceMul, false_and, and_false, true_and, and_true, ne_eq, not_true_eq_false, not_false_eq_true, b2_z, b2_o, b2_n, b2_01, nar_b, nar_0, nar_1, Bool.false_eq_true, Bool.true_eq_false, h1', h.1.2]
theorem dp_inj (nB : B.2.1 ≤ 60) (x y : Nat × Nat) (hx : dp_ A B x) (hy : dp_ A B y) (e : (fun x : Nat × Nat => x.1 * 64 + x.2) x = (fun x : Nat × Nat => x.1 * 64 + x.2) y) : x = y := by
  unfold dp_ at hx hy
  have e' : x.1 * 64 + x.2 = y.1 * 64 + y.2 := e
  exact Prod.ext (by omega) (by omega)
/-- pair -/
theorem x72 {a b h p q : Nat} (ha : a ∈ ml_) (hb : b ∈ ml_) (ha24 : a ≠ 24) (hb24 : b ≠ 24) (hA : cm_ D a A) (hB : cm_ D b B) (wA : wm_ A) (wB : wm_ B) (nA : A.2.1 ≤ 60) (nB : B.2.1 ≤ 60) (cA : A.2.1 ≤ cap_ a) (cB : B.2.1 ≤ cap_ b) (hh : h < 4) (hpq : dp_ A B (p, q)) (hf : D.1 24 4 = nI 0) : ∃ D', k72_0 w (d + 2) (nI h) a (nI p) b (nI q) D = some (none, D') ∧ cm_ D' 24 (bm_ A B h (p, q)) ∧ (∀ v, v < (bm_ A B h (p, q)).2.1 → v ≠ 0 → ∃ i l, og1_ (gp_ A B) (km_ A B) (p, q) n36_ v i l ∧ D'.1 48 v = nI (i * 4 + l)) ∧ sx_ pw_ D D' := by
  have pa := ml_p ha ha24
  have pb := ml_p hb hb24
  have capa := mcap ha
  have capb := mcap hb
  have hkA := wA.1
  have hkB := wB.1
  have hkm := km_le A B
  have hkm1 : 1 ≤ km_ A B := by
    show 1 ≤ min (A.1) (B.1)
    omega
  have hlen := gp_len wA wB hkm nA nB hpq
  have hc := hlen n36_
  have h36 := n36_e
  have hpq' : p < A.2.1 ∧ q < B.2.1 := hpq
  generalize hk : km_ A B = k at *
  obtain ⟨D1, a1, a2, a3⟩ := x73 (w := w) (d := d) (D := D) nA nB
  have cmA : ∀ E, sx_ pw_ D E → cm_ E a A := fun E hE => cm_sx hA hE (by unfold pw_; omega) (by unfold pw_; omega) (by unfold pw_; omega)
  have cmB : ∀ E, sx_ pw_ D E → cm_ E b B := fun E hE => cm_sx hB hE (by unfold pw_; omega) (by unfold pw_; omega) (by unfold pw_; omega)
  have s1 : sx_ pw_ D D1 := sx_w a3 (fun b hb => by unfold pw_; omega)
  let acc : Nat → Bool := fun i => hw_ h (A.2.2.2.2 (kf_ (gp_ A B) k (p, q) n36_ i).1) (B.2.2.2.2 (kf_ (gp_ A B) k (p, q) n36_ i).2)
  -- before the first pair
  have q0 : prq_ A B k (p, q) acc [] 0 0 0 (dI_ (dI_ D1 24 2 (nI k)) 24 3 (nI 0)) := by
    refine ⟨⟨by simp (disch := omega) only [nI_add, pk_mul, nI_clamp, nI_leI, nI_ltI, nI_eq, inb_, iz1_, iz2_, iz3_, iz4_, iz5_, reduceIte, if_pos, if_neg, op_os, op_vIs, op_vLs, op_vRs, op_vNs, dI_at, dL_at, dI_2, dL_1, Nat.reduceEqDiff, Nat.reduceAdd, Nat.reduceMul, false_and, and_false, true_and, and_true, ne_eq, not_true_eq_false, not_false_eq_true, b2_z, b2_o, b2_n, b2_01, nar_b, nar_0, nar_1, Bool.false_eq_true, Bool.true_eq_false], by simp (disch := omega) only [nI_add, pk_mul, nI_clamp, nI_leI, nI_ltI, nI_eq, inb_, iz1_, iz2_, iz3_, iz4_, iz5_, reduceIte, if_pos, if_neg, op_os, op_vIs, op_vLs, op_vRs, op_vNs, dI_at, dL_at, dI_2, dL_1, Nat.reduceEqDiff, Nat.reduceAdd, Nat.reduceMul, false_and, and_false, true_and, and_true, ne_eq, not_true_eq_false, not_false_eq_true, b2_z, b2_o, b2_n, b2_01, nar_b, nar_0, nar_1, Bool.false_eq_true, Bool.true_eq_false]; rfl⟩, fun x hx => ?_, fun j x hj => ?_, fun v hv => absurd hv (Nat.not_lt_zero v), fun i' l' h1 h2 => ?_, fun i' hi' => absurd hi' (Nat.not_lt_zero _)⟩
    · rw [if_neg (List.not_mem_nil)]
      simp (disch := omega) only [nI_add, pk_mul, nI_clamp, nI_leI, nI_ltI, nI_eq, inb_, iz1_, iz2_, iz3_, iz4_, iz5_, reduceIte, if_pos, if_neg, op_os, op_vIs, op_vLs, op_vRs, op_vNs, dI_at, dL_at, dI_2, dL_1, Nat.reduceEqDiff, Nat.reduceAdd, Nat.reduceMul, false_and, and_false, true_and, and_true, ne_eq, not_true_eq_false, not_false_eq_true, b2_z, b2_o, b2_n, b2_01, nar_b, nar_0, nar_1, Bool.false_eq_true, Bool.true_eq_false]
      exact a2 x.1 x.2 hx.1 hx.2
    · cases hj
    · unfold bef_ at h2
      omega
  have m0 := x74n (w := w) (d := d) (o := nI 0) q0 (show ([] : List (Nat × Nat)).length < 3600 by decide) nA nB hpq List.not_mem_nil
  have q1 : prq_ A B k (p, q) acc (kq_ (gp_ A B) k (p, q) 0) 0 0 0 (dI_ (dI_ (dI_ (dI_ (dI_ (dI_ D1 24 2 (nI k)) 24 3 (nI 0)) 47 (p * 64 + q) (nI 0)) 46 0 (nI (p * 64 + q))) 48 0 (nI 0)) 24 3 (nI 1)) := by
    refine ⟨⟨by simp (disch := omega) only [nI_add, pk_mul, nI_clamp, nI_leI, nI_ltI, nI_eq, inb_, iz1_, iz2_, iz3_, iz4_, iz5_, reduceIte, if_pos, if_neg, op_os, op_vIs, op_vLs, op_vRs, op_vNs, dI_at, dL_at, dI_2, dL_1, Nat.reduceEqDiff, Nat.reduceAdd, Nat.reduceMul, false_and, and_false, true_and, and_true, ne_eq, not_true_eq_false, not_false_eq_true, b2_z, b2_o, b2_n, b2_01, nar_b, nar_0, nar_1, Bool.false_eq_true, Bool.true_eq_false], by simp (disch := omega) only [nI_add, pk_mul, nI_clamp, nI_leI, nI_ltI, nI_eq, inb_, iz1_, iz2_, iz3_, iz4_, iz5_, reduceIte, if_pos, if_neg, op_os, op_vIs, op_vLs, op_vRs, op_vNs, dI_at, dL_at, dI_2, dL_1, Nat.reduceEqDiff, Nat.reduceAdd, Nat.reduceMul, false_and, and_false, true_and, and_true, ne_eq, not_true_eq_false, not_false_eq_true, b2_z, b2_o, b2_n, b2_01, nar_b, nar_0, nar_1, Bool.false_eq_true, Bool.true_eq_false]; rfl⟩, nb_new (dp_inj nB) q0.2.1 hpq List.not_mem_nil (by simp (disch := omega) only [nI_add, pk_mul, nI_clamp, nI_leI, nI_ltI, nI_eq, inb_, iz1_, iz2_, iz3_, iz4_, iz5_, reduceIte, if_pos, if_neg, op_os, op_vIs, op_vLs, op_vRs, op_vNs, dI_at, dL_at, dI_2, dL_1, Nat.reduceEqDiff, Nat.reduceAdd, Nat.reduceMul, false_and, and_false, true_and, and_true, ne_eq, not_true_eq_false, not_false_eq_true, b2_z, b2_o, b2_n, b2_01, nar_b, nar_0, nar_1, Bool.false_eq_true, Bool.true_eq_false]; rfl) (fun j hj => ?_), ky_new q0.2.2.1 (by show _ = nI (p * 64 + q); simp (disch := omega) only [nI_add, pk_mul, nI_clamp, nI_leI, nI_ltI, nI_eq, inb_, iz1_, iz2_, iz3_, iz4_, iz5_, reduceIte, if_pos, if_neg, op_os, op_vIs, op_vLs, op_vRs, op_vNs, dI_at, dL_at, dI_2, dL_1, Nat.reduceEqDiff, Nat.reduceAdd, Nat.reduceMul, false_and, and_false, true_and, and_true, ne_eq, not_true_eq_false, not_false_eq_true, b2_z, b2_o, b2_n, b2_01, nar_b, nar_0, nar_1, Bool.false_eq_true, Bool.true_eq_false]; rfl) (fun j hj => absurd hj (Nat.not_lt_zero j)), fun v hv hz => ?_, fun i' l' h1 h2 => ?_, fun i' hi' => absurd hi' (Nat.not_lt_zero _)⟩
    · have hj' : j ≠ p * 64 + q := hj
      simp (disch := omega) only [nI_add, pk_mul, nI_clamp, nI_leI, nI_ltI, nI_eq, inb_, iz1_, iz2_, iz3_, iz4_, iz5_, reduceIte, if_pos, if_neg, op_os, op_vIs, op_vLs, op_vRs, op_vNs, dI_at, dL_at, dI_2, dL_1, Nat.reduceEqDiff, Nat.reduceAdd, Nat.reduceMul, false_and, and_false, true_and, and_true, ne_eq, not_true_eq_false, not_false_eq_true, b2_z, b2_o, b2_n, b2_01, nar_b, nar_0, nar_1, Bool.false_eq_true, Bool.true_eq_false]
    · have : v < 1 := hv
      omega
    · unfold bef_ at h2
      omega
  have s2 : sx_ pw_ D (dI_ (dI_ (dI_ (dI_ (dI_ (dI_ D1 24 2 (nI k)) 24 3 (nI 0)) 47 (p * 64 + q) (nI 0)) 46 0 (nI (p * 64 + q))) 48 0 (nI 0)) 24 3 (nI 1)) := by
    refine sx_1 (sx_1 (sx_1 (sx_1 (sx_1 (sx_1 s1 ?_) ?_) ?_) ?_) ?_) ?_ <;> (unfold pw_; omega)
  have f2 : (dI_ (dI_ (dI_ (dI_ (dI_ (dI_ D1 24 2 (nI k)) 24 3 (nI 0)) 47 (p * 64 + q) (nI 0)) 46 0 (nI (p * 64 + q))) 48 0 (nI 0)) 24 3 (nI 1)).1 24 4 = nI 0 := by
    simp (disch := omega) only [nI_add, pk_mul, nI_clamp, nI_leI, nI_ltI, nI_eq, inb_, iz1_, iz2_, iz3_, iz4_, iz5_, reduceIte, if_pos, if_neg, op_os, op_vIs, op_vLs, op_vRs, op_vNs, dI_at, dL_at, dI_2, dL_1, Nat.reduceEqDiff, Nat.reduceAdd, Nat.reduceMul, false_and, and_false, true_and, and_true, ne_eq, not_true_eq_false, not_false_eq_true, b2_z, b2_o, b2_n, b2_01, nar_b, nar_0, nar_1, Bool.false_eq_true, Bool.true_eq_false]
    rw [(a3 24 (by omega)).1]
    exact hf
  generalize hn : (kq_ (gp_ A B) k (p, q) n36_).length = n at *
  have hc' : (kq_ (gp_ A B) k (p, q) n36_).length ≤ n36_ := by omega
  obtain ⟨D', e1, e2, e3, e4⟩ := lp_ (fun i (E : dy_) => k72_56 w (d + 2) (nI h) a b (nI i) E) (fun i E => prq_ A B k (p, q) acc (kq_ (gp_ A B) k (p, q) i) i 0 i E ∧ sx_ pw_ D E ∧ E.1 24 4 = nI 0) n (s := _) (by
    rintro i E hi ⟨t1, t2, t3⟩
    have hi' : i < (kq_ (gp_ A B) k (p, q) n36_).length := by omega
    have hin := kq_in (gp_ A B) k (p, q) hc' hi'
    have hlin := hlen i
    have hkf := kf_at (gp_ A B) k (p, q) (N := n36_) (show i ≤ n36_ by omega) hin
    have hdk : dp_ A B (kf_ (gp_ A B) k (p, q) n36_ i) := kf_dom (gp_ A B) k (p, q) hpq (dp_g wA wB hkm) hi'
    have hcode := t1.2.2.1 i _ hkf
    have hacc : acc i = hw_ h (A.2.2.2.2 (kf_ (gp_ A B) k (p, q) n36_ i).1) (B.2.2.2.2 (kf_ (gp_ A B) k (p, q) n36_ i).2) := rfl
    generalize hx : kf_ (gp_ A B) k (p, q) n36_ i = x at *
    have hcode' : E.1 46 i = nI (x.1 * 64 + x.2) := hcode
    have hd' : x.1 < A.2.1 ∧ x.2 < B.2.1 := hdk
    have hq1 : (x.1 * 64 + x.2) / 64 = x.1 := by omega
    have hq2 : (x.1 * 64 + x.2) % 64 = x.2 := by omega
    have hE1 : (E.1 (a + 2) x.1) = b2_ (A.2.2.2.2 x.1) := (cmA E t2).2.2.2.2 x.1 hd'.1
    have hE2 : (E.1 (b + 2) x.2) = b2_ (B.2.2.2.2 x.2) := (cmB E t2).2.2.2.2 x.2 hd'.2
    obtain ⟨E', f1, f3, f4, f5⟩ := lp_ (fun l (E' : dy_) => k72_132 w (d + 2) (nI h) a b (nI i) (nI x.1) (nI x.2) (nI l) E') (fun l E' => prq_ A B k (p, q) acc (li_ (gp_ A B) x (kq_ (gp_ A B) k (p, q) i) l) i l (i + 1) E' ∧ sx_ pw_ D E' ∧ E'.1 24 4 = nI 0) k (s := dI_ E 26 i (b2_ (acc i))) (by
      rintro l E' hl ⟨u1, u2, u3⟩
      have hdg : dp_ A B (gp_ A B x l) := dp_g wA wB hkm x l hdk hl
      have hdg' : A.2.2.2.1 x.1 l < A.2.1 ∧ B.2.2.2.1 x.2 l < B.2.1 := hdg
      have hlead : ∀ (E2 : dy_) (v : Nat), E2.1 24 2 = nI k → k10_0 w (d + 1) 24 (nI i) (nI l) (nI v) E2 = some (none, dI_ E2 25 (i * k + l) (nI v)) := fun E2 v h2 => m_lead ml_24 (k := k) h2 (by
        rw [cap_24]
        have := mul_in (show i < 3600 by omega) hl
        have h4 : 3600 * k ≤ 3600 * 4 := Nat.mul_le_mul_left _ (by omega)
        omega)
      have huniq : ∀ i' l', l' < k → (i' * k + l' = i * k + l ↔ i' = i ∧ l' = l) := fun i' l' hl' => pl_inj hl hl'
      have step : ∀ r, k74_0 w (d + 1) (nI (A.2.2.2.1 x.1 l * 64 + B.2.2.2.1 x.2 l)) (nI (i * 4 + l)) E' = r → k72_132 w (d + 2) (nI h) a b (nI i) (nI x.1) (nI x.2) (nI l) E' = op_o r none (fun p3 => op_vI p3.1 none (fun n3 => op_o (k10_0 w (d + 1) 24 (nI i) (nI l) n3 p3.2) none (fun p4 => op_vN p4.1 none (k72_132 w (d + 2) (nI h) a b (nI i) (nI x.1) (nI x.2) (nI (l + 1)) p4.2)))) := by
        intro r hr
        rw [e72_132 ha hb]
        simp (disch := omega) only [nI_add, pk_mul, nI_clamp, nI_leI, nI_ltI, nI_eq, inb_, iz1_, iz2_, iz3_, iz4_, iz5_, reduceIte, if_pos, if_neg, op_os, op_vIs, op_vLs, op_vRs, op_vNs, dI_at, dL_at, dI_2, dL_1, Nat.reduceEqDiff, Nat.reduceAdd, Nat.reduceMul, false_and, and_false, true_and, and_true, ne_eq, not_true_eq_false, not_false_eq_true, b2_z, b2_o, b2_n, b2_01, nar_b, nar_0, nar_1, Bool.false_eq_true, Bool.true_eq_false, u1.1.1, cx9 ha (cmA E' u2) cA hkA.2 hd'.1 (show l < A.1 by omega), cx9 hb (cmB E' u2) cB hkB.2 hd'.2 (show l < B.1 by omega), cd1, hr]
      by_cases cm : gp_ A B x l ∈ li_ (gp_ A B) x (kq_ (gp_ A B) k (p, q) i) l
      · obtain ⟨k1, k2⟩ := kt_s1 (gp_ A B) k (p, q) hc' hi' hl (by rw [hx]; exact cm)
        rw [hx] at k1 k2
        have hKl : (li_ (gp_ A B) x (kq_ (gp_ A B) k (p, q) i) l).length ≤ 3600 := by
          have := (li_f (gp_ A B) k (p, q) (N := n36_) (l := l) (show i < n36_ by omega) hin (by omega)).length_le
          rw [hx] at this
          omega
        have hm := x74i (w := w) (d := d) (o := nI (i * 4 + l)) u1 hKl nA nB hdg cm
        rw [← k2] at hm
        refine ⟨dI_ E' 25 (i * k + l) (nI (kt_ (gp_ A B) k (p, q) n36_ i l)), (step _ hm).trans ?_, ⟨⟨?_, ?_⟩, fun y hy => ?_, fun j y hj => ?_, fun v hv hz => ?_, fun i' l' h1 h2 => ?_, fun i' hi' => ?_⟩, sx_t u2 (sx_I (by unfold pw_; omega)), ?_⟩
        · simp (disch := omega) only [nI_add, pk_mul, nI_clamp, nI_leI, nI_ltI, nI_eq, inb_, iz1_, iz2_, iz3_, iz4_, iz5_, reduceIte, if_pos, if_neg, op_os, op_vIs, op_vLs, op_vRs, op_vNs, dI_at, dL_at, dI_2, dL_1, Nat.reduceEqDiff, Nat.reduceAdd, Nat.reduceMul, false_and, and_false, true_and, and_true, ne_eq, not_true_eq_false, not_false_eq_true, b2_z, b2_o, b2_n, b2_01, nar_b, nar_0, nar_1, Bool.false_eq_true, Bool.true_eq_false, hlead _ _ u1.1.1]
        · simp (disch := omega) only [nI_add, pk_mul, nI_clamp, nI_leI, nI_ltI, nI_eq, inb_, iz1_, iz2_, iz3_, iz4_, iz5_, reduceIte, if_pos, if_neg, op_os, op_vIs, op_vLs, op_vRs, op_vNs, dI_at, dL_at, dI_2, dL_1, Nat.reduceEqDiff, Nat.reduceAdd, Nat.reduceMul, false_and, and_false, true_and, and_true, ne_eq, not_true_eq_false, not_false_eq_true, b2_z, b2_o, b2_n, b2_01, nar_b, nar_0, nar_1, Bool.false_eq_true, Bool.true_eq_false]; exact u1.1.1
        · rw [k1]; simp (disch := omega) only [nI_add, pk_mul, nI_clamp, nI_leI, nI_ltI, nI_eq, inb_, iz1_, iz2_, iz3_, iz4_, iz5_, reduceIte, if_pos, if_neg, op_os, op_vIs, op_vLs, op_vRs, op_vNs, dI_at, dL_at, dI_2, dL_1, Nat.reduceEqDiff, Nat.reduceAdd, Nat.reduceMul, false_and, and_false, true_and, and_true, ne_eq, not_true_eq_false, not_false_eq_true, b2_z, b2_o, b2_n, b2_01, nar_b, nar_0, nar_1, Bool.false_eq_true, Bool.true_eq_false]; exact u1.1.2
        · rw [k1]; simp (disch := omega) only [nI_add, pk_mul, nI_clamp, nI_leI, nI_ltI, nI_eq, inb_, iz1_, iz2_, iz3_, iz4_, iz5_, reduceIte, if_pos, if_neg, op_os, op_vIs, op_vLs, op_vRs, op_vNs, dI_at, dL_at, dI_2, dL_1, Nat.reduceEqDiff, Nat.reduceAdd, Nat.reduceMul, false_and, and_false, true_and, and_true, ne_eq, not_true_eq_false, not_false_eq_true, b2_z, b2_o, b2_n, b2_01, nar_b, nar_0, nar_1, Bool.false_eq_true, Bool.true_eq_false]; exact u1.2.1 y hy
        · rw [k1] at hj; simp (disch := omega) only [nI_add, pk_mul, nI_clamp, nI_leI, nI_ltI, nI_eq, inb_, iz1_, iz2_, iz3_, iz4_, iz5_, reduceIte, if_pos, if_neg, op_os, op_vIs, op_vLs, op_vRs, op_vNs, dI_at, dL_at, dI_2, dL_1, Nat.reduceEqDiff, Nat.reduceAdd, Nat.reduceMul, false_and, and_false, true_and, and_true, ne_eq, not_true_eq_false, not_false_eq_true, b2_z, b2_o, b2_n, b2_01, nar_b, nar_0, nar_1, Bool.false_eq_true, Bool.true_eq_false]; exact u1.2.2.1 j y hj
        · rw [k1] at hv
          obtain ⟨v1, v2, v3, v4⟩ := u1.2.2.2.1 v hv hz
          exact ⟨v1, v2, v3, by simp (disch := omega) only [nI_add, pk_mul, nI_clamp, nI_leI, nI_ltI, nI_eq, inb_, iz1_, iz2_, iz3_, iz4_, iz5_, reduceIte, if_pos, if_neg, op_os, op_vIs, op_vLs, op_vRs, op_vNs, dI_at, dL_at, dI_2, dL_1, Nat.reduceEqDiff, Nat.reduceAdd, Nat.reduceMul, false_and, and_false, true_and, and_true, ne_eq, not_true_eq_false, not_false_eq_true, b2_z, b2_o, b2_n, b2_01, nar_b, nar_0, nar_1, Bool.false_eq_true, Bool.true_eq_false]; exact v4⟩
        · simp (disch := omega) only [nI_add, pk_mul, nI_clamp, nI_leI, nI_ltI, nI_eq, inb_, iz1_, iz2_, iz3_, iz4_, iz5_, reduceIte, op_os, op_vIs, op_vLs, op_vRs, op_vNs, dI_at, dL_at, dI_2, dL_1, Nat.reduceEqDiff, Nat.reduceAdd, Nat.reduceMul, false_and, and_false, true_and, and_true, ne_eq, not_true_eq_false, not_false_eq_true, b2_z, b2_o, b2_n, b2_01, nar_b, nar_0, nar_1, Bool.false_eq_true, Bool.true_eq_false, huniq i' l' h1]
          by_cases z : i' = i ∧ l' = l
          · rw [if_pos z, z.1, z.2]
          · rw [if_neg z]
            exact u1.2.2.2.2.1 i' l' h1 (by unfold bef_ at *; omega)
        · simp (disch := omega) only [nI_add, pk_mul, nI_clamp, nI_leI, nI_ltI, nI_eq, inb_, iz1_, iz2_, iz3_, iz4_, iz5_, reduceIte, if_pos, if_neg, op_os, op_vIs, op_vLs, op_vRs, op_vNs, dI_at, dL_at, dI_2, dL_1, Nat.reduceEqDiff, Nat.reduceAdd, Nat.reduceMul, false_and, and_false, true_and, and_true, ne_eq, not_true_eq_false, not_false_eq_true, b2_z, b2_o, b2_n, b2_01, nar_b, nar_0, nar_1, Bool.false_eq_true, Bool.true_eq_false]; exact u1.2.2.2.2.2 i' hi'
        · simp (disch := omega) only [nI_add, pk_mul, nI_clamp, nI_leI, nI_ltI, nI_eq, inb_, iz1_, iz2_, iz3_, iz4_, iz5_, reduceIte, if_pos, if_neg, op_os, op_vIs, op_vLs, op_vRs, op_vNs, dI_at, dL_at, dI_2, dL_1, Nat.reduceEqDiff, Nat.reduceAdd, Nat.reduceMul, false_and, and_false, true_and, and_true, ne_eq, not_true_eq_false, not_false_eq_true, b2_z, b2_o, b2_n, b2_01, nar_b, nar_0, nar_1, Bool.false_eq_true, Bool.true_eq_false]; exact u3
      · obtain ⟨k1, k2, k3, k4⟩ := kt_s2 (gp_ A B) k (p, q) hc' hi' hl (by rw [hx]; exact cm)
        rw [hx] at k1 k2 k3 k4
        generalize hK : li_ (gp_ A B) x (kq_ (gp_ A B) k (p, q) i) l = K at *
        have hm := x74n (w := w) (d := d) (o := nI (i * 4 + l)) u1 (by omega) nA nB hdg cm
        rw [← k2] at hm
        refine ⟨dI_ (dI_ (dI_ (dI_ (dI_ E' 47 ((gp_ A B x l).1 * 64 + (gp_ A B x l).2) (nI (kt_ (gp_ A B) k (p, q) n36_ i l))) 46 (kt_ (gp_ A B) k (p, q) n36_ i l) (nI ((gp_ A B x l).1 * 64 + (gp_ A B x l).2))) 48 (kt_ (gp_ A B) k (p, q) n36_ i l) (nI (i * 4 + l))) 24 3 (nI (kt_ (gp_ A B) k (p, q) n36_ i l + 1))) 25 (i * k + l) (nI (kt_ (gp_ A B) k (p, q) n36_ i l)), (step _ hm).trans ?_, ⟨⟨?_, ?_⟩, ?_, ?_, fun v hv hz => ?_, fun i' l' h1 h2 => ?_, fun i' hi' => ?_⟩, ?_, ?_⟩
        · rw [op_os, op_vIs]
          dsimp only
          rw [hlead _ _ (by simp (disch := omega) only [nI_add, pk_mul, nI_clamp, nI_leI, nI_ltI, nI_eq, inb_, iz1_, iz2_, iz3_, iz4_, iz5_, reduceIte, if_pos, if_neg, op_os, op_vIs, op_vLs, op_vRs, op_vNs, dI_at, dL_at, dI_2, dL_1, Nat.reduceEqDiff, Nat.reduceAdd, Nat.reduceMul, false_and, and_false, true_and, and_true, ne_eq, not_true_eq_false, not_false_eq_true, b2_z, b2_o, b2_n, b2_01, nar_b, nar_0, nar_1, Bool.false_eq_true, Bool.true_eq_false]; exact u1.1.1)]
          simp (disch := omega) only [nI_add, pk_mul, nI_clamp, nI_leI, nI_ltI, nI_eq, inb_, iz1_, iz2_, iz3_, iz4_, iz5_, reduceIte, if_pos, if_neg, op_os, op_vIs, op_vLs, op_vRs, op_vNs, dI_at, dL_at, dI_2, dL_1, Nat.reduceEqDiff, Nat.reduceAdd, Nat.reduceMul, false_and, and_false, true_and, and_true, ne_eq, not_true_eq_false, not_false_eq_true, b2_z, b2_o, b2_n, b2_01, nar_b, nar_0, nar_1, Bool.false_eq_true, Bool.true_eq_false]
        · simp (disch := omega) only [nI_add, pk_mul, nI_clamp, nI_leI, nI_ltI, nI_eq, inb_, iz1_, iz2_, iz3_, iz4_, iz5_, reduceIte, if_pos, if_neg, op_os, op_vIs, op_vLs, op_vRs, op_vNs, dI_at, dL_at, dI_2, dL_1, Nat.reduceEqDiff, Nat.reduceAdd, Nat.reduceMul, false_and, and_false, true_and, and_true, ne_eq, not_true_eq_false, not_false_eq_true, b2_z, b2_o, b2_n, b2_01, nar_b, nar_0, nar_1, Bool.false_eq_true, Bool.true_eq_false]; exact u1.1.1
        · rw [k1, List.length_append, k2]; simp (disch := omega) only [nI_add, pk_mul, nI_clamp, nI_leI, nI_ltI, nI_eq, inb_, iz1_, iz2_, iz3_, iz4_, iz5_, reduceIte, if_pos, if_neg, op_os, op_vIs, op_vLs, op_vRs, op_vNs, dI_at, dL_at, dI_2, dL_1, Nat.reduceEqDiff, Nat.reduceAdd, Nat.reduceMul, false_and, and_false, true_and, and_true, ne_eq, not_true_eq_false, not_false_eq_true, b2_z, b2_o, b2_n, b2_01, nar_b, nar_0, nar_1, Bool.false_eq_true, Bool.true_eq_false]; rfl
        · rw [k1]
          exact nb_new (dp_inj nB) u1.2.1 hdg cm (by simp (disch := omega) only [nI_add, pk_mul, nI_clamp, nI_leI, nI_ltI, nI_eq, inb_, iz1_, iz2_, iz3_, iz4_, iz5_, reduceIte, if_pos, if_neg, op_os, op_vIs, op_vLs, op_vRs, op_vNs, dI_at, dL_at, dI_2, dL_1, Nat.reduceEqDiff, Nat.reduceAdd, Nat.reduceMul, false_and, and_false, true_and, and_true, ne_eq, not_true_eq_false, not_false_eq_true, b2_z, b2_o, b2_n, b2_01, nar_b, nar_0, nar_1, Bool.false_eq_true, Bool.true_eq_false]; rw [k2]) (fun j hj => by
            have hj' : j ≠ (gp_ A B x l).1 * 64 + (gp_ A B x l).2 := hj
            simp (disch := omega) only [nI_add, pk_mul, nI_clamp, nI_leI, nI_ltI, nI_eq, inb_, iz1_, iz2_, iz3_, iz4_, iz5_, reduceIte, if_pos, if_neg, op_os, op_vIs, op_vLs, op_vRs, op_vNs, dI_at, dL_at, dI_2, dL_1, Nat.reduceEqDiff, Nat.reduceAdd, Nat.reduceMul, false_and, and_false, true_and, and_true, ne_eq, not_true_eq_false, not_false_eq_true, b2_z, b2_o, b2_n, b2_01, nar_b, nar_0, nar_1, Bool.false_eq_true, Bool.true_eq_false])
        · rw [k1]
          exact ky_new u1.2.2.1 (by rw [← k2]; simp (disch := omega) only [nI_add, pk_mul, nI_clamp, nI_leI, nI_ltI, nI_eq, inb_, iz1_, iz2_, iz3_, iz4_, iz5_, reduceIte, if_pos, if_neg, op_os, op_vIs, op_vLs, op_vRs, op_vNs, dI_at, dL_at, dI_2, dL_1, Nat.reduceEqDiff, Nat.reduceAdd, Nat.reduceMul, false_and, and_false, true_and, and_true, ne_eq, not_true_eq_false, not_false_eq_true, b2_z, b2_o, b2_n, b2_01, nar_b, nar_0, nar_1, Bool.false_eq_true, Bool.true_eq_false]) (fun j hj => by simp (disch := omega) only [nI_add, pk_mul, nI_clamp, nI_leI, nI_ltI, nI_eq, inb_, iz1_, iz2_, iz3_, iz4_, iz5_, reduceIte, if_pos, if_neg, op_os, op_vIs, op_vLs, op_vRs, op_vNs, dI_at, dL_at, dI_2, dL_1, Nat.reduceEqDiff, Nat.reduceAdd, Nat.reduceMul, false_and, and_false, true_and, and_true, ne_eq, not_true_eq_false, not_false_eq_true, b2_z, b2_o, b2_n, b2_01, nar_b, nar_0, nar_1, Bool.false_eq_true, Bool.true_eq_false])
        · rw [k1, List.length_append] at hv
          have hv' : v < K.length + 1 := hv
          by_cases z : v = K.length
          · refine ⟨i, l, by rw [z]; exact k4, ?_⟩
            rw [z, ← k2]
            simp (disch := omega) only [nI_add, pk_mul, nI_clamp, nI_leI, nI_ltI, nI_eq, inb_, iz1_, iz2_, iz3_, iz4_, iz5_, reduceIte, if_pos, if_neg, op_os, op_vIs, op_vLs, op_vRs, op_vNs, dI_at, dL_at, dI_2, dL_1, Nat.reduceEqDiff, Nat.reduceAdd, Nat.reduceMul, false_and, and_false, true_and, and_true, ne_eq, not_true_eq_false, not_false_eq_true, b2_z, b2_o, b2_n, b2_01, nar_b, nar_0, nar_1, Bool.false_eq_true, Bool.true_eq_false]
          · obtain ⟨v1, v2, v3, v4⟩ := u1.2.2.2.1 v (by omega) hz
            exact ⟨v1, v2, v3, by simp (disch := omega) only [nI_add, pk_mul, nI_clamp, nI_leI, nI_ltI, nI_eq, inb_, iz1_, iz2_, iz3_, iz4_, iz5_, reduceIte, if_pos, if_neg, op_os, op_vIs, op_vLs, op_vRs, op_vNs, dI_at, dL_at, dI_2, dL_1, Nat.reduceEqDiff, Nat.reduceAdd, Nat.reduceMul, false_and, and_false, true_and, and_true, ne_eq, not_true_eq_false, not_false_eq_true, b2_z, b2_o, b2_n, b2_01, nar_b, nar_0, nar_1, Bool.false_eq_true, Bool.true_eq_false]; exact v4⟩
        · simp (disch := omega) only [nI_add, pk_mul, nI_clamp, nI_leI, nI_ltI, nI_eq, inb_, iz1_, iz2_, iz3_, iz4_, iz5_, reduceIte, op_os, op_vIs, op_vLs, op_vRs, op_vNs, dI_at, dL_at, dI_2, dL_1, Nat.reduceEqDiff, Nat.reduceAdd, Nat.reduceMul, false_and, and_false, true_and, and_true, ne_eq, not_true_eq_false, not_false_eq_true, b2_z, b2_o, b2_n, b2_01, nar_b, nar_0, nar_1, Bool.false_eq_true, Bool.true_eq_false, huniq i' l' h1]
          by_cases z : i' = i ∧ l' = l
          · rw [if_pos z, z.1, z.2]
          · rw [if_neg z]
            exact u1.2.2.2.2.1 i' l' h1 (by unfold bef_ at *; omega)
        · simp (disch := omega) only [nI_add, pk_mul, nI_clamp, nI_leI, nI_ltI, nI_eq, inb_, iz1_, iz2_, iz3_, iz4_, iz5_, reduceIte, if_pos, if_neg, op_os, op_vIs, op_vLs, op_vRs, op_vNs, dI_at, dL_at, dI_2, dL_1, Nat.reduceEqDiff, Nat.reduceAdd, Nat.reduceMul, false_and, and_false, true_and, and_true, ne_eq, not_true_eq_false, not_false_eq_true, b2_z, b2_o, b2_n, b2_01, nar_b, nar_0, nar_1, Bool.false_eq_true, Bool.true_eq_false]; exact u1.2.2.2.2.2 i' hi'
        · refine sx_1 (sx_1 (sx_1 (sx_1 (sx_1 u2 ?_) ?_) ?_) ?_) ?_ <;> (unfold pw_; omega)
        · simp (disch := omega) only [nI_add, pk_mul, nI_clamp, nI_leI, nI_ltI, nI_eq, inb_, iz1_, iz2_, iz3_, iz4_, iz5_, reduceIte, if_pos, if_neg, op_os, op_vIs, op_vLs, op_vRs, op_vNs, dI_at, dL_at, dI_2, dL_1, Nat.reduceEqDiff, Nat.reduceAdd, Nat.reduceMul, false_and, and_false, true_and, and_true, ne_eq, not_true_eq_false, not_false_eq_true, b2_z, b2_o, b2_n, b2_01, nar_b, nar_0, nar_1, Bool.false_eq_true, Bool.true_eq_false]; exact u3) ⟨⟨⟨by simp (disch := omega) only [nI_add, pk_mul, nI_clamp, nI_leI, nI_ltI, nI_eq, inb_, iz1_, iz2_, iz3_, iz4_, iz5_, reduceIte, if_pos, if_neg, op_os, op_vIs, op_vLs, op_vRs, op_vNs, dI_at, dL_at, dI_2, dL_1, Nat.reduceEqDiff, Nat.reduceAdd, Nat.reduceMul, false_and, and_false, true_and, and_true, ne_eq, not_true_eq_false, not_false_eq_true, b2_z, b2_o, b2_n, b2_01, nar_b, nar_0, nar_1, Bool.false_eq_true, Bool.true_eq_false]; exact t1.1.1, by simp (disch := omega) only [nI_add, pk_mul, nI_clamp, nI_leI, nI_ltI, nI_eq, inb_, iz1_, iz2_, iz3_, iz4_, iz5_, reduceIte, if_pos, if_neg, op_os, op_vIs, op_vLs, op_vRs, op_vNs, dI_at, dL_at, dI_2, dL_1, Nat.reduceEqDiff, Nat.reduceAdd, Nat.reduceMul, false_and, and_false, true_and, and_true, ne_eq, not_true_eq_false, not_false_eq_true, b2_z, b2_o, b2_n, b2_01, nar_b, nar_0, nar_1, Bool.false_eq_true, Bool.true_eq_false]; exact t1.1.2⟩, fun y hy => by simp (disch := omega) only [nI_add, pk_mul, nI_clamp, nI_leI, nI_ltI, nI_eq, inb_, iz1_, iz2_, iz3_, iz4_, iz5_, reduceIte, if_pos, if_neg, op_os, op_vIs, op_vLs, op_vRs, op_vNs, dI_at, dL_at, dI_2, dL_1, Nat.reduceEqDiff, Nat.reduceAdd, Nat.reduceMul, false_and, and_false, true_and, and_true, ne_eq, not_true_eq_false, not_false_eq_true, b2_z, b2_o, b2_n, b2_01, nar_b, nar_0, nar_1, Bool.false_eq_true, Bool.true_eq_false]; exact t1.2.1 y hy, fun j y hj => by simp (disch := omega) only [nI_add, pk_mul, nI_clamp, nI_leI, nI_ltI, nI_eq, inb_, iz1_, iz2_, iz3_, iz4_, iz5_, reduceIte, if_pos, if_neg, op_os, op_vIs, op_vLs, op_vRs, op_vNs, dI_at, dL_at, dI_2, dL_1, Nat.reduceEqDiff, Nat.reduceAdd, Nat.reduceMul, false_and, and_false, true_and, and_true, ne_eq, not_true_eq_false, not_false_eq_true, b2_z, b2_o, b2_n, b2_01, nar_b, nar_0, nar_1, Bool.false_eq_true, Bool.true_eq_false]; exact t1.2.2.1 j y hj, fun v hv hz => by
          obtain ⟨v1, v2, v3, v4⟩ := t1.2.2.2.1 v hv hz
          exact ⟨v1, v2, v3, by simp (disch := omega) only [nI_add, pk_mul, nI_clamp, nI_leI, nI_ltI, nI_eq, inb_, iz1_, iz2_, iz3_, iz4_, iz5_, reduceIte, if_pos, if_neg, op_os, op_vIs, op_vLs, op_vRs, op_vNs, dI_at, dL_at, dI_2, dL_1, Nat.reduceEqDiff, Nat.reduceAdd, Nat.reduceMul, false_and, and_false, true_and, and_true, ne_eq, not_true_eq_false, not_false_eq_true, b2_z, b2_o, b2_n, b2_01, nar_b, nar_0, nar_1, Bool.false_eq_true, Bool.true_eq_false]; exact v4⟩, fun i' l' h1 h2 => by simp (disch := omega) only [nI_add, pk_mul, nI_clamp, nI_leI, nI_ltI, nI_eq, inb_, iz1_, iz2_, iz3_, iz4_, iz5_, reduceIte, if_pos, if_neg, op_os, op_vIs, op_vLs, op_vRs, op_vNs, dI_at, dL_at, dI_2, dL_1, Nat.reduceEqDiff, Nat.reduceAdd, Nat.reduceMul, false_and, and_false, true_and, and_true, ne_eq, not_true_eq_false, not_false_eq_true, b2_z, b2_o, b2_n, b2_01, nar_b, nar_0, nar_1, Bool.false_eq_true, Bool.true_eq_false]; exact t1.2.2.2.2.1 i' l' h1 h2, fun i' hi' => by
          simp (disch := omega) only [nI_add, pk_mul, nI_clamp, nI_leI, nI_ltI, nI_eq, inb_, iz1_, iz2_, iz3_, iz4_, iz5_, reduceIte, op_os, op_vIs, op_vLs, op_vRs, op_vNs, dI_at, dL_at, dI_2, dL_1, Nat.reduceEqDiff, Nat.reduceAdd, Nat.reduceMul, false_and, and_false, true_and, and_true, ne_eq, not_true_eq_false, not_false_eq_true, b2_z, b2_o, b2_n, b2_01, nar_b, nar_0, nar_1, Bool.false_eq_true, Bool.true_eq_false]
          by_cases z : i' = i
          · rw [if_pos z, z]
          · rw [if_neg z]
            exact t1.2.2.2.2.2 i' (by omega)⟩, sx_t t2 (sx_I (by unfold pw_; omega)), by simp (disch := omega) only [nI_add, pk_mul, nI_clamp, nI_leI, nI_ltI, nI_eq, inb_, iz1_, iz2_, iz3_, iz4_, iz5_, reduceIte, if_pos, if_neg, op_os, op_vIs, op_vLs, op_vRs, op_vNs, dI_at, dL_at, dI_2, dL_1, Nat.reduceEqDiff, Nat.reduceAdd, Nat.reduceMul, false_and, and_false, true_and, and_true, ne_eq, not_true_eq_false, not_false_eq_true, b2_z, b2_o, b2_n, b2_01, nar_b, nar_0, nar_1, Bool.false_eq_true, Bool.true_eq_false]; exact t3⟩
    have hst : kq_ (gp_ A B) k (p, q) (i + 1) = li_ (gp_ A B) x (kq_ (gp_ A B) k (p, q) i) k := by
      rw [← hx]
      exact kq_step (gp_ A B) k (p, q) (N := n36_) (by omega) hin
    refine ⟨E', ?_, ?_, f4, f5⟩
    · show k72_56 w (d + 2) (nI h) a b (nI i) E = k72_56 w (d + 2) (nI h) a b (nI (i + 1)) E'
      rw [e72_56 ha hb]
      simp (disch := omega) only [nI_add, pk_mul, nI_clamp, nI_leI, nI_ltI, nI_eq, inb_, iz1_, iz2_, iz3_, iz4_, iz5_, reduceIte, if_pos, if_neg, op_os, op_vIs, op_vLs, op_vRs, op_vNs, dI_at, dL_at, dI_2, dL_1, Nat.reduceEqDiff, Nat.reduceAdd, Nat.reduceMul, false_and, and_false, true_and, and_true, ne_eq, not_true_eq_false, not_false_eq_true, b2_z, b2_o, b2_n, b2_01, nar_b, nar_0, nar_1, Bool.false_eq_true, Bool.true_eq_false, t1.1.2, hcode', cd2, cd3, hq1, hq2, hE1, hE2, x75 hh]
      rw [← hacc]
      refine Eq.trans (show _ = k72_132 w (d + 2) (nI h) a b (nI i) (nI x.1) (nI x.2) (nI k) E' from f1) ?_
      rw [e72_132 ha hb]
      simp (disch := omega) only [nI_add, pk_mul, nI_clamp, nI_leI, nI_ltI, nI_eq, inb_, iz1_, iz2_, iz3_, iz4_, iz5_, reduceIte, if_pos, if_neg, op_os, op_vIs, op_vLs, op_vRs, op_vNs, dI_at, dL_at, dI_2, dL_1, Nat.reduceEqDiff, Nat.reduceAdd, Nat.reduceMul, false_and, and_false, true_and, and_true, ne_eq, not_true_eq_false, not_false_eq_true, b2_z, b2_o, b2_n, b2_01, nar_b, nar_0, nar_1, Bool.false_eq_true, Bool.true_eq_false, f3.1.1, Nat.le_refl]
    · rw [hst]
      exact ⟨f3.1, f3.2.1, f3.2.2.1, f3.2.2.2.1, fun i' l' h1 h2 => f3.2.2.2.2.1 i' l' h1 (by unfold bef_ at *; omega), f3.2.2.2.2.2⟩) ⟨q1, s2, f2⟩
  have hend : kq_ (gp_ A B) k (p, q) n = kq_ (gp_ A B) k (p, q) n36_ := by
    rw [← hn]
    exact kq_end (gp_ A B) k (p, q) hc'
  rw [hend] at e2
  refine ⟨D', ?_, ⟨?_, ?_, ?_, ?_, ?_⟩, ?_, e3⟩
  · have hmin : (if B.1 < A.1 then nI (B.1) else nI (A.1)) = nI k := by
      rw [← hk]
      show _ = nI (min (A.1) (B.1))
      by_cases z : B.1 < A.1
      · rw [if_pos z, Nat.min_eq_right (by omega)]
      · rw [if_neg z, Nat.min_eq_left (by omega)]
    rw [e72_0 ha hb]
    simp (disch := omega) only [nI_add, pk_mul, nI_clamp, nI_leI, nI_ltI, nI_eq, inb_, iz1_, iz2_, iz3_, iz4_, iz5_, reduceIte, op_os, op_vIs, op_vLs, op_vRs, op_vNs, dI_at, dL_at, dI_2, dL_1, Nat.reduceEqDiff, Nat.reduceAdd, Nat.reduceMul, false_and, and_false, true_and, and_true, ne_eq, not_true_eq_false, not_false_eq_true, b2_z, b2_o, b2_n, b2_01, nar_b, nar_0, nar_1, Bool.false_eq_true, Bool.true_eq_false, hA.2.1, hB.2.1, a1, (cmA D1 s1).1, (cmB D1 s1).1]
    rw [hmin, cd1 (by omega) (by omega)]
    refine Eq.trans (congrArg (fun z => op_o z none _) m0) ?_
    simp (disch := omega) only [nI_add, pk_mul, nI_clamp, nI_leI, nI_ltI, nI_eq, inb_, iz1_, iz2_, iz3_, iz4_, iz5_, reduceIte, if_pos, if_neg, op_os, op_vIs, op_vLs, op_vRs, op_vNs, dI_at, dL_at, dI_2, dL_1, Nat.reduceEqDiff, Nat.reduceAdd, Nat.reduceMul, false_and, and_false, true_and, and_true, ne_eq, not_true_eq_false, not_false_eq_true, b2_z, b2_o, b2_n, b2_01, nar_b, nar_0, nar_1, Bool.false_eq_true, Bool.true_eq_false]
    refine Eq.trans (show _ = k72_56 w (d + 2) (nI h) a b (nI n) D' from e1) ?_
    rw [e72_56 ha hb]
    simp (disch := omega) only [nI_add, pk_mul, nI_clamp, nI_leI, nI_ltI, nI_eq, inb_, iz1_, iz2_, iz3_, iz4_, iz5_, reduceIte, if_pos, if_neg, op_os, op_vIs, op_vLs, op_vRs, op_vNs, dI_at, dL_at, dI_2, dL_1, Nat.reduceEqDiff, Nat.reduceAdd, Nat.reduceMul, false_and, and_false, true_and, and_true, ne_eq, not_true_eq_false, not_false_eq_true, b2_z, b2_o, b2_n, b2_01, nar_b, nar_0, nar_1, Bool.false_eq_true, Bool.true_eq_false, e2.1.2, hn, Nat.le_refl]
  · unfold bm_; rw [hk]; exact e2.1.1
  · unfold bm_; rw [hk]; exact e2.1.2
  · exact e4
  · unfold bm_; rw [hk]
    exact fun i l hi hl => e2.2.2.2.2.1 i l hl (Or.inl (by rw [hn] at hi; exact hi))
  · unfold bm_ pf_; rw [hk]
    exact fun i hi => e2.2.2.2.2.2 i (by rw [hn] at hi; exact hi)
  · unfold bm_; rw [hk]
    exact fun v hv hz => e2.2.2.2.1 v hv hz
end PAIR
