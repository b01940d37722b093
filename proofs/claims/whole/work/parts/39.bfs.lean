def me_ {α : Type} [DecidableEq α] (K : List α) (x : α) : List α := if x ∈ K then K else K ++ [x]
def li_ {α : Type} [DecidableEq α] (g : α → Nat → α) (x : α) (K : List α) : Nat → List α
  | 0 => K
  | l + 1 => me_ (li_ g x K l) (g x l)
def kq_ {α : Type} [DecidableEq α] (g : α → Nat → α) (k : Nat) (x0 : α) : Nat → List α
  | 0 => [x0]
  | i + 1 => match (kq_ g k x0 i)[i]? with
    | some x => li_ g x (kq_ g k x0 i) k
    | none => kq_ g k x0 i
theorem me_p {α : Type} [DecidableEq α] (K : List α) (x : α) : K <+: me_ K x := by
  unfold me_
  by_cases h : x ∈ K
  · rw [if_pos h]; exact List.prefix_refl K
  · rw [if_neg h]; exact List.prefix_append K [x]
theorem me_m {α : Type} [DecidableEq α] (K : List α) (x : α) : x ∈ me_ K x := by
  unfold me_
  by_cases h : x ∈ K
  · rw [if_pos h]; exact h
  · rw [if_neg h]; simp
theorem me_n {α : Type} [DecidableEq α] {K : List α} (h : K.Nodup) (x : α) : (me_ K x).Nodup := by
  unfold me_
  by_cases c : x ∈ K
  · rw [if_pos c]; exact h
  · rw [if_neg c]
    refine List.nodup_append.mpr ⟨h, by simp, ?_⟩
    intro a ha b hb e
    simp at hb
    subst e; subst hb
    exact c ha
theorem li_p {α : Type} [DecidableEq α] (g : α → Nat → α) (x : α) (K : List α) : ∀ {a b : Nat}, a ≤ b → li_ g x K a <+: li_ g x K b := by
  intro a b h
  induction b with
  | zero => rw [show a = 0 by omega]; exact List.prefix_refl _
  | succ b ih =>
    by_cases q : a = b + 1
    · rw [q]; exact List.prefix_refl _
    · exact (ih (by omega)).trans (me_p _ _)
theorem li_n {α : Type} [DecidableEq α] (g : α → Nat → α) (x : α) {K : List α} (h : K.Nodup) (l : Nat) : (li_ g x K l).Nodup := by
  induction l with
  | zero => exact h
  | succ l ih => exact me_n ih _
theorem kq_some {α : Type} [DecidableEq α] (g : α → Nat → α) (k : Nat) (x0 : α) {i : Nat} {x : α} (h : (kq_ g k x0 i)[i]? = some x) : kq_ g k x0 (i + 1) = li_ g x (kq_ g k x0 i) k := by
  show (match (kq_ g k x0 i)[i]? with | some x => li_ g x (kq_ g k x0 i) k | none => kq_ g k x0 i) = _
  rw [h]
theorem kq_none {α : Type} [DecidableEq α] (g : α → Nat → α) (k : Nat) (x0 : α) {i : Nat} (h : (kq_ g k x0 i).length ≤ i) : kq_ g k x0 (i + 1) = kq_ g k x0 i := by
  show (match (kq_ g k x0 i)[i]? with | some x => li_ g x (kq_ g k x0 i) k | none => kq_ g k x0 i) = _
  rw [List.getElem?_eq_none h]
theorem kq_p1 {α : Type} [DecidableEq α] (g : α → Nat → α) (k : Nat) (x0 : α) (i : Nat) : kq_ g k x0 i <+: kq_ g k x0 (i + 1) := by
  cases h : (kq_ g k x0 i)[i]? with
  | some x => rw [kq_some g k x0 h]; exact li_p g x _ (Nat.zero_le k)
  | none => rw [kq_none g k x0 (List.getElem?_eq_none_iff.mp h)]; exact List.prefix_refl _
theorem kq_p {α : Type} [DecidableEq α] (g : α → Nat → α) (k : Nat) (x0 : α) {i j : Nat} (h : i ≤ j) : kq_ g k x0 i <+: kq_ g k x0 j := by
  induction j with
  | zero => rw [show i = 0 by omega]; exact List.prefix_refl _
  | succ j ih =>
    by_cases q : i = j + 1
    · rw [q]; exact List.prefix_refl _
    · exact (ih (by omega)).trans (kq_p1 g k x0 j)
theorem kq_n {α : Type} [DecidableEq α] (g : α → Nat → α) (k : Nat) (x0 : α) (i : Nat) : (kq_ g k x0 i).Nodup := by
  induction i with
  | zero => simp [kq_]
  | succ i ih =>
    cases h : (kq_ g k x0 i)[i]? with
    | some x => rw [kq_some g k x0 h]; exact li_n g x ih k
    | none => rw [kq_none g k x0 (List.getElem?_eq_none_iff.mp h)]; exact ih
theorem kq_st {α : Type} [DecidableEq α] (g : α → Nat → α) (k : Nat) (x0 : α) {i j : Nat} (h : i ≤ j) (hl : (kq_ g k x0 i).length ≤ i) : kq_ g k x0 j = kq_ g k x0 i := by
  induction j with
  | zero => rw [show i = 0 by omega]
  | succ j ih =>
    by_cases q : i = j + 1
    · rw [q]
    · have e := ih (by omega)
      rw [kq_none g k x0 (by rw [e]; omega), e]
theorem kq_1 {α : Type} [DecidableEq α] (g : α → Nat → α) (k : Nat) (x0 : α) (i : Nat) : 1 ≤ (kq_ g k x0 i).length := (kq_p g k x0 (Nat.zero_le i)).length_le
theorem pre_get {α : Type} {K K' : List α} (h : K <+: K') {i : Nat} {x : α} (e : K[i]? = some x) : K'[i]? = some x := by
  obtain ⟨t, rfl⟩ := h
  rw [List.getElem?_append_left (List.getElem?_eq_some_iff.mp e).1]
  exact e
theorem pre_idx {α : Type} [DecidableEq α] {K K' : List α} (h : K <+: K') {x : α} (e : x ∈ K) : K'.idxOf x = K.idxOf x := by
  obtain ⟨t, rfl⟩ := h
  rw [List.idxOf_append, if_pos e]
/-- the key of number i in the end -/
def kf_ {α : Type} [DecidableEq α] (g : α → Nat → α) (k : Nat) (x0 : α) (N : Nat) (i : Nat) : α := ((kq_ g k x0 N)[i]?).getD x0
def kt_ {α : Type} [DecidableEq α] (g : α → Nat → α) (k : Nat) (x0 : α) (N : Nat) (i l : Nat) : Nat := (kq_ g k x0 N).idxOf (g (kf_ g k x0 N i) l)
theorem kf_get {α : Type} [DecidableEq α] (g : α → Nat → α) (k : Nat) (x0 : α) {N : Nat} {i : Nat} (hi : i < (kq_ g k x0 N).length) : (kq_ g k x0 N)[i]? = some (kf_ g k x0 N i) := by
  unfold kf_
  rw [List.getElem?_eq_getElem hi]
  rfl
/-- what number i is when it is taken -/
theorem kf_at {α : Type} [DecidableEq α] (g : α → Nat → α) (k : Nat) (x0 : α) {N : Nat} {i : Nat} (hN : i ≤ N) (hi : i < (kq_ g k x0 i).length) : (kq_ g k x0 i)[i]? = some (kf_ g k x0 N i) := by
  have h1 := List.getElem?_eq_getElem hi
  have h2 := pre_get (kq_p g k x0 hN) h1
  rw [h1]
  unfold kf_
  rw [h2]
  rfl
theorem kq_in {α : Type} [DecidableEq α] (g : α → Nat → α) (k : Nat) (x0 : α) {N : Nat} (hc : (kq_ g k x0 N).length ≤ N) {i : Nat} (hi : i < (kq_ g k x0 N).length) : i < (kq_ g k x0 i).length := by
  by_cases c : i < (kq_ g k x0 i).length
  · exact c
  · rw [kq_st g k x0 (show i ≤ N by omega) (by omega)] at hi
    exact absurd hi c
theorem kq_step {α : Type} [DecidableEq α] (g : α → Nat → α) (k : Nat) (x0 : α) {N : Nat} {i : Nat} (hN : i ≤ N) (hi : i < (kq_ g k x0 i).length) : kq_ g k x0 (i + 1) = li_ g (kf_ g k x0 N i) (kq_ g k x0 i) k := kq_some g k x0 (kf_at g k x0 hN hi)
theorem kf_pre {α : Type} [DecidableEq α] (g : α → Nat → α) (k : Nat) (x0 : α) {N : Nat} {K : List α} (h : K <+: kq_ g k x0 N) {i : Nat} (hi : i < K.length) : K[i]? = some (kf_ g k x0 N i) := by
  have h1 := List.getElem?_eq_getElem hi
  have h2 := pre_get h h1
  rw [h1]
  unfold kf_
  rw [h2]
  rfl
theorem li_f {α : Type} [DecidableEq α] (g : α → Nat → α) (k : Nat) (x0 : α) {N : Nat} {i l : Nat} (hN : i < N) (hi : i < (kq_ g k x0 i).length) (hl : l ≤ k) : li_ g (kf_ g k x0 N i) (kq_ g k x0 i) l <+: kq_ g k x0 N := by
  have h1 := kq_p g k x0 (show i + 1 ≤ N by omega)
  rw [kq_step g k x0 (show i ≤ N by omega) hi] at h1
  exact (li_p g _ _ hl).trans h1
theorem kt_mem {α : Type} [DecidableEq α] (g : α → Nat → α) (k : Nat) (x0 : α) {N : Nat} (hc : (kq_ g k x0 N).length ≤ N) {i l : Nat} (hi : i < (kq_ g k x0 N).length) (hl : l < k) : g (kf_ g k x0 N i) l ∈ kq_ g k x0 N := by
  have h1 := kq_in g k x0 hc hi
  have h2 := li_f g k x0 (N := N) (l := l + 1) (show i < N by omega) h1 (by omega)
  exact h2.subset (me_m _ _)
theorem kt_lt {α : Type} [DecidableEq α] (g : α → Nat → α) (k : Nat) (x0 : α) {N : Nat} (hc : (kq_ g k x0 N).length ≤ N) {i l : Nat} (hi : i < (kq_ g k x0 N).length) (hl : l < k) : kt_ g k x0 N i l < (kq_ g k x0 N).length := List.idxOf_lt_length_of_mem (kt_mem g k x0 hc hi hl)
theorem kf_kt {α : Type} [DecidableEq α] (g : α → Nat → α) (k : Nat) (x0 : α) {N : Nat} (hc : (kq_ g k x0 N).length ≤ N) {i l : Nat} (hi : i < (kq_ g k x0 N).length) (hl : l < k) : kf_ g k x0 N (kt_ g k x0 N i l) = g (kf_ g k x0 N i) l := by
  have h := kt_lt g k x0 hc hi hl
  unfold kf_
  rw [List.getElem?_eq_getElem h]
  exact List.getElem_idxOf h
theorem kf_0 {α : Type} [DecidableEq α] (g : α → Nat → α) (k : Nat) (x0 : α) {N : Nat} : kf_ g k x0 N 0 = x0 := by
  have := kf_at g k x0 (N := N) (i := 0) (Nat.zero_le _) (by simp [kq_])
  simp [kq_] at this
  exact this.symm
theorem kf_inj {α : Type} [DecidableEq α] (g : α → Nat → α) (k : Nat) (x0 : α) {N : Nat} {i j : Nat} (hi : i < (kq_ g k x0 N).length) (hj : j < (kq_ g k x0 N).length) (e : kf_ g k x0 N i = kf_ g k x0 N j) : i = j := by
  have h1 := kf_get g k x0 hi
  have h2 := kf_get g k x0 hj
  rw [e, ← h2] at h1
  exact (List.getElem?_inj hi (kq_n g k x0 N)).mp h1
theorem idx_kf {α : Type} [DecidableEq α] (g : α → Nat → α) (k : Nat) (x0 : α) {N : Nat} {i : Nat} (hi : i < (kq_ g k x0 N).length) : (kq_ g k x0 N).idxOf (kf_ g k x0 N i) = i := by
  have h := kf_get g k x0 hi
  rw [List.getElem?_eq_getElem hi] at h
  rw [← Option.some.inj h]
  exact (kq_n g k x0 N).idxOf_getElem i hi
/-- what holds of the first and goes on, holds of all -/
theorem kq_dom {α : Type} [DecidableEq α] (g : α → Nat → α) (k : Nat) (x0 : α) {P : α → Prop} (h0 : P x0) (hs : ∀ x l, P x → l < k → P (g x l)) (i : Nat) : ∀ x, x ∈ kq_ g k x0 i → P x := by
  have me : ∀ K y, (∀ x, x ∈ K → P x) → P y → ∀ x, x ∈ me_ K y → P x := by
    intro K y h1 h2 x hx
    unfold me_ at hx
    by_cases c : y ∈ K
    · rw [if_pos c] at hx; exact h1 x hx
    · rw [if_neg c] at hx
      rcases List.mem_append.mp hx with q | q
      · exact h1 x q
      · rw [List.mem_singleton.mp q]; exact h2
  have li : ∀ K y, (∀ x, x ∈ K → P x) → P y → ∀ l, l ≤ k → ∀ x, x ∈ li_ g y K l → P x := by
    intro K y h1 h2 l
    induction l with
    | zero => intro _; exact h1
    | succ l ih => exact fun hl => me _ _ (ih (by omega)) (hs y l h2 (by omega))
  induction i with
  | zero =>
    intro x hx
    simp [kq_] at hx
    rw [hx]; exact h0
  | succ i ih =>
    cases h : (kq_ g k x0 i)[i]? with
    | some y => rw [kq_some g k x0 h]; exact li _ _ ih (ih y (List.mem_of_getElem? h)) k (Nat.le_refl k)
    | none => rw [kq_none g k x0 (List.getElem?_eq_none_iff.mp h)]; exact ih
theorem kf_dom {α : Type} [DecidableEq α] (g : α → Nat → α) (k : Nat) (x0 : α) {N : Nat} {P : α → Prop} (h0 : P x0) (hs : ∀ x l, P x → l < k → P (g x l)) {i : Nat} (hi : i < (kq_ g k x0 N).length) : P (kf_ g k x0 N i) := kq_dom g k x0 h0 hs N _ (List.mem_of_getElem? (kf_get g k x0 hi))
/-- a row without a number twice, all below n, has at most n -/
theorem nodup_lt  : ∀ (n : Nat) (l : List Nat), l.Nodup → (∀ x, x ∈ l → x < n) → l.length ≤ n
  | 0, l, _, h => by
    cases l with
    | nil => exact Nat.le_refl _
    | cons a t => exact absurd (h a (by simp)) (by omega)
  | n + 1, l, hn, h => by
    have h1 := nodup_lt n (l.erase n) (hn.erase n) (by
      intro x hx
      have := (hn.mem_erase_iff).mp hx
      have := h x this.2
      omega)
    have h2 := List.le_length_erase (a := n) (l := l)
    omega
theorem nodup_enc {α : Type} {enc : α → Nat} {n : Nat} (K : List α) (hK : K.Nodup) (hi : ∀ x y, x ∈ K → y ∈ K → enc x = enc y → x = y) (hb : ∀ x, x ∈ K → enc x < n) : K.length ≤ n := by
  have h1 : (K.map enc).Nodup := by
    rw [List.nodup_iff_pairwise_ne, List.pairwise_map]
    have := List.nodup_iff_pairwise_ne.mp hK
    refine List.Pairwise.imp_of_mem ?_ this
    intro a b ha hb hab e
    exact hab (hi a b ha hb e)
  have := nodup_lt n (K.map enc) h1 (by
    intro x hx
    obtain ⟨y, hy, rfl⟩ := List.mem_map.mp hx
    exact hb y hy)
  rwa [List.length_map] at this
/-- an earlier pair of number and letter -/
def bef_  (i l i' l' : Nat) : Prop := i < i' ∨ i = i' ∧ l < l'
/-- who was met first by whom -/
def og1_ {α : Type} [DecidableEq α] (g : α → Nat → α) (k : Nat) (x0 : α) (N v i l : Nat) : Prop := i < v ∧ l < k ∧ kt_ g k x0 N i l = v ∧ ∀ i' l', l' < k → bef_ i' l' i l → kt_ g k x0 N i' l' < v
theorem io_li {α : Type} [DecidableEq α] (g : α → Nat → α) (k : Nat) (x0 : α) {N : Nat} (hc : (kq_ g k x0 N).length ≤ N) {i : Nat} (hi : i < (kq_ g k x0 N).length) (h : (∀ v, v < (kq_ g k x0 i).length → v = 0 ∨ ∃ i' l', i' < i ∧ og1_ g k x0 N v i' l') ∧ ∀ i' l', l' < k → i' < i → kt_ g k x0 N i' l' < (kq_ g k x0 i).length) : ∀ l, l ≤ k → (∀ v, v < (li_ g (kf_ g k x0 N i) (kq_ g k x0 i) l).length → v = 0 ∨ ∃ i' l', bef_ i' l' i l ∧ og1_ g k x0 N v i' l') ∧ ∀ i' l', l' < k → bef_ i' l' i l → kt_ g k x0 N i' l' < (li_ g (kf_ g k x0 N i) (kq_ g k x0 i) l).length := by
  intro l
  induction l with
  | zero =>
    intro _
    refine ⟨fun v hv => ?_, fun i' l' h1 h2 => ?_⟩
    · rcases h.1 v hv with q | ⟨i', l', q1, q2⟩
      · exact Or.inl q
      · exact Or.inr ⟨i', l', Or.inl q1, q2⟩
    · rcases h2 with q | ⟨q, z⟩
      · exact h.2 i' l' h1 q
      · omega
  | succ l ih =>
    intro hl
    obtain ⟨h1, h2⟩ := ih (by omega)
    have hin := kq_in g k x0 hc hi
    have p1 := li_f g k x0 (N := N) (l := l) (show i < N by omega) hin (by omega)
    have p2 := li_f g k x0 (N := N) (l := l + 1) (show i < N by omega) hin (by omega)
    have e : li_ g (kf_ g k x0 N i) (kq_ g k x0 i) (l + 1) = me_ (li_ g (kf_ g k x0 N i) (kq_ g k x0 i) l) (g (kf_ g k x0 N i) l) := rfl
    have hlen : i < (li_ g (kf_ g k x0 N i) (kq_ g k x0 i) l).length := Nat.lt_of_lt_of_le hin (li_p g _ _ (Nat.zero_le l)).length_le
    have et : kt_ g k x0 N i l = (li_ g (kf_ g k x0 N i) (kq_ g k x0 i) (l + 1)).idxOf (g (kf_ g k x0 N i) l) := pre_idx p2 (me_m _ _)
    by_cases c : g (kf_ g k x0 N i) l ∈ li_ g (kf_ g k x0 N i) (kq_ g k x0 i) l
    · have e2 : li_ g (kf_ g k x0 N i) (kq_ g k x0 i) (l + 1) = li_ g (kf_ g k x0 N i) (kq_ g k x0 i) l := by
        rw [e]; unfold me_; rw [if_pos c]
      rw [e2] at et
      rw [e2]
      refine ⟨fun v hv => ?_, fun i' l' q1 q2 => ?_⟩
      · rcases h1 v hv with q | ⟨i', l', q1, q2⟩
        · exact Or.inl q
        · exact Or.inr ⟨i', l', by unfold bef_ at *; omega, q2⟩
      · by_cases z : i' = i ∧ l' = l
        · obtain ⟨rfl, rfl⟩ := z
          rw [et]
          exact List.idxOf_lt_length_of_mem c
        · exact h2 i' l' q1 (by unfold bef_ at *; omega)
    · have e2 : li_ g (kf_ g k x0 N i) (kq_ g k x0 i) (l + 1) = li_ g (kf_ g k x0 N i) (kq_ g k x0 i) l ++ [g (kf_ g k x0 N i) l] := by
        rw [e]; unfold me_; rw [if_neg c]
      have e3 : kt_ g k x0 N i l = (li_ g (kf_ g k x0 N i) (kq_ g k x0 i) l).length := by
        rw [et, e2, List.idxOf_append, if_neg c]
        simp
      rw [e2, List.length_append]
      refine ⟨fun v hv => ?_, fun i' l' q1 q2 => ?_⟩
      · by_cases z : v = (li_ g (kf_ g k x0 N i) (kq_ g k x0 i) l).length
        · refine Or.inr ⟨i, l, Or.inr ⟨rfl, Nat.lt_succ_self l⟩, ?_, by omega, by rw [e3, z], fun i' l' q1 q2 => ?_⟩
          · omega
          · rw [z]; exact h2 i' l' q1 q2
        · simp at hv
          rcases h1 v (by omega) with q | ⟨i', l', q1, q2⟩
          · exact Or.inl q
          · exact Or.inr ⟨i', l', by unfold bef_ at *; omega, q2⟩
      · by_cases z : i' = i ∧ l' = l
        · obtain ⟨rfl, rfl⟩ := z
          rw [e3]
          simp
        · have := h2 i' l' q1 (by unfold bef_ at *; omega)
          omega
theorem io_kq {α : Type} [DecidableEq α] (g : α → Nat → α) (k : Nat) (x0 : α) {N : Nat} (hc : (kq_ g k x0 N).length ≤ N) : ∀ i, i ≤ (kq_ g k x0 N).length → (∀ v, v < (kq_ g k x0 i).length → v = 0 ∨ ∃ i' l', i' < i ∧ og1_ g k x0 N v i' l') ∧ ∀ i' l', l' < k → i' < i → kt_ g k x0 N i' l' < (kq_ g k x0 i).length := by
  intro i
  induction i with
  | zero =>
    intro _
    refine ⟨fun v hv => Or.inl ?_, fun _ _ _ h => absurd h (by omega)⟩
    simp [kq_] at hv
    exact hv
  | succ i ih =>
    intro hi
    have hin := kq_in g k x0 hc (show i < (kq_ g k x0 N).length by omega)
    obtain ⟨h1, h2⟩ := io_li g k x0 hc (show i < (kq_ g k x0 N).length by omega) (ih (by omega)) k (Nat.le_refl k)
    rw [← kq_step g k x0 (show i ≤ N by omega) hin] at h1 h2
    refine ⟨fun v hv => ?_, fun i' l' q1 q2 => h2 i' l' q1 (by unfold bef_; omega)⟩
    rcases h1 v hv with q | ⟨i', l', q1, q2⟩
    · exact Or.inl q
    · refine Or.inr ⟨i', l', ?_, q2⟩
      have := q2.2.1
      unfold bef_ at q1
      omega
theorem kq_end {α : Type} [DecidableEq α] (g : α → Nat → α) (k : Nat) (x0 : α) {N : Nat} (hc : (kq_ g k x0 N).length ≤ N) : kq_ g k x0 (kq_ g k x0 N).length = kq_ g k x0 N := by
  by_cases c : (kq_ g k x0 N).length < (kq_ g k x0 (kq_ g k x0 N).length).length
  · have := (kq_p g k x0 hc).length_le
    omega
  · exact (kq_st g k x0 hc (by omega)).symm
/-- every number but 0 was met by a lower one -/
theorem io_og {α : Type} [DecidableEq α] (g : α → Nat → α) (k : Nat) (x0 : α) {N : Nat} (hc : (kq_ g k x0 N).length ≤ N) {v : Nat} (hv : v < (kq_ g k x0 N).length) (h0 : v ≠ 0) : ∃ i l, og1_ g k x0 N v i l := by
  have := (io_kq g k x0 hc _ (Nat.le_refl _)).1 v (by rw [kq_end g k x0 hc]; exact hv)
  rcases this with q | ⟨i, l, _, q⟩
  · exact absurd q h0
  · exact ⟨i, l, q⟩
/-- the same keys under other names -/
theorem kq_map {α β : Type} [DecidableEq α] [DecidableEq β] {g : α → Nat → α} {g' : β → Nat → β} {k : Nat} {x0 : α} {φ : α → β} {P : α → Prop} (h0 : P x0) (hs : ∀ x l, P x → l < k → P (g x l)) (hg : ∀ x l, P x → l < k → g' (φ x) l = φ (g x l)) (hi : ∀ x y, P x → P y → φ x = φ y → x = y) (i : Nat) : kq_ g' k (φ x0) i = (kq_ g k x0 i).map φ := by
  have mm : ∀ (K : List α) x, (∀ y, y ∈ K → P y) → P x → (φ x ∈ K.map φ ↔ x ∈ K) := by
    intro K x h1 h2
    constructor
    · intro q
      obtain ⟨y, hy, e⟩ := List.mem_map.mp q
      rw [← hi y x (h1 y hy) h2 e]
      exact hy
    · exact fun q => List.mem_map.mpr ⟨x, q, rfl⟩
  have me : ∀ (K : List α) x, (∀ y, y ∈ K → P y) → P x → me_ (K.map φ) (φ x) = (me_ K x).map φ := by
    intro K x h1 h2
    unfold me_
    by_cases c : x ∈ K
    · rw [if_pos c, if_pos ((mm K x h1 h2).mpr c)]
    · rw [if_neg c, if_neg (fun q => c ((mm K x h1 h2).mp q)), List.map_append]
      rfl
  have mp : ∀ (K : List α) x, (∀ y, y ∈ K → P y) → P x → ∀ y, y ∈ me_ K x → P y := by
    intro K x h1 h2 y hy
    unfold me_ at hy
    by_cases c : x ∈ K
    · rw [if_pos c] at hy; exact h1 y hy
    · rw [if_neg c] at hy
      rcases List.mem_append.mp hy with q | q
      · exact h1 y q
      · rw [List.mem_singleton.mp q]; exact h2
  have li : ∀ (K : List α) x, (∀ y, y ∈ K → P y) → P x → ∀ l, l ≤ k → li_ g' (φ x) (K.map φ) l = (li_ g x K l).map φ ∧ ∀ y, y ∈ li_ g x K l → P y := by
    intro K x h1 h2 l
    induction l with
    | zero => exact fun _ => ⟨rfl, h1⟩
    | succ l ih =>
      intro hl
      obtain ⟨q1, q2⟩ := ih (by omega)
      refine ⟨?_, mp _ _ q2 (hs x l h2 (by omega))⟩
      show me_ (li_ g' (φ x) (K.map φ) l) (g' (φ x) l) = (me_ (li_ g x K l) (g x l)).map φ
      rw [q1, hg x l h2 (by omega)]
      exact me _ _ q2 (hs x l h2 (by omega))
  induction i with
  | zero => rfl
  | succ i ih =>
    cases h : (kq_ g k x0 i)[i]? with
    | some y =>
      have hP := kq_dom g k x0 h0 hs i
      rw [kq_some g k x0 h, kq_some g' k (φ x0) (x := φ y) (by rw [ih, List.getElem?_map, h]; rfl), ih]
      exact (li _ _ hP (hP y (List.mem_of_getElem? h)) k (Nat.le_refl k)).1
    | none =>
      have h' := List.getElem?_eq_none_iff.mp h
      rw [kq_none g k x0 h', kq_none g' k (φ x0) (by rw [ih, List.length_map]; exact h'), ih]
theorem kf_map {α β : Type} [DecidableEq α] [DecidableEq β] {g : α → Nat → α} {g' : β → Nat → β} {k : Nat} {x0 : α} {φ : α → β} {P : α → Prop} (h0 : P x0) (hs : ∀ x l, P x → l < k → P (g x l)) (hg : ∀ x l, P x → l < k → g' (φ x) l = φ (g x l)) (hi : ∀ x y, P x → P y → φ x = φ y → x = y) {N i : Nat} : kf_ g' k (φ x0) N i = φ (kf_ g k x0 N i) := by
  unfold kf_
  rw [kq_map h0 hs hg hi, List.getElem?_map]
  cases (kq_ g k x0 N)[i]? <;> rfl
theorem kt_map {α β : Type} [DecidableEq α] [DecidableEq β] {g : α → Nat → α} {g' : β → Nat → β} {k : Nat} {x0 : α} {φ : α → β} {P : α → Prop} (h0 : P x0) (hs : ∀ x l, P x → l < k → P (g x l)) (hg : ∀ x l, P x → l < k → g' (φ x) l = φ (g x l)) (hi : ∀ x y, P x → P y → φ x = φ y → x = y) {N : Nat} (hc : (kq_ g k x0 N).length ≤ N) {i l : Nat} (hii : i < (kq_ g k x0 N).length) (hl : l < k) : kt_ g' k (φ x0) N i l = kt_ g k x0 N i l := by
  have em := kq_map h0 hs hg hi N
  have hc' : (kq_ g' k (φ x0) N).length ≤ N := by rw [em, List.length_map]; exact hc
  have hi' : i < (kq_ g' k (φ x0) N).length := by rw [em, List.length_map]; exact hii
  refine kf_inj g' k (φ x0) (N := N) (kt_lt g' k _ hc' hi' hl) ?_ ?_
  · rw [em, List.length_map]
    exact kt_lt g k x0 hc hii hl
  · rw [kf_kt g' k _ hc' hi' hl, kf_map h0 hs hg hi, kf_map h0 hs hg hi, kf_kt g k x0 hc hii hl, hg _ l (kf_dom g k x0 h0 hs hii) hl]
