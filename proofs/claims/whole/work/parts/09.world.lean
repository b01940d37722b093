/-! THE BRIDGE: what a store of the small machine says of the heap. bs: where its cells begin; b: the script's cell; code 0: the script; code n + 1: the cell bs + n -/
def wv_ (bs b : Nat) (v : Value) : Value := match v with
  | .ref 0 => .ref b
  | .ref (n + 1) => .ref (bs + n)
  | v => v
def wq_ (bs b : Nat) (q : Nat × Value) : Nat × Value := (q.1, wv_ bs b q.2)
def rv_ (bs n : Nat) : Option Nat := match n with
  | 0 => none
  | n + 1 => some (bs + n)
def fv_ (bs : Nat) (h : hp_) (ci c k : Nat) : Value := if fk_ ci k = 2 then va_rf (rv_ bs (hp_R h c k)) else .int (hp_I h c k)
def fs_ (bs : Nat) (h : hp_) (ci c : Nat) : List Value := (List.range (nf_ ci)).map (fv_ bs h ci c)
def ce_ (bs : Nat) (cA : Nat → ClassId) (h : hp_) (c : Nat) : va_E := match hp_T h c with
  | 1 => .inl (cA 0, hp_N h c, .inl (hp_I h c))
  | 2 => .inl (cA 1, hp_N h c, .inl (hp_I h c))
  | 3 => .inl (cA 2, hp_N h c, .inl (hp_I h c))
  | 4 => .inl (cA 3, hp_N h c, .inr (.inl (hp_L h c)))
  | 5 => .inl (cA 4, hp_N h c, .inr (.inr (.inr (.inr (fun i => rv_ bs (hp_R h c i))))))
  | t => .inr (t - 10, fs_ bs h (t - 10) c)
def wl_ (bs : Nat) (cA : Nat → ClassId) (h : hp_) : va_W := (List.range (hp_z h)).map (fun i => (bs + i, ce_ bs cA h (i + 1)))
def wf_ (h : hp_) : Prop := ∀ c, hp_T h c ≠ 0 → 1 ≤ c ∧ c ≤ hp_z h
def tl_ (cA : Nat → ClassId) : List (ClassId × FieldType) := [(cA 0, .int), (cA 1, .boolean), (cA 2, .byte), (cA 3, .long), (cA 4, .object "StateShop$Machine")]
def rg_ (bs : Nat) : Nat → Prop := fun q => bs ≤ q
def pt_ (s : State) (bs : Nat) (D : va_G) (cA : Nat → ClassId) (h : hp_) (H : Heap) (locs : List Loc) : Prop := wf_ h ∧ va_P D vwCl (wl_ bs cA h) H ∧ va_S (rg_ bs) s.heap H locs
theorem wv_cat (bs b : Nat) (v : Value) : (wv_ bs b v).category = v.category := by
  unfold wv_
  split <;> rfl
theorem wv_ca (bs b : Nat) (st : List Value) : ((st.map (wv_ bs b)).map fun v => v.category).sum = mk_ca st := by
  unfold mk_ca
  rw [List.map_map]
  congr 1
  apply List.map_congr_left
  intro v _
  exact wv_cat bs b v
theorem wl_at {bs : Nat} {cA : Nat → ClassId} {h : hp_} {c : Nat} (hc : c < hp_z h) : (wl_ bs cA h)[c]? = some (bs + c, ce_ bs cA h (c + 1)) := by
  unfold wl_
  rw [List.getElem?_map, List.getElem?_range hc]
  rfl
theorem wl_len (bs : Nat) (cA : Nat → ClassId) (h : hp_) : (wl_ bs cA h).length = hp_z h := by
  unfold wl_
  rw [List.length_map, List.length_range]
theorem wl_inv {bs : Nat} {cA : Nat → ClassId} {h : hp_} {i : Nat} {q : Nat × va_E} (hq : (wl_ bs cA h)[i]? = some q) : i < hp_z h ∧ q = (bs + i, ce_ bs cA h (i + 1)) := by
  have hi : i < hp_z h := by
    have := (List.getElem?_eq_some_iff.mp hq).1
    rwa [wl_len] at this
  rw [wl_at hi] at hq
  exact ⟨hi, (Option.some.inj hq).symm⟩
theorem wl_D (bs : Nat) (cA : Nat → ClassId) (h : hp_) : va_D (rg_ bs) (wl_ bs cA h) := by
  refine ⟨fun i j p q hi hj e => ?_, fun k q hk => ?_⟩
  · obtain ⟨-, rfl⟩ := wl_inv hi
    obtain ⟨-, rfl⟩ := wl_inv hj
    simp only at e
    omega
  · obtain ⟨-, rfl⟩ := wl_inv hk
    exact Nat.le_add_right _ _
theorem wl_set {bs : Nat} {cA : Nat → ClassId} {h h' : hp_} {c : Nat} (hz : hp_z h' = hp_z h) (ho : ∀ d, d ≠ c + 1 → ce_ bs cA h' d = ce_ bs cA h d) : (wl_ bs cA h).set c (bs + c, ce_ bs cA h' (c + 1)) = wl_ bs cA h' := by
  apply List.ext_getElem?
  intro i
  by_cases hi : i < hp_z h
  · rw [wl_at (h := h') (by rw [hz]; exact hi)]
    by_cases hc : i = c
    · subst hc
      rw [List.getElem?_set_self (by rw [wl_len]; exact hi)]
    · rw [List.getElem?_set_ne (fun e => hc e.symm), wl_at hi, ho (i + 1) (by omega)]
  · rw [List.getElem?_eq_none (by rw [List.length_set, wl_len]; omega), List.getElem?_eq_none (by rw [wl_len, hz]; omega)]
theorem wl_push {bs : Nat} {cA : Nat → ClassId} {h h' : hp_} (hz : hp_z h' = hp_z h + 1) (ho : ∀ d, d ≤ hp_z h → ce_ bs cA h' d = ce_ bs cA h d) : wl_ bs cA h ++ [(bs + hp_z h, ce_ bs cA h' (hp_z h + 1))] = wl_ bs cA h' := by
  unfold wl_
  rw [hz, List.range_succ, List.map_append]
  congr 1
  apply List.map_congr_left
  intro i hi
  rw [ho (i + 1) (by have := List.mem_range.mp hi; omega)]
theorem up_ne {α : Type} {f : Nat → α} {k j : Nat} {v : α} (h : j ≠ k) : va_up f k v j = f j := if_neg h
theorem up_eq {α : Type} {f : Nat → α} {k : Nat} {v : α} : va_up f k v k = v := if_pos rfl
theorem ce_sI {bs : Nat} {cA : Nat → ClassId} {h : hp_} {a i : Nat} {v : Int32} {d : Nat} (hd : d ≠ a) : ce_ bs cA (hp_sI h a i v) d = ce_ bs cA h d := by
  unfold ce_ fs_ fv_ hp_T hp_N hp_I hp_L hp_R hp_sI
  simp only [up_ne hd]
theorem ce_sR {bs : Nat} {cA : Nat → ClassId} {h : hp_} {a i v : Nat} {d : Nat} (hd : d ≠ a) : ce_ bs cA (hp_sR h a i v) d = ce_ bs cA h d := by
  unfold ce_ fs_ fv_ hp_T hp_N hp_I hp_L hp_R hp_sR
  simp only [up_ne hd]
theorem ce_sL {bs : Nat} {cA : Nat → ClassId} {h : hp_} {a i : Nat} {v : Int64} {d : Nat} (hd : d ≠ a) : ce_ bs cA (hp_sL h a i v) d = ce_ bs cA h d := by
  unfold ce_ fs_ fv_ hp_T hp_N hp_I hp_L hp_R hp_sL
  simp only [up_ne hd]
theorem ce_cp {bs : Nat} {cA : Nat → ClassId} {h : hp_} {a0 sp a dp n : Nat} {d : Nat} (hd : d ≠ a) : ce_ bs cA (hp_cp h a0 sp a dp n) d = ce_ bs cA h d := by
  unfold ce_ fs_ fv_ hp_T hp_N hp_I hp_L hp_R hp_cp
  simp only [up_ne hd]
theorem ce_al {bs : Nat} {cA : Nat → ClassId} {h : hp_} {t n : Nat} {d : Nat} (hd : d ≤ hp_z h) : ce_ bs cA (hp_al h t n) d = ce_ bs cA h d := by
  have hd : d ≠ h.2.2.2.2.1 + 1 := by unfold hp_z at hd; omega
  unfold ce_ fs_ fv_ hp_T hp_N hp_I hp_L hp_R hp_al
  simp only [up_ne hd]
theorem wf_sI {h : hp_} {a i : Nat} {v : Int32} (hw : wf_ h) : wf_ (hp_sI h a i v) := hw
theorem wf_al {h : hp_} {t n : Nat} (hw : wf_ h) : wf_ (hp_al h t n) := by
  intro c hc
  by_cases e : c = hp_z h + 1
  · subst e
    exact ⟨Nat.le_add_left _ _, Nat.le_refl _⟩
  · have h1 : hp_T (hp_al h t n) c = hp_T h c := by
      show (va_up h.1 (hp_z h + 1) (t, n) c).1 = _
      rw [up_ne e]
      rfl
    rw [h1] at hc
    obtain ⟨q1, q2⟩ := hw c hc
    exact ⟨q1, Nat.le_succ_of_le q2⟩
/-! an evaluation that came to something -/
section INV
variable {ρ : Type} {r : ρ}
theorem iv_o {α : Type} {o : Option α} {f : α → Option ρ} (h : op_o o none f = some r) : ∃ a, o = some a ∧ f a = some r := by
  cases o with
  | none => cases h
  | some a => exact ⟨a, rfl, h⟩
theorem iv_p {st : List Value} {f : Value → List Value → Option ρ} (h : op_p st none f = some r) : ∃ v t, st = v :: t ∧ f v t = some r := by
  cases st with
  | nil => cases h
  | cons v t => exact ⟨v, t, rfl, h⟩
theorem iv_i {v : Value} {f : Int32 → Option ρ} (h : op_i v none f = some r) : ∃ x, v = .int x ∧ f x = some r := by
  cases v <;> first | (cases h; done) | exact ⟨_, rfl, h⟩
theorem iv_l {v : Value} {f : Int64 → Option ρ} (h : op_l v none f = some r) : ∃ x, v = .long x ∧ f x = some r := by
  cases v <;> first | (cases h; done) | exact ⟨_, rfl, h⟩
theorem iv_r {v : Value} {f : Nat → Option ρ} (h : op_r v none f = some r) : ∃ x, v = .ref x ∧ f x = some r := by
  cases v <;> first | (cases h; done) | exact ⟨_, rfl, h⟩
theorem iv_e {st : List Value} {f : Option ρ} (h : op_e st none f = some r) : st = [] ∧ f = some r := by
  cases st with
  | nil => exact ⟨rfl, h⟩
  | cons v t => cases h
theorem iv_pi {st : List Value} {f : Int32 → List Value → Option ρ} (h : op_pi st none f = some r) : ∃ x t, st = .int x :: t ∧ f x t = some r := by
  obtain ⟨v, t, rfl, h⟩ := iv_p h
  obtain ⟨x, rfl, h⟩ := iv_i h
  exact ⟨x, t, rfl, h⟩
theorem iv_pl {st : List Value} {f : Int64 → List Value → Option ρ} (h : op_pl st none f = some r) : ∃ x t, st = .long x :: t ∧ f x t = some r := by
  obtain ⟨v, t, rfl, h⟩ := iv_p h
  obtain ⟨x, rfl, h⟩ := iv_l h
  exact ⟨x, t, rfl, h⟩
theorem iv_pr {st : List Value} {f : Nat → List Value → Option ρ} (h : op_pr st none f = some r) : ∃ x t, st = .ref x :: t ∧ f x t = some r := by
  obtain ⟨v, t, rfl, h⟩ := iv_p h
  obtain ⟨x, rfl, h⟩ := iv_r h
  exact ⟨x, t, rfl, h⟩
theorem iv_t {c : Prop} {d : Decidable c} {f : Option ρ} (h : @ite _ c d f none = some r) : c ∧ f = some r := by
  by_cases hc : c
  · rw [if_pos hc] at h
    exact ⟨hc, h⟩
  · rw [if_neg hc] at h
    cases h
theorem iv_f {c : Prop} {d : Decidable c} {f : Option ρ} (h : @ite _ c d none f = some r) : ¬ c ∧ f = some r := by
  by_cases hc : c
  · rw [if_pos hc] at h
    cases h
  · rw [if_neg hc] at h
    exact ⟨hc, h⟩
end INV
theorem lk_mem {ls : lo_} {k : Nat} {v : Value} (h : mk_lk ls k = some v) : (k, v) ∈ ls := by
  induction ls with
  | nil => cases h
  | cons q r ih =>
    unfold mk_lk at h
    by_cases e : q.1 = k
    · rw [if_pos e] at h
      have e2 := Option.some.inj h
      subst e; subst e2
      exact List.mem_cons_self
    · rw [if_neg e] at h
      exact List.mem_cons_of_mem _ (ih h)
theorem lk_has {la : Array Slot} {nL bs b : Nat} {ls : lo_} (hl : lv_has la nL (ls.map (wq_ bs b))) {k : Nat} {v : Value} (h : mk_lk ls k = some v) : la[k]? = some (.val (wv_ bs b v)) :=
  hl.2.2 (k, wv_ bs b v) (List.mem_map.mpr ⟨(k, v), lk_mem h, rfl⟩)
theorem lk_at {bs b : Nat} {ls : lo_} {k : Nat} {v : Value} (h : mk_lk ls k = some v) : ∃ j : Nat, (ls.map (wq_ bs b))[j]? = some (k, wv_ bs b v) := List.getElem?_of_mem (List.mem_map.mpr ⟨(k, v), lk_mem h, rfl⟩)
theorem pk_has {la : Array Slot} {nL bs b : Nat} {ls : lo_} (hl : lv_has la nL (ls.map (wq_ bs b))) (lv : List Nat) : lv_has la nL ((mk_pk lv ls).map (wq_ bs b)) := by
  refine ⟨hl.1, hl.2.1, fun q hq => ?_⟩
  obtain ⟨q1, h1, rfl⟩ := List.mem_map.mp hq
  obtain ⟨i, -, h2⟩ := List.mem_filterMap.mp h1
  cases h3 : mk_lk ls i with
  | none => rw [h3] at h2; cases h2
  | some v =>
    rw [h3] at h2
    cases h2
    exact lk_has hl h3
theorem put_1 {bs b : Nat} {ls : lo_} {i : Nat} {v : Value} (hc : ¬ v.category = 2) : (i, wv_ bs b v) :: (ls.map (wq_ bs b)).filter (fun q => !(q.1 == i) && !(q.1 + 1 == i && q.2.category == 2)) = (mk_put ls i v).map (wq_ bs b) := by
  unfold mk_put
  rw [if_neg hc, List.map_cons, List.filter_map]
  congr 2
  apply List.filter_congr
  intro q _
  simp only [Function.comp, wq_, wv_cat]
theorem put_2 {bs b : Nat} {ls : lo_} {i : Nat} {v : Value} (hc : v.category = 2) : (i, wv_ bs b v) :: (ls.map (wq_ bs b)).filter (fun q => !(q.1 == i) && (!(q.1 == i + 1) && !(q.1 + 1 == i && q.2.category == 2))) = (mk_put ls i v).map (wq_ bs b) := by
  unfold mk_put
  rw [if_pos hc, List.map_cons, List.filter_map]
  congr 2
  apply List.filter_congr
  intro q _
  simp only [Function.comp, wq_, wv_cat]
