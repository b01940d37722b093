/-! what a step asks of its continuations: nothing but to be used; so it keeps every relation -/
section PAR
variable {ρ σ : Type} {G : ρ → σ → Prop} {fl : ρ} {fm : σ}
theorem pa_o {α : Type} (o : Option α) {f : α → ρ} {g : α → σ} (h0 : G fl fm) (h1 : ∀ a, G (f a) (g a)) : G (op_o o fl f) (op_o o fm g) := by
  cases o
  · exact h0
  · exact h1 _
theorem pa_p (st : List Value) {f : Value → List Value → ρ} {g : Value → List Value → σ} (h0 : G fl fm) (h1 : ∀ a b, G (f a b) (g a b)) : G (op_p st fl f) (op_p st fm g) := by
  cases st
  · exact h0
  · exact h1 _ _
theorem pa_i (v : Value) {f : Int32 → ρ} {g : Int32 → σ} (h0 : G fl fm) (h1 : ∀ a, G (f a) (g a)) : G (op_i v fl f) (op_i v fm g) := by
  cases v <;> first | exact h0 | exact h1 _
theorem pa_l (v : Value) {f : Int64 → ρ} {g : Int64 → σ} (h0 : G fl fm) (h1 : ∀ a, G (f a) (g a)) : G (op_l v fl f) (op_l v fm g) := by
  cases v <;> first | exact h0 | exact h1 _
theorem pa_r (v : Value) {f : Nat → ρ} {g : Nat → σ} (h0 : G fl fm) (h1 : ∀ a, G (f a) (g a)) : G (op_r v fl f) (op_r v fm g) := by
  cases v <;> first | exact h0 | exact h1 _
theorem pa_e (st : List Value) {f : ρ} {g : σ} (h0 : G fl fm) (h1 : G f g) : G (op_e st fl f) (op_e st fm g) := by
  cases st
  · exact h1
  · exact h0
theorem pa_vI (v : Option Value) {f : Int32 → ρ} {g : Int32 → σ} (h0 : G fl fm) (h1 : ∀ a, G (f a) (g a)) : G (op_vI v fl f) (op_vI v fm g) := by
  cases v with
  | none => exact h0
  | some v => cases v <;> first | exact h0 | exact h1 _
theorem pa_vL (v : Option Value) {f : Int64 → ρ} {g : Int64 → σ} (h0 : G fl fm) (h1 : ∀ a, G (f a) (g a)) : G (op_vL v fl f) (op_vL v fm g) := by
  cases v with
  | none => exact h0
  | some v => cases v <;> first | exact h0 | exact h1 _
theorem pa_vR (v : Option Value) {f : Nat → ρ} {g : Nat → σ} (h0 : G fl fm) (h1 : ∀ a, G (f a) (g a)) : G (op_vR v fl f) (op_vR v fm g) := by
  cases v with
  | none => exact h0
  | some v => cases v <;> first | exact h0 | exact h1 _
theorem pa_vN (v : Option Value) {f : ρ} {g : σ} (h0 : G fl fm) (h1 : G f g) : G (op_vN v fl f) (op_vN v fm g) := by
  cases v
  · exact h1
  · exact h0
theorem pa_pi (st : List Value) {f : Int32 → List Value → ρ} {g : Int32 → List Value → σ} (h0 : G fl fm) (h1 : ∀ a b, G (f a b) (g a b)) : G (op_pi st fl f) (op_pi st fm g) := pa_p _ h0 fun _ _ => pa_i _ h0 fun _ => h1 _ _
theorem pa_pl (st : List Value) {f : Int64 → List Value → ρ} {g : Int64 → List Value → σ} (h0 : G fl fm) (h1 : ∀ a b, G (f a b) (g a b)) : G (op_pl st fl f) (op_pl st fm g) := pa_p _ h0 fun _ _ => pa_l _ h0 fun _ => h1 _ _
theorem pa_pr (st : List Value) {f : Nat → List Value → ρ} {g : Nat → List Value → σ} (h0 : G fl fm) (h1 : ∀ a b, G (f a b) (g a b)) : G (op_pr st fl f) (op_pr st fm g) := pa_p _ h0 fun _ _ => pa_r _ h0 fun _ => h1 _ _
theorem pa_if {c : Prop} (d : Decidable c) {a b : ρ} {a' b' : σ} (h0 : G a a') (h1 : G b b') : G (@ite _ c d a b) (@ite _ c d a' b') := by
  by_cases h : c
  · rw [if_pos h, if_pos h]; exact h0
  · rw [if_neg h, if_neg h]; exact h1
theorem pa_ib (x : Nat) (a b : Int32) {f : Int32 → ρ} {g : Int32 → σ} (h0 : G fl fm) (h1 : ∀ a, G (f a) (g a)) : G (mk_ib x a b fl f) (mk_ib x a b fm g) := by
  unfold mk_ib
  match x with
  | 0 | 1 | 2 | 3 | 4 | 5 | 6 | 7 => exact h1 _
  | 8 | 9 => exact pa_if _ h0 (h1 _)
  | _ + 10 => exact h0
theorem pa_lb (x : Nat) (a b : Int64) {f : Int64 → ρ} {g : Int64 → σ} (h0 : G fl fm) (h1 : ∀ a, G (f a) (g a)) : G (mk_lb x a b fl f) (mk_lb x a b fm g) := by
  unfold mk_lb
  match x with
  | 0 | 1 | 2 | 3 | 4 => exact h1 _
  | _ + 5 => exact h0
theorem pa_ls (x : Nat) (a : Int64) (b : Int32) {f : Int64 → ρ} {g : Int64 → σ} (h0 : G fl fm) (h1 : ∀ a, G (f a) (g a)) : G (mk_ls x a b fl f) (mk_ls x a b fm g) := by
  unfold mk_ls
  match x with
  | 0 | 1 | 2 => exact h1 _
  | _ + 3 => exact h0
theorem pa_cv (x : Nat) (v : Value) {f : Value → ρ} {g : Value → σ} (h0 : G fl fm) (h1 : ∀ a, G (f a) (g a)) : G (mk_cv x v fl f) (mk_cv x v fm g) := by
  unfold mk_cv
  match x with
  | 0 | 2 => exact pa_i _ h0 fun _ => h1 _
  | 1 => exact pa_l _ h0 fun _ => h1 _
  | _ + 3 => exact h0
theorem pa_cc (x : Nat) (a b : Int32) {kt kf : ρ} {gt gf : σ} (h0 : G fl fm) (h1 : G kt gt) (h2 : G kf gf) : G (mk_cc x a b fl kt kf) (mk_cc x a b fm gt gf) := by
  unfold mk_cc
  match x with
  | 0 | 1 | 2 | 3 | 4 | 5 => exact pa_if _ h1 h2
  | _ + 6 => exact h0
theorem pa_sw (l : List (Int × Nat)) (v : Int32) (d : Nat) {f : Nat → ρ} {g : Nat → σ} (h1 : ∀ a, G (f a) (g a)) : G (mk_sw l v d f) (mk_sw l v d g) := by
  induction l with
  | nil => exact h1 _
  | cons q l ih => exact pa_if _ (h1 _) ih
theorem pa_al (x : Nat) (h : hp_) (a : Nat) (i : Int32) {f : Value → ρ} {g : Value → σ} (h0 : G fl fm) (h1 : ∀ a, G (f a) (g a)) : G (mk_al x h a i fl f) (mk_al x h a i fm g) := by
  unfold mk_al
  refine pa_if _ (pa_if _ h0 ?_) h0
  match x with
  | 0 => exact h0
  | 1 | 2 | 3 | 4 => exact h1 _
  | 5 => exact pa_if _ h0 (h1 _)
  | _ + 6 => exact h0
theorem pa_as (x y : Nat) (h : hp_) (v : Value) (a : Nat) (i : Int32) {f : hp_ → ρ} {g : hp_ → σ} (h0 : G fl fm) (h1 : ∀ a, G (f a) (g a)) : G (mk_as x y h v a i fl f) (mk_as x y h v a i fm g) := by
  unfold mk_as
  refine pa_if _ (pa_if _ h0 ?_) h0
  match x with
  | 0 => exact h0
  | 1 | 2 | 3 => exact pa_i _ h0 fun _ => h1 _
  | 4 => exact pa_l _ h0 fun _ => h1 _
  | 5 => exact pa_r _ h0 fun _ => pa_if _ (h1 _) h0
  | _ + 6 => exact h0
theorem pa_gf (z : Nat) (h : hp_) (c k : Nat) {f : Value → ρ} {g : Value → σ} (h0 : G fl fm) (h1 : ∀ a, G (f a) (g a)) : G (mk_gf z h c k fl f) (mk_gf z h c k fm g) := by
  unfold mk_gf
  match z with
  | 0 | 1 => exact h1 _
  | 2 => exact pa_if _ h0 (h1 _)
  | _ + 3 => exact h0
theorem pa_pf (z : Nat) (w : Int) (h : hp_) (c k : Nat) (v : Value) {f : hp_ → ρ} {g : hp_ → σ} (h0 : G fl fm) (h1 : ∀ a, G (f a) (g a)) : G (mk_pf z w h c k v fl f) (mk_pf z w h c k v fm g) := by
  unfold mk_pf
  match z with
  | 0 => exact pa_i _ h0 fun _ => h1 _
  | 1 => exact pa_i _ h0 fun _ => pa_if _ (h1 _) h0
  | 2 => exact pa_r _ h0 fun _ => pa_if _ (h1 _) h0
  | _ + 3 => exact h0
theorem pa_rt (x : Nat) (v : Value) {f : Value → ρ} {g : Value → σ} (h0 : G fl fm) (h1 : ∀ a, G (f a) (g a)) : G (mk_rt x v fl f) (mk_rt x v fm g) := by
  unfold mk_rt
  match x with
  | 0 => exact pa_i _ h0 fun _ => h1 _
  | 1 => exact pa_i _ h0 fun _ => pa_if _ (h1 _) h0
  | 2 => exact pa_l _ h0 fun _ => h1 _
  | 3 => exact pa_r _ h0 fun _ => pa_if _ h0 (h1 _)
  | _ + 4 => exact h0
theorem pa_ty (y : Nat) (v : Value) {f : Value → ρ} {g : Value → σ} (h0 : G fl fm) (h1 : ∀ a, G (f a) (g a)) : G (mk_ty y v fl f) (mk_ty y v fm g) := by
  unfold mk_ty
  match y with
  | 0 => exact pa_i _ h0 fun _ => h1 _
  | 1 => exact pa_l _ h0 fun _ => h1 _
  | 2 => exact pa_r _ h0 fun _ => h1 _
  | _ + 3 => exact h0
theorem pa_rv (z : Nat) (v : Option Value) (rest : List Value) {f : List Value → ρ} {g : List Value → σ} (h0 : G fl fm) (h1 : ∀ a, G (f a) (g a)) : G (mk_rv z v rest fl f) (mk_rv z v rest fm g) := by
  unfold mk_rv
  match z with
  | 0 => exact pa_vN _ h0 (h1 _)
  | 1 => exact pa_vI _ h0 fun _ => h1 _
  | 2 => exact pa_vL _ h0 fun _ => h1 _
  | 3 => exact pa_vR _ h0 fun _ => h1 _
  | _ + 4 => exact h0
theorem pa_rc (w : Int) (h : hp_) (as : List Value) {f : ρ} {g : σ} (h0 : G fl fm) (h1 : G f g) : G (mk_rc w h as fl f) (mk_rc w h as fm g) := by
  unfold mk_rc
  exact pa_if _ h1 (pa_p _ h0 fun _ _ => pa_r _ h0 fun _ => pa_if _ h1 h0)
theorem pa_st (xs : Nat → Int32) (L : Nat) (sw : Nat → List (Int × Nat)) (e : en_) (pc : Nat) (ls : lo_) (st : List Value) (h : hp_) {rt : Option Value → hp_ → ρ} {rt' : Option Value → hp_ → σ} {k : Nat → lo_ → List Value → hp_ → ρ} {k' : Nat → lo_ → List Value → hp_ → σ} {iv : Nat → List Value → hp_ → (Option Value → hp_ → ρ) → ρ} {iv' : Nat → List Value → hp_ → (Option Value → hp_ → σ) → σ}
    (h0 : G fl fm) (hr : ∀ v h, G (rt v h) (rt' v h)) (hk : ∀ pc ls st h, G (k pc ls st h) (k' pc ls st h)) (hi : ∀ m as h f g, (∀ v h, G (f v h) (g v h)) → G (iv m as h f) (iv' m as h g)) :
    G (st_ xs L sw e pc ls st h fl rt k iv) (st_ xs L sw e pc ls st h fm rt' k' iv') := by
  obtain ⟨op, e⟩ := e
  unfold st_
  match op with
  | 0 | 1 | 12 | 21 => exact hk _ _ _ _
  | 2 => exact pa_o _ h0 fun _ => pa_ty _ _ h0 fun _ => hk _ _ _ _
  | 3 => exact pa_p _ h0 fun _ _ => pa_ty _ _ h0 fun _ => hk _ _ _ _
  | 4 => exact pa_o _ h0 fun _ => pa_i _ h0 fun _ => hk _ _ _ _
  | 5 => exact pa_pi _ h0 fun _ _ => pa_pi _ h0 fun _ _ => pa_ib _ _ _ h0 fun _ => hk _ _ _ _
  | 6 => exact pa_pl _ h0 fun _ _ => pa_pl _ h0 fun _ _ => pa_lb _ _ _ h0 fun _ => hk _ _ _ _
  | 7 => exact pa_pi _ h0 fun _ _ => pa_pl _ h0 fun _ _ => pa_ls _ _ _ h0 fun _ => hk _ _ _ _
  | 8 => exact pa_p _ h0 fun _ _ => pa_cv _ _ h0 fun _ => hk _ _ _ _
  | 9 => exact pa_pl _ h0 fun _ _ => pa_pl _ h0 fun _ _ => hk _ _ _ _
  | 10 => exact pa_pi _ h0 fun _ _ => pa_cc _ _ _ h0 (hk _ _ _ _) (hk _ _ _ _)
  | 11 => exact pa_pi _ h0 fun _ _ => pa_pi _ h0 fun _ _ => pa_cc _ _ _ h0 (hk _ _ _ _) (hk _ _ _ _)
  | 13 => exact pa_pr _ h0 fun _ _ => pa_if _ (pa_gf _ _ _ _ h0 fun _ => hk _ _ _ _) h0
  | 14 => exact pa_p _ h0 fun _ _ => pa_pr _ h0 fun _ _ => pa_if _ (pa_pf _ _ _ _ _ _ h0 fun _ => hk _ _ _ _) h0
  | 15 => exact pa_pi _ h0 fun _ _ => pa_pr _ h0 fun _ _ => pa_al _ _ _ _ h0 fun _ => hk _ _ _ _
  | 16 => exact pa_p _ h0 fun _ _ => pa_pi _ h0 fun _ _ => pa_pr _ h0 fun _ _ => pa_as _ _ _ _ _ _ h0 fun _ => hk _ _ _ _
  | 17 => exact pa_pr _ h0 fun _ _ => pa_if _ (hk _ _ _ _) h0
  | 18 | 19 => exact pa_p _ h0 fun _ _ => pa_if _ (hk _ _ _ _) h0
  | 20 => exact pa_p _ h0 fun _ _ => pa_p _ h0 fun _ _ => pa_if _ (hk _ _ _ _) h0
  | 22 => exact pa_pi _ h0 fun _ _ => pa_if _ h0 (hk _ _ _ _)
  | 23 => exact h0
  | 24 => exact pa_if _ (pa_rc _ _ _ h0 (hi _ _ _ _ _ fun _ _ => pa_rv _ _ _ h0 fun _ => hk _ _ _ _)) h0
  | 25 => exact pa_pr _ h0 fun _ _ => pa_if _ (hk _ _ _ _) h0
  | 26 => exact pa_pi _ h0 fun _ _ => pa_pi _ h0 fun _ _ => pa_pr _ h0 fun _ _ => pa_pi _ h0 fun _ _ => pa_pr _ h0 fun _ _ => pa_if _ (hk _ _ _ _) h0
  | 27 => exact pa_p _ h0 fun _ _ => pa_e _ h0 (pa_rt _ _ h0 fun _ => hr _ _)
  | 28 | 29 => exact pa_pi _ h0 fun _ _ => pa_pi _ h0 fun _ _ => pa_if _ (hk _ _ _ _) h0
  | 30 => exact pa_e _ h0 (hr _ _)
  | 31 => exact pa_pi _ h0 fun _ _ => pa_sw _ _ _ fun _ => hk _ _ _ _
  | 32 => exact pa_pi _ h0 fun _ _ => pa_pr _ h0 fun _ _ => pa_if _ (pa_if _ h0 (hk _ _ _ _)) h0
  | 33 => exact pa_pr _ h0 fun _ _ => pa_if _ (hk _ _ _ _) h0
  | _ + 34 => exact h0
end PAR
/-! limits -/
def le_ {α : Type} (a b : Option α) : Prop := ∀ x, a = some x → b = some x
theorem le_n {α : Type} (b : Option α) : le_ none b := fun _ h => by cases h
theorem le_r {α : Type} (b : Option α) : le_ b b := fun _ h => h
noncomputable def lm_ {α : Type} (f : Nat → Option α) : Option α := @dite _ (∃ x n, f n = some x) (Classical.propDecidable _) (fun h => some (Classical.choose h)) (fun _ => none)
def mo_ {α : Type} (f : Nat → Option α) : Prop := ∀ n, le_ (f n) (f (n + 1))
theorem mo_le {α : Type} {f : Nat → Option α} (h : mo_ f) {n m : Nat} (hn : n ≤ m) : le_ (f n) (f m) := by
  induction hn with
  | refl => exact le_r _
  | step _ ih => exact fun x e => h _ _ (ih x e)
theorem lm_ex {α : Type} {f : Nat → Option α} {x : α} (hl : lm_ f = some x) : ∃ n, f n = some x := by
  unfold lm_ at hl
  split at hl
  · rename_i h
    cases hl
    exact Classical.choose_spec h
  · cases hl
theorem lm_of {α : Type} {f : Nat → Option α} (h : mo_ f) {n : Nat} {x : α} (e : f n = some x) : lm_ f = some x := by
  have hx : ∃ x n, f n = some x := ⟨x, n, e⟩
  have h1 : lm_ f = some (Classical.choose hx) := by
    unfold lm_
    rw [dif_pos hx]
  obtain ⟨m, hm⟩ := Classical.choose_spec hx
  rw [h1]
  have a := mo_le h (Nat.le_max_left n m) x e
  have b := mo_le h (Nat.le_max_right n m) _ hm
  rw [a] at b
  exact b.symm
theorem le_anti {α : Type} {a b : Option α} (h : le_ a b) (g : le_ b a) : a = b := by
  cases a with
  | some x => exact (h x rfl).symm
  | none =>
    cases b with
    | none => rfl
    | some y => exact g y rfl
theorem sg_mono (xs : Nat → Int32) (L : Nat) (mt : mt_) (ck : Nat → List Value → hp_ → re_) {k k' : Nat → lo_ → List Value → hp_ → re_} (hk : ∀ pc ls st h, le_ (k pc ls st h) (k' pc ls st h)) : ∀ n pc ls st h, le_ (sg_ xs L mt ck k n pc ls st h) (sg_ xs L mt ck k' n pc ls st h) := by
  intro n
  induction n with
  | zero => exact fun _ _ _ _ => le_r _
  | succ n ih =>
    intro pc ls st h
    exact pa_st (G := le_) xs L mt.2.2.1 _ pc ls st h (le_r _) (fun _ _ => le_r _) (fun pc ls st h => pa_o (G := le_) _ (ih _ _ _ _) fun _ => hk _ _ _ _) (fun m as h f g hf => pa_o (G := le_) _ (le_r _) fun p => hf _ _)
/-- a chain's limit, where a step is used -/
theorem sg_lim (xs : Nat → Int32) (L : Nat) (mt : mt_) (ck : Nat → List Value → hp_ → re_) {k : Nat → Nat → lo_ → List Value → hp_ → re_} {k' : Nat → lo_ → List Value → hp_ → re_} (hm : ∀ i pc ls st h, le_ (k i pc ls st h) (k (i + 1) pc ls st h)) (hk : ∀ pc ls st h x, k' pc ls st h = some x → ∃ i, k i pc ls st h = some x) :
    ∀ n pc ls st h x, sg_ xs L mt ck k' n pc ls st h = some x → ∃ i, sg_ xs L mt ck (k i) n pc ls st h = some x := by
  intro n
  induction n with
  | zero => exact fun _ _ _ _ _ h => by cases h
  | succ n ih =>
    intro pc ls st h
    have key : (fun (a : re_) (b : Nat → re_) => (∀ x, a = some x → ∃ i, b i = some x)) (sg_ xs L mt ck k' (n + 1) pc ls st h) (fun i => sg_ xs L mt ck (k i) (n + 1) pc ls st h) := by
      have e : (fun i => sg_ xs L mt ck (k i) (n + 1) pc ls st h) = st_ xs L mt.2.2.1 (mt.1 pc) pc ls st h (fun _ => none) (fun v h _ => some (v, h)) (fun pc ls st h i => op_o (mt.2.1 pc) (sg_ xs L mt ck (k i) n pc ls st h) fun lv => k i pc (mk_pk lv ls) st h) (fun m as h f i => op_o (ck m as h) none fun p => f p.1 p.2 i) := by
        funext i
        refine Eq.symm ?_
        refine pa_st (G := fun (a : Nat → re_) (b : re_) => a i = b) (fl := fun _ => none) (fm := none) (rt := fun v h _ => some (v, h)) (rt' := fun v h => some (v, h)) (k := fun pc ls st h i => op_o (mt.2.1 pc) (sg_ xs L mt ck (k i) n pc ls st h) fun lv => k i pc (mk_pk lv ls) st h) (k' := fun pc ls st h => op_o (mt.2.1 pc) (sg_ xs L mt ck (k i) n pc ls st h) fun lv => k i pc (mk_pk lv ls) st h) (iv := fun m as h f i => op_o (ck m as h) none fun p => f p.1 p.2 i) (iv' := fun m as h f => op_o (ck m as h) none fun p => f p.1 p.2) xs L mt.2.2.1 (mt.1 pc) pc ls st h rfl (fun _ _ => rfl) (fun _ _ _ _ => rfl) (fun m as h f g hf => ?_)
        show op_o (ck m as h) none (fun p => f p.1 p.2 i) = op_o (ck m as h) none (fun p => g p.1 p.2)
        cases ck m as h with
        | none => rfl
        | some p => exact hf _ _
      rw [e]
      refine pa_st (G := fun (a : re_) (b : Nat → re_) => (∀ x, a = some x → ∃ i, b i = some x)) xs L mt.2.2.1 _ pc ls st h ?_ ?_ ?_ ?_
      · exact fun _ h => by cases h
      · exact fun _ _ x h => ⟨0, h⟩
      · intro pc ls st h x hx
        show ∃ i, op_o (mt.2.1 pc) (sg_ xs L mt ck (k i) n pc ls st h) (fun lv => k i pc (mk_pk lv ls) st h) = some x
        cases he : mt.2.1 pc with
        | none =>
          rw [he] at hx
          exact ih _ _ _ _ _ hx
        | some lv =>
          rw [he] at hx
          exact hk _ _ _ _ _ hx
      · intro m as h f g hf x hx
        show ∃ i, op_o (ck m as h) none (fun p => g p.1 p.2 i) = some x
        cases he : ck m as h with
        | none => rw [he] at hx; cases hx
        | some p =>
          rw [he] at hx
          exact hf _ _ _ hx
    exact key
/-- the most instructions between two cuts -/
def mk_B : Nat := 400
def rn_ (xs : Nat → Int32) (L : Nat) (mt : mt_) (ck : Nat → List Value → hp_ → re_) : Nat → Nat → lo_ → List Value → hp_ → re_
  | 0, _, _, _, _ => none
  | n + 1, pc, ls, st, h => sg_ xs L mt ck (rn_ xs L mt ck n) mk_B pc ls st h
theorem rn_mono (xs : Nat → Int32) (L : Nat) (mt : mt_) (ck : Nat → List Value → hp_ → re_) : ∀ n pc ls st h, le_ (rn_ xs L mt ck n pc ls st h) (rn_ xs L mt ck (n + 1) pc ls st h) := by
  intro n
  induction n with
  | zero => exact fun _ _ _ _ => le_n _
  | succ n ih => exact fun pc ls st h => sg_mono xs L mt ck ih _ _ _ _ _
/-- THE EVALUATOR: a method, from a cut on, at depth d -/
noncomputable def ev_ (xs : Nat → Int32) (L : Nat) (P : Nat → mt_) : Nat → Nat → Nat → lo_ → List Value → hp_ → re_
  | 0, _, _, _, _, _ => none
  | d + 1, m, pc, ls, st, h => lm_ (fun n => rn_ xs L (P m) (fun m as h => if mk_ca as ≤ (P m).2.2.2 then ev_ xs L P d m 0 (lv_args 0 as) [] h else none) n pc ls st h)
theorem ev_eq (xs : Nat → Int32) (L : Nat) (P : Nat → mt_) (d m pc : Nat) (ls : lo_) (st : List Value) (h : hp_) : ev_ xs L P (d + 1) m pc ls st h = sg_ xs L (P m) (fun m as h => if mk_ca as ≤ (P m).2.2.2 then ev_ xs L P d m 0 (lv_args 0 as) [] h else none) (fun pc ls st h => ev_ xs L P (d + 1) m pc ls st h) mk_B pc ls st h := by
  have hmo : ∀ pc ls st h, mo_ (fun n => rn_ xs L (P m) (fun m as h => if mk_ca as ≤ (P m).2.2.2 then ev_ xs L P d m 0 (lv_args 0 as) [] h else none) n pc ls st h) := fun pc ls st h n => rn_mono _ _ _ _ n pc ls st h
  refine le_anti (fun x hx => ?_) (fun x hx => ?_)
  · have hx' : lm_ (fun n => rn_ xs L (P m) (fun m as h => if mk_ca as ≤ (P m).2.2.2 then ev_ xs L P d m 0 (lv_args 0 as) [] h else none) n pc ls st h) = some x := hx
    obtain ⟨n, hn⟩ := lm_ex hx'
    cases n with
    | zero => cases hn
    | succ n => exact sg_mono _ _ _ _ (fun pc ls st h y hy => lm_of (hmo pc ls st h) hy) _ _ _ _ _ _ hn
  · obtain ⟨n, hn⟩ := sg_lim xs L (P m) (fun m as h => if mk_ca as ≤ (P m).2.2.2 then ev_ xs L P d m 0 (lv_args 0 as) [] h else none) (k := fun n => rn_ xs L (P m) (fun m as h => if mk_ca as ≤ (P m).2.2.2 then ev_ xs L P d m 0 (lv_args 0 as) [] h else none) n) (rn_mono _ _ _ _) (fun pc ls st h y hy => lm_ex hy) _ _ _ _ _ _ hx
    exact lm_of (hmo pc ls st h) (n := n + 1) hn
