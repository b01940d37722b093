section
/-! THE SMALL MACHINE: a pure evaluator of decoded code over a typed store. hp_: shape (tag, length), references, ints, longs, cells, slots. -/
abbrev hp_ : Type := (Nat → Nat × Nat) × (Nat → Nat → Nat) × (Nat → Nat → Int32) × (Nat → Nat → Int64) × Nat × Nat
def hp_T (h : hp_) (a : Nat) : Nat := (h.1 a).1
def hp_N (h : hp_) (a : Nat) : Nat := (h.1 a).2
def hp_R (h : hp_) : Nat → Nat → Nat := h.2.1
def hp_I (h : hp_) : Nat → Nat → Int32 := h.2.2.1
def hp_L (h : hp_) : Nat → Nat → Int64 := h.2.2.2.1
def hp_z (h : hp_) : Nat := h.2.2.2.2.1
def hp_s (h : hp_) : Nat := h.2.2.2.2.2
def hp_sR (h : hp_) (a i v : Nat) : hp_ := (h.1, va_up h.2.1 a (va_up (h.2.1 a) i v), h.2.2.1, h.2.2.2.1, h.2.2.2.2.1, h.2.2.2.2.2)
def hp_sI (h : hp_) (a i : Nat) (v : Int32) : hp_ := (h.1, h.2.1, va_up h.2.2.1 a (va_up (h.2.2.1 a) i v), h.2.2.2.1, h.2.2.2.2.1, h.2.2.2.2.2)
def hp_sL (h : hp_) (a i : Nat) (v : Int64) : hp_ := (h.1, h.2.1, h.2.2.1, va_up h.2.2.2.1 a (va_up (h.2.2.2.1 a) i v), h.2.2.2.2.1, h.2.2.2.2.2)
def hp_cp (h : hp_) (a0 sp a dp n : Nat) : hp_ := (h.1, h.2.1, va_up h.2.2.1 a (va_cpy (h.2.2.1 a0) (h.2.2.1 a) sp dp n), h.2.2.2.1, h.2.2.2.2.1, h.2.2.2.2.2)
def hp_al (h : hp_) (t n : Nat) : hp_ := (va_up h.1 (h.2.2.2.2.1 + 1) (t, n), va_up h.2.1 (h.2.2.2.2.1 + 1) (fun _ => 0), va_up h.2.2.1 (h.2.2.2.2.1 + 1) (fun _ => 0), va_up h.2.2.2.1 (h.2.2.2.2.1 + 1) (fun _ => 0), h.2.2.2.2.1 + 1, h.2.2.2.2.2 + n)
/-! an entry: op, length, x, y, z, w -/
abbrev en_ : Type := Nat × Nat × Nat × Nat × Nat × Int
abbrev lo_ : Type := List (Nat × Value)
/-! a method: its entries, its cuts (with the locals that live there), its switches -/
abbrev mt_ : Type := (Nat → en_) × (Nat → Option (List Nat)) × (Nat → List (Int × Nat))
def mk_lk : lo_ → Nat → Option Value
  | [], _ => none
  | q :: r, k => if q.1 = k then some q.2 else mk_lk r k
def mk_pk (lv : List Nat) (ls : lo_) : lo_ := lv.filterMap (fun i => (mk_lk ls i).map (fun v => (i, v)))
def mk_put (ls : lo_) (i : Nat) (v : Value) : lo_ := if v.category = 2 then (i, v) :: ls.filter (fun q => !(q.1 == i) && (!(q.1 == i + 1) && !(q.1 + 1 == i && q.2.category == 2))) else (i, v) :: ls.filter (fun q => !(q.1 == i) && !(q.1 + 1 == i && q.2.category == 2))
section MK
variable {ρ : Type}
def op_o {α : Type} (o : Option α) (fl : ρ) (f : α → ρ) : ρ := match o with
  | some a => f a
  | none => fl
def op_p (st : List Value) (fl : ρ) (f : Value → List Value → ρ) : ρ := match st with
  | v :: r => f v r
  | [] => fl
def op_i (v : Value) (fl : ρ) (f : Int32 → ρ) : ρ := match v with
  | .int x => f x
  | _ => fl
def op_l (v : Value) (fl : ρ) (f : Int64 → ρ) : ρ := match v with
  | .long x => f x
  | _ => fl
def op_r (v : Value) (fl : ρ) (f : Nat → ρ) : ρ := match v with
  | .ref x => f x
  | _ => fl
def op_e (st : List Value) (fl : ρ) (f : ρ) : ρ := match st with
  | [] => f
  | _ :: _ => fl
def op_vI (v : Option Value) (fl : ρ) (f : Int32 → ρ) : ρ := match v with
  | some (.int x) => f x
  | _ => fl
def op_vL (v : Option Value) (fl : ρ) (f : Int64 → ρ) : ρ := match v with
  | some (.long x) => f x
  | _ => fl
def op_vR (v : Option Value) (fl : ρ) (f : Nat → ρ) : ρ := match v with
  | some (.ref x) => f x
  | _ => fl
def op_vN (v : Option Value) (fl : ρ) (f : ρ) : ρ := match v with
  | none => f
  | some _ => fl
def op_pi (st : List Value) (fl : ρ) (f : Int32 → List Value → ρ) : ρ := op_p st fl fun v r => op_i v fl fun x => f x r
def op_pl (st : List Value) (fl : ρ) (f : Int64 → List Value → ρ) : ρ := op_p st fl fun v r => op_l v fl fun x => f x r
def op_pr (st : List Value) (fl : ρ) (f : Nat → List Value → ρ) : ρ := op_p st fl fun v r => op_r v fl fun x => f x r
def mk_ib (x : Nat) (a b : Int32) (fl : ρ) (f : Int32 → ρ) : ρ := match x with
  | 0 => f (a + b)
  | 1 => f (a - b)
  | 2 => f (a * b)
  | 3 => f (a &&& b)
  | 4 => f (a ||| b)
  | 5 => f (a <<< (b &&& 31))
  | 6 => f (a >>> (b &&& 31))
  | 7 => f (a.toUInt32 >>> (b.toUInt32 &&& Int32.toUInt32 31)).toInt32
  | 8 => if b = 0 then fl else f (a / b)
  | 9 => if b = 0 then fl else f (a - a / b * b)
  | _ => fl
def mk_lb (x : Nat) (a b : Int64) (fl : ρ) (f : Int64 → ρ) : ρ := match x with
  | 0 => f (a + b)
  | 1 => f (a - b)
  | 2 => f (a * b)
  | 3 => f (a &&& b)
  | 4 => f (a ||| b)
  | _ => fl
def mk_ls (x : Nat) (a : Int64) (b : Int32) (fl : ρ) (f : Int64 → ρ) : ρ := match x with
  | 0 => f (a <<< (b.toInt64 &&& 63))
  | 1 => f (a >>> (b.toInt64 &&& 63))
  | 2 => f (a.toUInt64 >>> (b.toInt64.toUInt64 &&& Int64.toUInt64 63)).toInt64
  | _ => fl
def mk_cv (x : Nat) (v : Value) (fl : ρ) (f : Value → ρ) : ρ := match x with
  | 0 => op_i v fl fun a => f (.long a.toInt64)
  | 1 => op_l v fl fun a => f (.int a.toInt32)
  | 2 => op_i v fl fun a => f (.int a.toInt8.toInt32)
  | _ => fl
def mk_cc (x : Nat) (a b : Int32) (fl kt kf : ρ) : ρ := match x with
  | 0 => if a = b then kt else kf
  | 1 => if a ≠ b then kt else kf
  | 2 => if a < b then kt else kf
  | 3 => if b ≤ a then kt else kf
  | 4 => if b < a then kt else kf
  | 5 => if a ≤ b then kt else kf
  | _ => fl
def mk_sw : List (Int × Nat) → Int32 → Nat → (Nat → ρ) → ρ
  | [], _, d, f => f d
  | q :: l, v, d, f => if v = Int32.ofInt q.1 then f q.2 else mk_sw l v d f
def mk_inb (i : Int32) (n : Nat) (fl f : ρ) : ρ := if i < 0 ∨ n ≤ i.toNatClampNeg then fl else f
/-- a load out of an array of the tag x -/
def mk_al (x : Nat) (h : hp_) (a : Nat) (i : Int32) (fl : ρ) (f : Value → ρ) : ρ := if hp_T h a = x then mk_inb i (hp_N h a) fl (match x with
  | 1 => f (.int (hp_I h a i.toNatClampNeg))
  | 2 => f (.int (hp_I h a i.toNatClampNeg))
  | 3 => f (.int (hp_I h a i.toNatClampNeg))
  | 4 => f (.long (hp_L h a i.toNatClampNeg))
  | 5 => if hp_R h a i.toNatClampNeg = 0 then fl else f (.ref (hp_R h a i.toNatClampNeg))
  | _ => fl) else fl
/-- a store into an array of the tag x; y: the tag of what may be stored, where it is a reference -/
def mk_as (x y : Nat) (h : hp_) (v : Value) (a : Nat) (i : Int32) (fl : ρ) (f : hp_ → ρ) : ρ := if hp_T h a = x then mk_inb i (hp_N h a) fl (match x with
  | 1 => op_i v fl fun n => f (hp_sI h a i.toNatClampNeg n)
  | 2 => op_i v fl fun n => f (hp_sI h a i.toNatClampNeg (vp_nar .boolean n))
  | 3 => op_i v fl fun n => f (hp_sI h a i.toNatClampNeg (vp_nar .byte n))
  | 4 => op_l v fl fun n => f (hp_sL h a i.toNatClampNeg n)
  | 5 => op_r v fl fun n => if hp_T h n = y then f (hp_sR h a i.toNatClampNeg n) else fl
  | _ => fl) else fl
def mk_gf (z : Nat) (h : hp_) (c k : Nat) (fl : ρ) (f : Value → ρ) : ρ := match z with
  | 0 => f (.int (hp_I h c k))
  | 1 => f (.int (hp_I h c k))
  | 2 => if hp_R h c k = 0 then fl else f (.ref (hp_R h c k))
  | _ => fl
/-- w: the tag of what may be stored, where it is a reference -/
def mk_pf (z : Nat) (w : Int) (h : hp_) (c k : Nat) (v : Value) (fl : ρ) (f : hp_ → ρ) : ρ := match z with
  | 0 => op_i v fl fun n => f (hp_sI h c k n)
  | 1 => op_i v fl fun n => if n = 0 ∨ n = 1 then f (hp_sI h c k n) else fl
  | 2 => op_r v fl fun n => if hp_T h n = w.toNat then f (hp_sR h c k n) else fl
  | _ => fl
def mk_ca (st : List Value) : Nat := (st.map fun v => v.category).sum
def mk_rt (x : Nat) (v : Value) (fl : ρ) (f : Value → ρ) : ρ := match x with
  | 0 => op_i v fl fun n => f (.int n)
  | 1 => op_i v fl fun n => if n = 0 ∨ n = 1 then f (.int n) else fl
  | 2 => op_l v fl fun n => f (.long n)
  | 3 => op_r v fl fun n => if n = 0 then fl else f (.ref n)
  | _ => fl
def mk_rv (z : Nat) (v : Option Value) (rest : List Value) (fl : ρ) (f : List Value → ρ) : ρ := match z with
  | 0 => op_vN v fl (f rest)
  | 1 => op_vI v fl fun n => f (.int n :: rest)
  | 2 => op_vL v fl fun n => f (.long n :: rest)
  | 3 => op_vR v fl fun n => f (.ref n :: rest)
  | _ => fl
/-- the receiver's tag, where one is wanted -/
def mk_rc (w : Int) (h : hp_) (as : List Value) (fl f : ρ) : ρ := if w < 0 then f else op_p as fl fun v _ => op_r v fl fun c => if hp_T h c = w.toNat then f else fl
/-- ONE INSTRUCTION -/
def st_ (xs : Nat → Int32) (L : Nat) (sw : Nat → List (Int × Nat)) (e : en_) (pc : Nat) (ls : lo_) (st : List Value) (h : hp_) (fl : ρ) (rt : Option Value → hp_ → ρ) (k : Nat → lo_ → List Value → hp_ → ρ) (iv : Nat → List Value → hp_ → (Option Value → hp_ → ρ) → ρ) : ρ := match e.1 with
  | 0 => k (pc + e.2.1) ls (.int (Int32.ofInt e.2.2.2.2.2) :: st) h
  | 1 => k (pc + e.2.1) ls (.long (Int64.ofInt e.2.2.2.2.2) :: st) h
  | 2 => op_o (mk_lk ls e.2.2.1) fl fun v => k (pc + e.2.1) ls (v :: st) h
  | 3 => op_p st fl fun v r => k (pc + e.2.1) (mk_put ls e.2.2.1 v) r h
  | 4 => op_o (mk_lk ls e.2.2.1) fl fun v => op_i v fl fun a => k (pc + e.2.1) (mk_put ls e.2.2.1 (.int (a + Int32.ofInt e.2.2.2.2.2))) st h
  | 5 => op_pi st fl fun b r => op_pi r fl fun a r => mk_ib e.2.2.1 a b fl fun c => k (pc + e.2.1) ls (.int c :: r) h
  | 6 => op_pl st fl fun b r => op_pl r fl fun a r => mk_lb e.2.2.1 a b fl fun c => k (pc + e.2.1) ls (.long c :: r) h
  | 7 => op_pi st fl fun b r => op_pl r fl fun a r => mk_ls e.2.2.1 a b fl fun c => k (pc + e.2.1) ls (.long c :: r) h
  | 8 => op_p st fl fun v r => mk_cv e.2.2.1 v fl fun c => k (pc + e.2.1) ls (c :: r) h
  | 9 => op_pl st fl fun b r => op_pl r fl fun a r => k (pc + e.2.1) ls (.int (lg_cmp a b) :: r) h
  | 10 => op_pi st fl fun a r => mk_cc e.2.2.1 a 0 fl (k e.2.2.2.1 ls r h) (k (pc + e.2.1) ls r h)
  | 11 => op_pi st fl fun b r => op_pi r fl fun a r => mk_cc e.2.2.1 a b fl (k e.2.2.2.1 ls r h) (k (pc + e.2.1) ls r h)
  | 12 => k e.2.2.2.1 ls st h
  | 13 => op_pr st fl fun c r => if hp_T h c = e.2.2.1 then mk_gf e.2.2.2.2.1 h c e.2.2.2.1 fl fun v => k (pc + e.2.1) ls (v :: r) h else fl
  | 14 => op_p st fl fun v r => op_pr r fl fun c r => if hp_T h c = e.2.2.1 then mk_pf e.2.2.2.2.1 e.2.2.2.2.2 h c e.2.2.2.1 v fl fun h => k (pc + e.2.1) ls r h else fl
  | 15 => op_pi st fl fun i r => op_pr r fl fun a r => mk_al e.2.2.1 h a i fl fun v => k (pc + e.2.1) ls (v :: r) h
  | 16 => op_p st fl fun v r => op_pi r fl fun i r => op_pr r fl fun a r => mk_as e.2.2.1 e.2.2.2.1 h v a i fl fun h => k (pc + e.2.1) ls r h
  | 17 => op_pr st fl fun a r => if hp_T h a = e.2.2.1 then k (pc + e.2.1) ls (.int (Int32.ofNat (hp_N h a)) :: r) h else fl
  | 18 => op_p st fl fun v r => if v.category = 1 then k (pc + e.2.1) ls (v :: v :: r) h else fl
  | 19 => op_p st fl fun v r => if v.category = 1 then k (pc + e.2.1) ls r h else fl
  | 20 => op_p st fl fun v r => op_p r fl fun u r => if v.category = 1 ∧ u.category = 1 then k (pc + e.2.1) ls (v :: u :: v :: u :: r) h else fl
  | 21 => k (pc + e.2.1) ls (.ref (hp_z h + 1) :: st) (hp_al h e.2.2.1 e.2.2.2.1)
  | 22 => op_pi st fl fun n r => if n < 0 ∨ 60000000 < n.toNatClampNeg then fl else k (pc + e.2.1) ls (.ref (hp_z h + 1) :: r) (hp_al h e.2.2.1 n.toNatClampNeg)
  | 24 => if mk_ca (st.drop e.2.2.2.1) ≤ 8 ∧ e.2.2.2.1 ≤ st.length then mk_rc e.2.2.2.2.2 h (st.take e.2.2.2.1).reverse fl (iv e.2.2.1 (st.take e.2.2.2.1).reverse h fun v h => mk_rv e.2.2.2.2.1 v (st.drop e.2.2.2.1) fl fun st => k (pc + e.2.1) ls st h) else fl
  | 25 => op_pr st fl fun c r => if mk_ca r ≤ 8 then k (pc + e.2.1) ls r h else fl
  | 26 => op_pi st fl fun n r => op_pi r fl fun dp r => op_pr r fl fun a r => op_pi r fl fun sp r => op_pr r fl fun a0 r => if (hp_T h a0 = 1 ∧ hp_T h a = 1) ∧ (¬ sp < 0 ∧ ¬ dp < 0 ∧ ¬ n < 0) ∧ (sp.toNatClampNeg + n.toNatClampNeg ≤ hp_N h a0 ∧ dp.toNatClampNeg + n.toNatClampNeg ≤ hp_N h a) ∧ mk_ca r ≤ 8 then k (pc + e.2.1) ls r (hp_cp h a0 sp.toNatClampNeg a dp.toNatClampNeg n.toNatClampNeg) else fl
  | 27 => op_p st fl fun v r => op_e r fl (mk_rt e.2.2.1 v fl fun v => rt (some v) h)
  | 30 => op_e st fl (rt none h)
  | 31 => op_pi st fl fun v r => mk_sw (sw e.2.2.1) v e.2.2.2.1 fun t => k t ls r h
  | 32 => op_pi st fl fun i r => op_pr r fl fun a r => if a = 0 then mk_inb i L fl (k (pc + e.2.1) ls (.int (xs i.toNatClampNeg) :: r) h) else fl
  | 33 => op_pr st fl fun a r => if a = 0 then k (pc + e.2.1) ls (.int (Int32.ofNat L) :: r) h else fl
  | _ => fl
end MK
abbrev re_ : Type := Option (Option Value × hp_)
/-- from a cut to the next ones -/
def sg_ (xs : Nat → Int32) (L : Nat) (mt : mt_) (ck : Nat → List Value → hp_ → re_) (kk : Nat → lo_ → List Value → hp_ → re_) : Nat → Nat → lo_ → List Value → hp_ → re_
  | 0, _, _, _, _ => none
  | n + 1, pc, ls, st, h => st_ xs L mt.2.2 (mt.1 pc) pc ls st h none (fun v h => some (v, h)) (fun pc ls st h => op_o (mt.2.1 pc) (sg_ xs L mt ck kk n pc ls st h) fun lv => kk pc (mk_pk lv ls) st h) (fun m as h f => op_o (ck m as h) none fun p => f p.1 p.2)
end
section
/-! what a step asks of its continuations: nothing but to be used; so it keeps every relation -/
section PAR
variable {ρ σ : Type} {G : ρ → σ → Prop} {fl : ρ} {fm : σ}
theorem pa_o {α : Type} (o : Option α) {f : α → ρ} {g : α → σ} (h0 : G fl fm) (h1 : ∀ a, G (f a) (g a)) : G (op_o o fl f) (op_o o fm g) := by
  cases o
  · exact h0
  · exact h1 _
theorem pa_p (st : List Value) {f : Value → List Value → ρ} {g : Value → List Value → σ} (h0 : G fl fm) (h1 : ∀ a b, G (f a b) (g a b)) : G (op_p st fl f) (op_p st fm g) := by
  cases st
  · exact h0
  · exact h1 _ _
theorem pa_i (v : Value) {f : Int32 → ρ} {g : Int32 → σ} (h0 : G fl fm) (h1 : ∀ a, G (f a) (g a)) : G (op_i v fl f) (op_i v fm g) := by
  cases v <;> first | exact h0 | exact h1 _
theorem pa_l (v : Value) {f : Int64 → ρ} {g : Int64 → σ} (h0 : G fl fm) (h1 : ∀ a, G (f a) (g a)) : G (op_l v fl f) (op_l v fm g) := by
  cases v <;> first | exact h0 | exact h1 _
theorem pa_r (v : Value) {f : Nat → ρ} {g : Nat → σ} (h0 : G fl fm) (h1 : ∀ a, G (f a) (g a)) : G (op_r v fl f) (op_r v fm g) := by
  cases v <;> first | exact h0 | exact h1 _
theorem pa_e (st : List Value) {f : ρ} {g : σ} (h0 : G fl fm) (h1 : G f g) : G (op_e st fl f) (op_e st fm g) := by
  cases st
  · exact h1
  · exact h0
theorem pa_vI (v : Option Value) {f : Int32 → ρ} {g : Int32 → σ} (h0 : G fl fm) (h1 : ∀ a, G (f a) (g a)) : G (op_vI v fl f) (op_vI v fm g) := by
  cases v with
  | none => exact h0
  | some v => cases v <;> first | exact h0 | exact h1 _
theorem pa_vL (v : Option Value) {f : Int64 → ρ} {g : Int64 → σ} (h0 : G fl fm) (h1 : ∀ a, G (f a) (g a)) : G (op_vL v fl f) (op_vL v fm g) := by
  cases v with
  | none => exact h0
  | some v => cases v <;> first | exact h0 | exact h1 _
theorem pa_vR (v : Option Value) {f : Nat → ρ} {g : Nat → σ} (h0 : G fl fm) (h1 : ∀ a, G (f a) (g a)) : G (op_vR v fl f) (op_vR v fm g) := by
  cases v with
  | none => exact h0
  | some v => cases v <;> first | exact h0 | exact h1 _
theorem pa_vN (v : Option Value) {f : ρ} {g : σ} (h0 : G fl fm) (h1 : G f g) : G (op_vN v fl f) (op_vN v fm g) := by
  cases v
  · exact h1
  · exact h0
theorem pa_pi (st : List Value) {f : Int32 → List Value → ρ} {g : Int32 → List Value → σ} (h0 : G fl fm) (h1 : ∀ a b, G (f a b) (g a b)) : G (op_pi st fl f) (op_pi st fm g) := pa_p _ h0 fun _ _ => pa_i _ h0 fun _ => h1 _ _
theorem pa_pl (st : List Value) {f : Int64 → List Value → ρ} {g : Int64 → List Value → σ} (h0 : G fl fm) (h1 : ∀ a b, G (f a b) (g a b)) : G (op_pl st fl f) (op_pl st fm g) := pa_p _ h0 fun _ _ => pa_l _ h0 fun _ => h1 _ _
theorem pa_pr (st : List Value) {f : Nat → List Value → ρ} {g : Nat → List Value → σ} (h0 : G fl fm) (h1 : ∀ a b, G (f a b) (g a b)) : G (op_pr st fl f) (op_pr st fm g) := pa_p _ h0 fun _ _ => pa_r _ h0 fun _ => h1 _ _
theorem pa_if {c : Prop} (d : Decidable c) {a b : ρ} {a' b' : σ} (h0 : G a a') (h1 : G b b') : G (@ite _ c d a b) (@ite _ c d a' b') := by
  by_cases h : c
  · rw [if_pos h, if_pos h]; exact h0
  · rw [if_neg h, if_neg h]; exact h1
theorem pa_ib (x : Nat) (a b : Int32) {f : Int32 → ρ} {g : Int32 → σ} (h0 : G fl fm) (h1 : ∀ a, G (f a) (g a)) : G (mk_ib x a b fl f) (mk_ib x a b fm g) := by
  unfold mk_ib
  match x with
  | 0 | 1 | 2 | 3 | 4 | 5 | 6 | 7 => exact h1 _
  | 8 | 9 => exact pa_if _ h0 (h1 _)
  | _ + 10 => exact h0
theorem pa_lb (x : Nat) (a b : Int64) {f : Int64 → ρ} {g : Int64 → σ} (h0 : G fl fm) (h1 : ∀ a, G (f a) (g a)) : G (mk_lb x a b fl f) (mk_lb x a b fm g) := by
  unfold mk_lb
  match x with
  | 0 | 1 | 2 | 3 | 4 => exact h1 _
  | _ + 5 => exact h0
theorem pa_ls (x : Nat) (a : Int64) (b : Int32) {f : Int64 → ρ} {g : Int64 → σ} (h0 : G fl fm) (h1 : ∀ a, G (f a) (g a)) : G (mk_ls x a b fl f) (mk_ls x a b fm g) := by
  unfold mk_ls
  match x with
  | 0 | 1 | 2 => exact h1 _
  | _ + 3 => exact h0
theorem pa_cv (x : Nat) (v : Value) {f : Value → ρ} {g : Value → σ} (h0 : G fl fm) (h1 : ∀ a, G (f a) (g a)) : G (mk_cv x v fl f) (mk_cv x v fm g) := by
  unfold mk_cv
  match x with
  | 0 | 2 => exact pa_i _ h0 fun _ => h1 _
  | 1 => exact pa_l _ h0 fun _ => h1 _
  | _ + 3 => exact h0
theorem pa_cc (x : Nat) (a b : Int32) {kt kf : ρ} {gt gf : σ} (h0 : G fl fm) (h1 : G kt gt) (h2 : G kf gf) : G (mk_cc x a b fl kt kf) (mk_cc x a b fm gt gf) := by
  unfold mk_cc
  match x with
  | 0 | 1 | 2 | 3 | 4 | 5 => exact pa_if _ h1 h2
  | _ + 6 => exact h0
theorem pa_sw (l : List (Int × Nat)) (v : Int32) (d : Nat) {f : Nat → ρ} {g : Nat → σ} (h1 : ∀ a, G (f a) (g a)) : G (mk_sw l v d f) (mk_sw l v d g) := by
  induction l with
  | nil => exact h1 _
  | cons q l ih => exact pa_if _ (h1 _) ih
theorem pa_al (x : Nat) (h : hp_) (a : Nat) (i : Int32) {f : Value → ρ} {g : Value → σ} (h0 : G fl fm) (h1 : ∀ a, G (f a) (g a)) : G (mk_al x h a i fl f) (mk_al x h a i fm g) := by
  unfold mk_al
  refine pa_if _ (pa_if _ h0 ?_) h0
  match x with
  | 0 => exact h0
  | 1 | 2 | 3 | 4 => exact h1 _
  | 5 => exact pa_if _ h0 (h1 _)
  | _ + 6 => exact h0
theorem pa_as (x y : Nat) (h : hp_) (v : Value) (a : Nat) (i : Int32) {f : hp_ → ρ} {g : hp_ → σ} (h0 : G fl fm) (h1 : ∀ a, G (f a) (g a)) : G (mk_as x y h v a i fl f) (mk_as x y h v a i fm g) := by
  unfold mk_as
  refine pa_if _ (pa_if _ h0 ?_) h0
  match x with
  | 0 => exact h0
  | 1 | 2 | 3 => exact pa_i _ h0 fun _ => h1 _
  | 4 => exact pa_l _ h0 fun _ => h1 _
  | 5 => exact pa_r _ h0 fun _ => pa_if _ (h1 _) h0
  | _ + 6 => exact h0
theorem pa_gf (z : Nat) (h : hp_) (c k : Nat) {f : Value → ρ} {g : Value → σ} (h0 : G fl fm) (h1 : ∀ a, G (f a) (g a)) : G (mk_gf z h c k fl f) (mk_gf z h c k fm g) := by
  unfold mk_gf
  match z with
  | 0 | 1 => exact h1 _
  | 2 => exact pa_if _ h0 (h1 _)
  | _ + 3 => exact h0
theorem pa_pf (z : Nat) (w : Int) (h : hp_) (c k : Nat) (v : Value) {f : hp_ → ρ} {g : hp_ → σ} (h0 : G fl fm) (h1 : ∀ a, G (f a) (g a)) : G (mk_pf z w h c k v fl f) (mk_pf z w h c k v fm g) := by
  unfold mk_pf
  match z with
  | 0 => exact pa_i _ h0 fun _ => h1 _
  | 1 => exact pa_i _ h0 fun _ => pa_if _ (h1 _) h0
  | 2 => exact pa_r _ h0 fun _ => pa_if _ (h1 _) h0
  | _ + 3 => exact h0
theorem pa_rt (x : Nat) (v : Value) {f : Value → ρ} {g : Value → σ} (h0 : G fl fm) (h1 : ∀ a, G (f a) (g a)) : G (mk_rt x v fl f) (mk_rt x v fm g) := by
  unfold mk_rt
  match x with
  | 0 => exact pa_i _ h0 fun _ => h1 _
  | 1 => exact pa_i _ h0 fun _ => pa_if _ (h1 _) h0
  | 2 => exact pa_l _ h0 fun _ => h1 _
  | 3 => exact pa_r _ h0 fun _ => pa_if _ h0 (h1 _)
  | _ + 4 => exact h0
theorem pa_rv (z : Nat) (v : Option Value) (rest : List Value) {f : List Value → ρ} {g : List Value → σ} (h0 : G fl fm) (h1 : ∀ a, G (f a) (g a)) : G (mk_rv z v rest fl f) (mk_rv z v rest fm g) := by
  unfold mk_rv
  match z with
  | 0 => exact pa_vN _ h0 (h1 _)
  | 1 => exact pa_vI _ h0 fun _ => h1 _
  | 2 => exact pa_vL _ h0 fun _ => h1 _
  | 3 => exact pa_vR _ h0 fun _ => h1 _
  | _ + 4 => exact h0
theorem pa_rc (w : Int) (h : hp_) (as : List Value) {f : ρ} {g : σ} (h0 : G fl fm) (h1 : G f g) : G (mk_rc w h as fl f) (mk_rc w h as fm g) := by
  unfold mk_rc
  exact pa_if _ h1 (pa_p _ h0 fun _ _ => pa_r _ h0 fun _ => pa_if _ h1 h0)
theorem pa_st (xs : Nat → Int32) (L : Nat) (sw : Nat → List (Int × Nat)) (e : en_) (pc : Nat) (ls : lo_) (st : List Value) (h : hp_) {rt : Option Value → hp_ → ρ} {rt' : Option Value → hp_ → σ} {k : Nat → lo_ → List Value → hp_ → ρ} {k' : Nat → lo_ → List Value → hp_ → σ} {iv : Nat → List Value → hp_ → (Option Value → hp_ → ρ) → ρ} {iv' : Nat → List Value → hp_ → (Option Value → hp_ → σ) → σ}
    (h0 : G fl fm) (hr : ∀ v h, G (rt v h) (rt' v h)) (hk : ∀ pc ls st h, G (k pc ls st h) (k' pc ls st h)) (hi : ∀ m as h f g, (∀ v h, G (f v h) (g v h)) → G (iv m as h f) (iv' m as h g)) :
    G (st_ xs L sw e pc ls st h fl rt k iv) (st_ xs L sw e pc ls st h fm rt' k' iv') := by
  obtain ⟨op, e⟩ := e
  unfold st_
  match op with
  | 0 | 1 | 12 | 21 => exact hk _ _ _ _
  | 2 => exact pa_o _ h0 fun _ => hk _ _ _ _
  | 3 => exact pa_p _ h0 fun _ _ => hk _ _ _ _
  | 4 => exact pa_o _ h0 fun _ => pa_i _ h0 fun _ => hk _ _ _ _
  | 5 => exact pa_pi _ h0 fun _ _ => pa_pi _ h0 fun _ _ => pa_ib _ _ _ h0 fun _ => hk _ _ _ _
  | 6 => exact pa_pl _ h0 fun _ _ => pa_pl _ h0 fun _ _ => pa_lb _ _ _ h0 fun _ => hk _ _ _ _
  | 7 => exact pa_pi _ h0 fun _ _ => pa_pl _ h0 fun _ _ => pa_ls _ _ _ h0 fun _ => hk _ _ _ _
  | 8 => exact pa_p _ h0 fun _ _ => pa_cv _ _ h0 fun _ => hk _ _ _ _
  | 9 => exact pa_pl _ h0 fun _ _ => pa_pl _ h0 fun _ _ => hk _ _ _ _
  | 10 => exact pa_pi _ h0 fun _ _ => pa_cc _ _ _ h0 (hk _ _ _ _) (hk _ _ _ _)
  | 11 => exact pa_pi _ h0 fun _ _ => pa_pi _ h0 fun _ _ => pa_cc _ _ _ h0 (hk _ _ _ _) (hk _ _ _ _)
  | 13 => exact pa_pr _ h0 fun _ _ => pa_if _ (pa_gf _ _ _ _ h0 fun _ => hk _ _ _ _) h0
  | 14 => exact pa_p _ h0 fun _ _ => pa_pr _ h0 fun _ _ => pa_if _ (pa_pf _ _ _ _ _ _ h0 fun _ => hk _ _ _ _) h0
  | 15 => exact pa_pi _ h0 fun _ _ => pa_pr _ h0 fun _ _ => pa_al _ _ _ _ h0 fun _ => hk _ _ _ _
  | 16 => exact pa_p _ h0 fun _ _ => pa_pi _ h0 fun _ _ => pa_pr _ h0 fun _ _ => pa_as _ _ _ _ _ _ h0 fun _ => hk _ _ _ _
  | 17 => exact pa_pr _ h0 fun _ _ => pa_if _ (hk _ _ _ _) h0
  | 18 | 19 => exact pa_p _ h0 fun _ _ => pa_if _ (hk _ _ _ _) h0
  | 20 => exact pa_p _ h0 fun _ _ => pa_p _ h0 fun _ _ => pa_if _ (hk _ _ _ _) h0
  | 22 => exact pa_pi _ h0 fun _ _ => pa_if _ h0 (hk _ _ _ _)
  | 23 => exact h0
  | 24 => exact pa_if _ (pa_rc _ _ _ h0 (hi _ _ _ _ _ fun _ _ => pa_rv _ _ _ h0 fun _ => hk _ _ _ _)) h0
  | 25 => exact pa_pr _ h0 fun _ _ => pa_if _ (hk _ _ _ _) h0
  | 26 => exact pa_pi _ h0 fun _ _ => pa_pi _ h0 fun _ _ => pa_pr _ h0 fun _ _ => pa_pi _ h0 fun _ _ => pa_pr _ h0 fun _ _ => pa_if _ (hk _ _ _ _) h0
  | 27 => exact pa_p _ h0 fun _ _ => pa_e _ h0 (pa_rt _ _ h0 fun _ => hr _ _)
  | 28 | 29 => exact h0
  | 30 => exact pa_e _ h0 (hr _ _)
  | 31 => exact pa_pi _ h0 fun _ _ => pa_sw _ _ _ fun _ => hk _ _ _ _
  | 32 => exact pa_pi _ h0 fun _ _ => pa_pr _ h0 fun _ _ => pa_if _ (pa_if _ h0 (hk _ _ _ _)) h0
  | 33 => exact pa_pr _ h0 fun _ _ => pa_if _ (hk _ _ _ _) h0
  | _ + 34 => exact h0
end PAR
/-! limits -/
def le_ {α : Type} (a b : Option α) : Prop := ∀ x, a = some x → b = some x
theorem le_n {α : Type} (b : Option α) : le_ none b := fun _ h => by cases h
theorem le_r {α : Type} (b : Option α) : le_ b b := fun _ h => h
noncomputable def lm_ {α : Type} (f : Nat → Option α) : Option α := @dite _ (∃ x n, f n = some x) (Classical.propDecidable _) (fun h => some (Classical.choose h)) (fun _ => none)
def mo_ {α : Type} (f : Nat → Option α) : Prop := ∀ n, le_ (f n) (f (n + 1))
theorem mo_le {α : Type} {f : Nat → Option α} (h : mo_ f) {n m : Nat} (hn : n ≤ m) : le_ (f n) (f m) := by
  induction hn with
  | refl => exact le_r _
  | step _ ih => exact fun x e => h _ _ (ih x e)
theorem lm_ex {α : Type} {f : Nat → Option α} {x : α} (hl : lm_ f = some x) : ∃ n, f n = some x := by
  unfold lm_ at hl
  split at hl
  · rename_i h
    cases hl
    exact Classical.choose_spec h
  · cases hl
theorem lm_of {α : Type} {f : Nat → Option α} (h : mo_ f) {n : Nat} {x : α} (e : f n = some x) : lm_ f = some x := by
  have hx : ∃ x n, f n = some x := ⟨x, n, e⟩
  have h1 : lm_ f = some (Classical.choose hx) := by
    unfold lm_
    rw [dif_pos hx]
  obtain ⟨m, hm⟩ := Classical.choose_spec hx
  rw [h1]
  have a := mo_le h (Nat.le_max_left n m) x e
  have b := mo_le h (Nat.le_max_right n m) _ hm
  rw [a] at b
  exact b.symm
theorem le_anti {α : Type} {a b : Option α} (h : le_ a b) (g : le_ b a) : a = b := by
  cases a with
  | some x => exact (h x rfl).symm
  | none =>
    cases b with
    | none => rfl
    | some y => exact g y rfl
theorem sg_mono (xs : Nat → Int32) (L : Nat) (mt : mt_) (ck : Nat → List Value → hp_ → re_) {k k' : Nat → lo_ → List Value → hp_ → re_} (hk : ∀ pc ls st h, le_ (k pc ls st h) (k' pc ls st h)) : ∀ n pc ls st h, le_ (sg_ xs L mt ck k n pc ls st h) (sg_ xs L mt ck k' n pc ls st h) := by
  intro n
  induction n with
  | zero => exact fun _ _ _ _ => le_r _
  | succ n ih =>
    intro pc ls st h
    exact pa_st (G := le_) xs L mt.2.2 _ pc ls st h (le_r _) (fun _ _ => le_r _) (fun pc ls st h => pa_o (G := le_) _ (ih _ _ _ _) fun _ => hk _ _ _ _) (fun m as h f g hf => pa_o (G := le_) _ (le_r _) fun p => hf _ _)
/-- a chain's limit, where a step is used -/
theorem sg_lim (xs : Nat → Int32) (L : Nat) (mt : mt_) (ck : Nat → List Value → hp_ → re_) {k : Nat → Nat → lo_ → List Value → hp_ → re_} {k' : Nat → lo_ → List Value → hp_ → re_} (hm : ∀ i pc ls st h, le_ (k i pc ls st h) (k (i + 1) pc ls st h)) (hk : ∀ pc ls st h x, k' pc ls st h = some x → ∃ i, k i pc ls st h = some x) :
    ∀ n pc ls st h x, sg_ xs L mt ck k' n pc ls st h = some x → ∃ i, sg_ xs L mt ck (k i) n pc ls st h = some x := by
  intro n
  induction n with
  | zero => exact fun _ _ _ _ _ h => by cases h
  | succ n ih =>
    intro pc ls st h
    have key : (fun (a : re_) (b : Nat → re_) => (∀ x, a = some x → ∃ i, b i = some x)) (sg_ xs L mt ck k' (n + 1) pc ls st h) (fun i => sg_ xs L mt ck (k i) (n + 1) pc ls st h) := by
      have e : (fun i => sg_ xs L mt ck (k i) (n + 1) pc ls st h) = st_ xs L mt.2.2 (mt.1 pc) pc ls st h (fun _ => none) (fun v h _ => some (v, h)) (fun pc ls st h i => op_o (mt.2.1 pc) (sg_ xs L mt ck (k i) n pc ls st h) fun lv => k i pc (mk_pk lv ls) st h) (fun m as h f i => op_o (ck m as h) none fun p => f p.1 p.2 i) := by
        funext i
        refine Eq.symm ?_
        refine pa_st (G := fun (a : Nat → re_) (b : re_) => a i = b) (fl := fun _ => none) (fm := none) (rt := fun v h _ => some (v, h)) (rt' := fun v h => some (v, h)) (k := fun pc ls st h i => op_o (mt.2.1 pc) (sg_ xs L mt ck (k i) n pc ls st h) fun lv => k i pc (mk_pk lv ls) st h) (k' := fun pc ls st h => op_o (mt.2.1 pc) (sg_ xs L mt ck (k i) n pc ls st h) fun lv => k i pc (mk_pk lv ls) st h) (iv := fun m as h f i => op_o (ck m as h) none fun p => f p.1 p.2 i) (iv' := fun m as h f => op_o (ck m as h) none fun p => f p.1 p.2) xs L mt.2.2 (mt.1 pc) pc ls st h rfl (fun _ _ => rfl) (fun _ _ _ _ => rfl) (fun m as h f g hf => ?_)
        show op_o (ck m as h) none (fun p => f p.1 p.2 i) = op_o (ck m as h) none (fun p => g p.1 p.2)
        cases ck m as h with
        | none => rfl
        | some p => exact hf _ _
      rw [e]
      refine pa_st (G := fun (a : re_) (b : Nat → re_) => (∀ x, a = some x → ∃ i, b i = some x)) xs L mt.2.2 _ pc ls st h ?_ ?_ ?_ ?_
      · exact fun _ h => by cases h
      · exact fun _ _ x h => ⟨0, h⟩
      · intro pc ls st h x hx
        show ∃ i, op_o (mt.2.1 pc) (sg_ xs L mt ck (k i) n pc ls st h) (fun lv => k i pc (mk_pk lv ls) st h) = some x
        cases he : mt.2.1 pc with
        | none =>
          rw [he] at hx
          exact ih _ _ _ _ _ hx
        | some lv =>
          rw [he] at hx
          exact hk _ _ _ _ _ hx
      · intro m as h f g hf x hx
        show ∃ i, op_o (ck m as h) none (fun p => g p.1 p.2 i) = some x
        cases he : ck m as h with
        | none => rw [he] at hx; cases hx
        | some p =>
          rw [he] at hx
          exact hf _ _ _ hx
    exact key
/-- the most instructions between two cuts -/
def mk_B : Nat := 400
def rn_ (xs : Nat → Int32) (L : Nat) (mt : mt_) (ck : Nat → List Value → hp_ → re_) : Nat → Nat → lo_ → List Value → hp_ → re_
  | 0, _, _, _, _ => none
  | n + 1, pc, ls, st, h => sg_ xs L mt ck (rn_ xs L mt ck n) mk_B pc ls st h
theorem rn_mono (xs : Nat → Int32) (L : Nat) (mt : mt_) (ck : Nat → List Value → hp_ → re_) : ∀ n pc ls st h, le_ (rn_ xs L mt ck n pc ls st h) (rn_ xs L mt ck (n + 1) pc ls st h) := by
  intro n
  induction n with
  | zero => exact fun _ _ _ _ => le_n _
  | succ n ih => exact fun pc ls st h => sg_mono xs L mt ck ih _ _ _ _ _
/-- THE EVALUATOR: a method, from a cut on, at depth d -/
noncomputable def ev_ (xs : Nat → Int32) (L : Nat) (P : Nat → mt_) : Nat → Nat → Nat → lo_ → List Value → hp_ → re_
  | 0, _, _, _, _, _ => none
  | d + 1, m, pc, ls, st, h => lm_ (fun n => rn_ xs L (P m) (fun m as h => ev_ xs L P d m 0 (lv_args 0 as) [] h) n pc ls st h)
theorem ev_eq (xs : Nat → Int32) (L : Nat) (P : Nat → mt_) (d m pc : Nat) (ls : lo_) (st : List Value) (h : hp_) : ev_ xs L P (d + 1) m pc ls st h = sg_ xs L (P m) (fun m as h => ev_ xs L P d m 0 (lv_args 0 as) [] h) (fun pc ls st h => ev_ xs L P (d + 1) m pc ls st h) mk_B pc ls st h := by
  have hmo : ∀ pc ls st h, mo_ (fun n => rn_ xs L (P m) (fun m as h => ev_ xs L P d m 0 (lv_args 0 as) [] h) n pc ls st h) := fun pc ls st h n => rn_mono _ _ _ _ n pc ls st h
  refine le_anti (fun x hx => ?_) (fun x hx => ?_)
  · have hx' : lm_ (fun n => rn_ xs L (P m) (fun m as h => ev_ xs L P d m 0 (lv_args 0 as) [] h) n pc ls st h) = some x := hx
    obtain ⟨n, hn⟩ := lm_ex hx'
    cases n with
    | zero => cases hn
    | succ n => exact sg_mono _ _ _ _ (fun pc ls st h y hy => lm_of (hmo pc ls st h) hy) _ _ _ _ _ _ hn
  · obtain ⟨n, hn⟩ := sg_lim xs L (P m) (fun m as h => ev_ xs L P d m 0 (lv_args 0 as) [] h) (k := fun n => rn_ xs L (P m) (fun m as h => ev_ xs L P d m 0 (lv_args 0 as) [] h) n) (rn_mono _ _ _ _) (fun pc ls st h y hy => lm_ex hy) _ _ _ _ _ _ hx
    exact lm_of (hmo pc ls st h) (n := n + 1) hn
end
