/-! THE SMALL MACHINE: a pure evaluator of decoded code over a typed store. hp_: shape (tag, length), references, ints, longs, cells, slots. -/
abbrev hp_ : Type := (Nat → Nat × Nat) × (Nat → Nat → Nat) × (Nat → Nat → Int32) × (Nat → Nat → Int64) × Nat × Nat
def hp_T (h : hp_) (a : Nat) : Nat := (h.1 a).1
def hp_N (h : hp_) (a : Nat) : Nat := (h.1 a).2
def hp_R (h : hp_) : Nat → Nat → Nat := h.2.1
def hp_I (h : hp_) : Nat → Nat → Int32 := h.2.2.1
def hp_L (h : hp_) : Nat → Nat → Int64 := h.2.2.2.1
def hp_z (h : hp_) : Nat := h.2.2.2.2.1
def hp_s (h : hp_) : Nat := h.2.2.2.2.2
def hp_sR (h : hp_) (a i v : Nat) : hp_ := (h.1, va_up h.2.1 a (va_up (h.2.1 a) i v), h.2.2.1, h.2.2.2.1, h.2.2.2.2.1, h.2.2.2.2.2)
def hp_sI (h : hp_) (a i : Nat) (v : Int32) : hp_ := (h.1, h.2.1, va_up h.2.2.1 a (va_up (h.2.2.1 a) i v), h.2.2.2.1, h.2.2.2.2.1, h.2.2.2.2.2)
def hp_sL (h : hp_) (a i : Nat) (v : Int64) : hp_ := (h.1, h.2.1, h.2.2.1, va_up h.2.2.2.1 a (va_up (h.2.2.2.1 a) i v), h.2.2.2.2.1, h.2.2.2.2.2)
def hp_cp (h : hp_) (a0 sp a dp n : Nat) : hp_ := (h.1, h.2.1, va_up h.2.2.1 a (va_cpy (h.2.2.1 a0) (h.2.2.1 a) sp dp n), h.2.2.2.1, h.2.2.2.2.1, h.2.2.2.2.2)
def hp_al (h : hp_) (t n : Nat) : hp_ := (va_up h.1 (h.2.2.2.2.1 + 1) (t, n), va_up h.2.1 (h.2.2.2.2.1 + 1) (fun _ => 0), va_up h.2.2.1 (h.2.2.2.2.1 + 1) (fun _ => 0), va_up h.2.2.2.1 (h.2.2.2.2.1 + 1) (fun _ => 0), h.2.2.2.2.1 + 1, h.2.2.2.2.2 + n)
/-! an entry: op, length, x, y, z, w -/
abbrev en_ : Type := Nat × Nat × Nat × Nat × Nat × Int
abbrev lo_ : Type := List (Nat × Value)
/-! a method: its entries, its cuts (with the places that live there), its switches, how many places it has -/
abbrev mt_ : Type := (Nat → en_) × (Nat → Option (List Nat)) × (Nat → List (Int × Nat)) × Nat
def mk_lk : lo_ → Nat → Option Value
  | [], _ => none
  | q :: r, k => if q.1 = k then some q.2 else mk_lk r k
def mk_pk (lv : List Nat) (ls : lo_) : lo_ := lv.filterMap (fun i => (mk_lk ls i).map (fun v => (i, v)))
def mk_put (ls : lo_) (i : Nat) (v : Value) : lo_ := if v.category = 2 then (i, v) :: ls.filter (fun q => !(q.1 == i) && (!(q.1 == i + 1) && !(q.1 + 1 == i && q.2.category == 2))) else (i, v) :: ls.filter (fun q => !(q.1 == i) && !(q.1 + 1 == i && q.2.category == 2))
section MK
variable {ρ : Type}
def op_o {α : Type} (o : Option α) (fl : ρ) (f : α → ρ) : ρ := match o with
  | some a => f a
  | none => fl
def op_p (st : List Value) (fl : ρ) (f : Value → List Value → ρ) : ρ := match st with
  | v :: r => f v r
  | [] => fl
def op_i (v : Value) (fl : ρ) (f : Int32 → ρ) : ρ := match v with
  | .int x => f x
  | _ => fl
def op_l (v : Value) (fl : ρ) (f : Int64 → ρ) : ρ := match v with
  | .long x => f x
  | _ => fl
def op_r (v : Value) (fl : ρ) (f : Nat → ρ) : ρ := match v with
  | .ref x => f x
  | _ => fl
def op_e (st : List Value) (fl : ρ) (f : ρ) : ρ := match st with
  | [] => f
  | _ :: _ => fl
def op_vI (v : Option Value) (fl : ρ) (f : Int32 → ρ) : ρ := match v with
  | some (.int x) => f x
  | _ => fl
def op_vL (v : Option Value) (fl : ρ) (f : Int64 → ρ) : ρ := match v with
  | some (.long x) => f x
  | _ => fl
def op_vR (v : Option Value) (fl : ρ) (f : Nat → ρ) : ρ := match v with
  | some (.ref x) => f x
  | _ => fl
def op_vN (v : Option Value) (fl : ρ) (f : ρ) : ρ := match v with
  | none => f
  | some _ => fl
def op_pi (st : List Value) (fl : ρ) (f : Int32 → List Value → ρ) : ρ := op_p st fl fun v r => op_i v fl fun x => f x r
def op_pl (st : List Value) (fl : ρ) (f : Int64 → List Value → ρ) : ρ := op_p st fl fun v r => op_l v fl fun x => f x r
def op_pr (st : List Value) (fl : ρ) (f : Nat → List Value → ρ) : ρ := op_p st fl fun v r => op_r v fl fun x => f x r
def mk_ib (x : Nat) (a b : Int32) (fl : ρ) (f : Int32 → ρ) : ρ := match x with
  | 0 => f (a + b)
  | 1 => f (a - b)
  | 2 => f (a * b)
  | 3 => f (a &&& b)
  | 4 => f (a ||| b)
  | 5 => f (a <<< (b &&& 31))
  | 6 => f (a >>> (b &&& 31))
  | 7 => f (a.toUInt32 >>> (b.toUInt32 &&& Int32.toUInt32 31)).toInt32
  | 8 => if b = 0 then fl else f (a / b)
  | 9 => if b = 0 then fl else f (a - a / b * b)
  | _ => fl
def mk_lb (x : Nat) (a b : Int64) (fl : ρ) (f : Int64 → ρ) : ρ := match x with
  | 0 => f (a + b)
  | 1 => f (a - b)
  | 2 => f (a * b)
  | 3 => f (a &&& b)
  | 4 => f (a ||| b)
  | _ => fl
def mk_ls (x : Nat) (a : Int64) (b : Int32) (fl : ρ) (f : Int64 → ρ) : ρ := match x with
  | 0 => f (a <<< (b.toInt64 &&& 63))
  | 1 => f (a >>> (b.toInt64 &&& 63))
  | 2 => f (a.toUInt64 >>> (b.toInt64.toUInt64 &&& Int64.toUInt64 63)).toInt64
  | _ => fl
def mk_cv (x : Nat) (v : Value) (fl : ρ) (f : Value → ρ) : ρ := match x with
  | 0 => op_i v fl fun a => f (.long a.toInt64)
  | 1 => op_l v fl fun a => f (.int a.toInt32)
  | 2 => op_i v fl fun a => f (.int a.toInt8.toInt32)
  | _ => fl
def mk_cc (x : Nat) (a b : Int32) (fl kt kf : ρ) : ρ := match x with
  | 0 => if a = b then kt else kf
  | 1 => if a ≠ b then kt else kf
  | 2 => if a < b then kt else kf
  | 3 => if b ≤ a then kt else kf
  | 4 => if b < a then kt else kf
  | 5 => if a ≤ b then kt else kf
  | _ => fl
def mk_sw : List (Int × Nat) → Int32 → Nat → (Nat → ρ) → ρ
  | [], _, d, f => f d
  | q :: l, v, d, f => if v = Int32.ofInt q.1 then f q.2 else mk_sw l v d f
def mk_inb (i : Int32) (n : Nat) (fl f : ρ) : ρ := if i < 0 ∨ n ≤ i.toNatClampNeg then fl else f
/-- a load out of an array of the tag x -/
def mk_al (x : Nat) (h : hp_) (a : Nat) (i : Int32) (fl : ρ) (f : Value → ρ) : ρ := if hp_T h a = x then mk_inb i (hp_N h a) fl (match x with
  | 1 => f (.int (hp_I h a i.toNatClampNeg))
  | 2 => f (.int (hp_I h a i.toNatClampNeg))
  | 3 => f (.int (hp_I h a i.toNatClampNeg))
  | 4 => f (.long (hp_L h a i.toNatClampNeg))
  | 5 => if hp_R h a i.toNatClampNeg = 0 then fl else f (.ref (hp_R h a i.toNatClampNeg))
  | _ => fl) else fl
/-- a store into an array of the tag x; y: the tag of what may be stored, where it is a reference -/
def mk_as (x y : Nat) (h : hp_) (v : Value) (a : Nat) (i : Int32) (fl : ρ) (f : hp_ → ρ) : ρ := if hp_T h a = x then mk_inb i (hp_N h a) fl (match x with
  | 1 => op_i v fl fun n => f (hp_sI h a i.toNatClampNeg n)
  | 2 => op_i v fl fun n => f (hp_sI h a i.toNatClampNeg (vp_nar .boolean n))
  | 3 => op_i v fl fun n => f (hp_sI h a i.toNatClampNeg (vp_nar .byte n))
  | 4 => op_l v fl fun n => f (hp_sL h a i.toNatClampNeg n)
  | 5 => op_r v fl fun n => if hp_T h n = y then f (hp_sR h a i.toNatClampNeg n) else fl
  | _ => fl) else fl
def mk_gf (z : Nat) (h : hp_) (c k : Nat) (fl : ρ) (f : Value → ρ) : ρ := match z with
  | 0 => f (.int (hp_I h c k))
  | 1 => f (.int (hp_I h c k))
  | 2 => if hp_R h c k = 0 then fl else f (.ref (hp_R h c k))
  | _ => fl
/-- w: the tag of what may be stored, where it is a reference -/
def mk_pf (z : Nat) (w : Int) (h : hp_) (c k : Nat) (v : Value) (fl : ρ) (f : hp_ → ρ) : ρ := match z with
  | 0 => op_i v fl fun n => f (hp_sI h c k n)
  | 1 => op_i v fl fun n => if n = 0 ∨ n = 1 then f (hp_sI h c k n) else fl
  | 2 => op_r v fl fun n => if hp_T h n = w.toNat then f (hp_sR h c k n) else fl
  | _ => fl
def mk_ty (y : Nat) (v : Value) (fl : ρ) (f : Value → ρ) : ρ := match y with
  | 0 => op_i v fl fun n => f (.int n)
  | 1 => op_l v fl fun n => f (.long n)
  | 2 => op_r v fl fun n => f (.ref n)
  | _ => fl
def mk_ca (st : List Value) : Nat := (st.map fun v => v.category).sum
def mk_rt (x : Nat) (v : Value) (fl : ρ) (f : Value → ρ) : ρ := match x with
  | 0 => op_i v fl fun n => f (.int n)
  | 1 => op_i v fl fun n => if n = 0 ∨ n = 1 then f (.int n) else fl
  | 2 => op_l v fl fun n => f (.long n)
  | 3 => op_r v fl fun n => if n = 0 then fl else f (.ref n)
  | _ => fl
def mk_rv (z : Nat) (v : Option Value) (rest : List Value) (fl : ρ) (f : List Value → ρ) : ρ := match z with
  | 0 => op_vN v fl (f rest)
  | 1 => op_vI v fl fun n => f (.int n :: rest)
  | 2 => op_vL v fl fun n => f (.long n :: rest)
  | 3 => op_vR v fl fun n => f (.ref n :: rest)
  | _ => fl
/-- the receiver's tag, where one is wanted -/
def mk_rc (w : Int) (h : hp_) (as : List Value) (fl f : ρ) : ρ := if w < 0 then f else op_p as fl fun v _ => op_r v fl fun c => if hp_T h c = w.toNat then f else fl
/-- ONE INSTRUCTION -/
def st_ (xs : Nat → Int32) (L : Nat) (sw : Nat → List (Int × Nat)) (e : en_) (pc : Nat) (ls : lo_) (st : List Value) (h : hp_) (fl : ρ) (rt : Option Value → hp_ → ρ) (k : Nat → lo_ → List Value → hp_ → ρ) (iv : Nat → List Value → hp_ → (Option Value → hp_ → ρ) → ρ) : ρ := match e.1 with
  | 0 => k (pc + e.2.1) ls (.int (Int32.ofInt e.2.2.2.2.2) :: st) h
  | 1 => k (pc + e.2.1) ls (.long (Int64.ofInt e.2.2.2.2.2) :: st) h
  | 2 => op_o (mk_lk ls e.2.2.1) fl fun v => mk_ty e.2.2.2.1 v fl fun v => k (pc + e.2.1) ls (v :: st) h
  | 3 => op_p st fl fun v r => mk_ty e.2.2.2.1 v fl fun v => k (pc + e.2.1) (mk_put ls e.2.2.1 v) r h
  | 4 => op_o (mk_lk ls e.2.2.1) fl fun v => op_i v fl fun a => k (pc + e.2.1) (mk_put ls e.2.2.1 (.int (a + Int32.ofInt e.2.2.2.2.2))) st h
  | 5 => op_pi st fl fun b r => op_pi r fl fun a r => mk_ib e.2.2.1 a b fl fun c => k (pc + e.2.1) ls (.int c :: r) h
  | 6 => op_pl st fl fun b r => op_pl r fl fun a r => mk_lb e.2.2.1 a b fl fun c => k (pc + e.2.1) ls (.long c :: r) h
  | 7 => op_pi st fl fun b r => op_pl r fl fun a r => mk_ls e.2.2.1 a b fl fun c => k (pc + e.2.1) ls (.long c :: r) h
  | 8 => op_p st fl fun v r => mk_cv e.2.2.1 v fl fun c => k (pc + e.2.1) ls (c :: r) h
  | 9 => op_pl st fl fun b r => op_pl r fl fun a r => k (pc + e.2.1) ls (.int (lg_cmp a b) :: r) h
  | 10 => op_pi st fl fun a r => mk_cc e.2.2.1 a 0 fl (k e.2.2.2.1 ls r h) (k (pc + e.2.1) ls r h)
  | 11 => op_pi st fl fun b r => op_pi r fl fun a r => mk_cc e.2.2.1 a b fl (k e.2.2.2.1 ls r h) (k (pc + e.2.1) ls r h)
  | 12 => k e.2.2.2.1 ls st h
  | 13 => op_pr st fl fun c r => if hp_T h c = e.2.2.1 then mk_gf e.2.2.2.2.1 h c e.2.2.2.1 fl fun v => k (pc + e.2.1) ls (v :: r) h else fl
  | 14 => op_p st fl fun v r => op_pr r fl fun c r => if hp_T h c = e.2.2.1 then mk_pf e.2.2.2.2.1 e.2.2.2.2.2 h c e.2.2.2.1 v fl fun h => k (pc + e.2.1) ls r h else fl
  | 15 => op_pi st fl fun i r => op_pr r fl fun a r => mk_al e.2.2.1 h a i fl fun v => k (pc + e.2.1) ls (v :: r) h
  | 16 => op_p st fl fun v r => op_pi r fl fun i r => op_pr r fl fun a r => mk_as e.2.2.1 e.2.2.2.1 h v a i fl fun h => k (pc + e.2.1) ls r h
  | 17 => op_pr st fl fun a r => if hp_T h a = e.2.2.1 then k (pc + e.2.1) ls (.int (Int32.ofNat (hp_N h a)) :: r) h else fl
  | 18 => op_p st fl fun v r => if v.category = 1 then k (pc + e.2.1) ls (v :: v :: r) h else fl
  | 19 => op_p st fl fun v r => if v.category = 1 then k (pc + e.2.1) ls r h else fl
  | 20 => op_p st fl fun v r => op_p r fl fun u r => if v.category = 1 ∧ u.category = 1 then k (pc + e.2.1) ls (v :: u :: v :: u :: r) h else fl
  | 21 => k (pc + e.2.1) ls (.ref (hp_z h + 1) :: st) (hp_al h e.2.2.1 e.2.2.2.1)
  | 22 => op_pi st fl fun n r => if n < 0 ∨ 60000000 < n.toNatClampNeg then fl else k (pc + e.2.1) ls (.ref (hp_z h + 1) :: r) (hp_al h e.2.2.1 n.toNatClampNeg)
  | 24 => if mk_ca (st.drop e.2.2.2.1) ≤ 8 ∧ e.2.2.2.1 ≤ st.length then mk_rc e.2.2.2.2.2 h (st.take e.2.2.2.1).reverse fl (iv e.2.2.1 (st.take e.2.2.2.1).reverse h fun v h => mk_rv e.2.2.2.2.1 v (st.drop e.2.2.2.1) fl fun st => k (pc + e.2.1) ls st h) else fl
  | 25 => op_pr st fl fun c r => if mk_ca r ≤ 8 then k (pc + e.2.1) ls r h else fl
  | 26 => op_pi st fl fun n r => op_pi r fl fun dp r => op_pr r fl fun a r => op_pi r fl fun sp r => op_pr r fl fun a0 r => if (hp_T h a0 = 1 ∧ hp_T h a = 1) ∧ (¬ sp < 0 ∧ ¬ dp < 0 ∧ ¬ n < 0) ∧ (sp.toNatClampNeg + n.toNatClampNeg ≤ hp_N h a0 ∧ dp.toNatClampNeg + n.toNatClampNeg ≤ hp_N h a) ∧ mk_ca r ≤ 8 then k (pc + e.2.1) ls r (hp_cp h a0 sp.toNatClampNeg a dp.toNatClampNeg n.toNatClampNeg) else fl
  | 27 => op_p st fl fun v r => op_e r fl (mk_rt e.2.2.1 v fl fun v => rt (some v) h)
  | 28 => op_pi st fl fun b r => op_pi r fl fun a r => if mk_ca r ≤ 8 then k (pc + e.2.1) ls (.int (if a < b then b else a) :: r) h else fl
  | 29 => op_pi st fl fun b r => op_pi r fl fun a r => if mk_ca r ≤ 8 then k (pc + e.2.1) ls (.int (if b < a then b else a) :: r) h else fl
  | 30 => op_e st fl (rt none h)
  | 31 => op_pi st fl fun v r => mk_sw (sw e.2.2.1) v e.2.2.2.1 fun t => k t ls r h
  | 32 => op_pi st fl fun i r => op_pr r fl fun a r => if a = 0 then mk_inb i L fl (k (pc + e.2.1) ls (.int (xs i.toNatClampNeg) :: r) h) else fl
  | 33 => op_pr st fl fun a r => if a = 0 then k (pc + e.2.1) ls (.int (Int32.ofNat L) :: r) h else fl
  | _ => fl
end MK
abbrev re_ : Type := Option (Option Value × hp_)
/-- from a cut to the next ones -/
def sg_ (xs : Nat → Int32) (L : Nat) (mt : mt_) (ck : Nat → List Value → hp_ → re_) (kk : Nat → lo_ → List Value → hp_ → re_) : Nat → Nat → lo_ → List Value → hp_ → re_
  | 0, _, _, _, _ => none
  | n + 1, pc, ls, st, h => st_ xs L mt.2.2.1 (mt.1 pc) pc ls st h none (fun v h => some (v, h)) (fun pc ls st h => op_o (mt.2.1 pc) (sg_ xs L mt ck kk n pc ls st h) fun lv => kk pc (mk_pk lv ls) st h) (fun m as h f => op_o (ck m as h) none fun p => f p.1 p.2)
