/-! THE REFERENCE'S frames -/
/-- what frames below f keep -/
def lof_ (f : Nat) (D D' : dy_) : Prop := ((∀ j, j = 7 ∨ j = 35 ∨ j = 47 ∨ j = 48 ∨ j = 49 → D'.1 351 j = D.1 351 j) ∧ (∀ b, b < 351 ∨ b = 357 ∨ 381 ≤ b → D'.1 b = D.1 b) ∧ ∀ b, b < 351 → D'.2 b = D.2 b) ∧ (∀ g, g < f → D'.1 378 g = D.1 378 g ∧ D'.1 379 g = D.1 379 g ∧ D'.1 380 g = D.1 380 g) ∧ (∀ g, g ≤ f → D'.1 377 g = D.1 377 g) ∧ ∀ (m : Nat) (M : ma_), m < 6 + 3 * f ∨ m = 104 → M.2.1 ≤ 60 ∧ M.1 ≤ 4 → rm_ D m M → rm_ D' m M
theorem lof_r (f : Nat) (D : dy_) : lof_ f D D := ⟨⟨fun _ _ => rfl, fun _ _ => rfl, fun _ _ => rfl⟩, fun _ _ => ⟨rfl, rfl, rfl⟩, fun _ _ => rfl, fun _ _ _ _ h => h⟩
theorem lof_t {f : Nat} {D D' D'' : dy_} (h : lof_ f D D') (g : lof_ f D' D'') : lof_ f D D'' := by
  obtain ⟨⟨h1, h2, h3⟩, h4, h5, h6⟩ := h
  obtain ⟨⟨g1, g2, g3⟩, g4, g5, g6⟩ := g
  exact ⟨⟨fun j hj => (g1 j hj).trans (h1 j hj), fun b hb => (g2 b hb).trans (h2 b hb), fun b hb => (g3 b hb).trans (h3 b hb)⟩, fun x hx => ⟨(g4 x hx).1.trans (h4 x hx).1, (g4 x hx).2.1.trans (h4 x hx).2.1, (g4 x hx).2.2.trans (h4 x hx).2.2⟩, fun x hx => (g5 x hx).trans (h5 x hx), fun m M hm hM r => g6 m M hm hM (h6 m M hm hM r)⟩
theorem lof_m {f f' : Nat} {D D' : dy_} (h : lof_ f D D') (hf : f' ≤ f) : lof_ f' D D' := ⟨h.1, fun g hg => h.2.1 g (by omega), fun g hg => h.2.2.1 g (by omega), fun m M hm => h.2.2.2 m M (by omega)⟩
theorem lof_gz {f t : Nat} {D D' : dy_} (h : gz_ t D D') (ht : 6 + 3 * f ≤ t) (ht' : t ≠ 104) : lof_ f D D' := ⟨⟨fun j hj => h.1 j (by omega), fun b hb => h.2.1 b (by omega), h.2.2.1⟩, fun g _ => by rw [h.2.1 378 (by omega), h.2.1 379 (by omega), h.2.1 380 (by omega)]; exact ⟨rfl, rfl, rfl⟩, fun g _ => by rw [h.2.1 377 (by omega)], fun m M hm hM r => h.2.2.2 m M (by omega) hM r⟩
theorem lof_I {f a i : Nat} {v : Int32} {D : dy_} (h : (a = 351 ∧ (i = 36 ∨ i = 37 ∨ i = 38 ∨ i = 43)) ∨ ((a = 378 ∨ a = 379 ∨ a = 380) ∧ f ≤ i) ∨ (a = 377 ∧ f < i)) : lof_ f D (dI_ D a i v) := by
  refine ⟨⟨fun j hj => ?_, fun b hb => dIne_ (by omega), fun _ _ => rfl⟩, fun g hg => ⟨?_, ?_, ?_⟩, fun g hg => ?_, fun m M _ _ r => rm_I r (by omega)⟩
  · rw [dI_at, if_neg (by omega)]
  · rw [dI_at, if_neg (by omega)]
  · rw [dI_at, if_neg (by omega)]
  · rw [dI_at, if_neg (by omega)]
  · rw [dI_at, if_neg (by omega)]
theorem lof_mr {f : Nat} {D D' : dy_} {S : sp_} (h : lof_ f D D') (hS : ok_ S) (g : mr_ D S) : mr_ D' S := by
  obtain ⟨g1, g2, g3⟩ := g
  refine ⟨fun i hi => h.2.2.2 i _ (by omega) ⟨(hS.1 i hi).2, (hS.1 i hi).1.1.2⟩ (g1 i hi), ?_, ?_⟩
  · unfold yt_ at *
    rw [h.1.1 7 (by omega), h.1.2.1 357 (by omega)]
    exact g2
  · unfold ym_ at *
    rw [h.1.1 47 (by omega), h.1.1 48 (by omega), h.1.1 49 (by omega), h.1.2.1 384 (by omega), h.1.2.1 385 (by omega)]
    exact g3
theorem lof_lw {f : Nat} {D D' : dy_} (h : lof_ f D D') : lw_ D D' := fun b hb => ⟨h.1.2.1 b (by omega), h.1.2.2 b hb⟩
/-- machine m, if there is one -/
def hvz_ (k : Nat) (D : dy_) (m : Nat) (X : Option ma_) : Prop := ∀ M, X = some M → vok_ k M ∧ rm_ D m M
def frz_ (k : Nat) (D : dy_) (f : Nat) (F : f3_) : Prop := (D.1 378 f = b2_ F.1.isSome ∧ D.1 379 f = b2_ F.2.1.isSome ∧ D.1 380 f = b2_ F.2.2.isSome) ∧ hvz_ k D (6 + 3 * f) F.1 ∧ hvz_ k D (6 + 3 * f + 1) F.2.1 ∧ hvz_ k D (6 + 3 * f + 2) F.2.2
def flz_ (k : Nat) (D : dy_) : List (f3_ × Nat) → Prop
  | [] => True
  | p :: fs => frz_ k D fs.length p.1 ∧ D.1 377 (fs.length + 1) = nI p.2 ∧ p.2 ≤ 30 ∧ flz_ k D fs
theorem vok_b {k : Nat} {M : ma_} (h : vok_ k M) : M.2.1 ≤ 60 ∧ M.1 ≤ 4 := ⟨h.2.1, h.1.1.2⟩
theorem hvz_n {k m : Nat} {D : dy_} : hvz_ k D m none := fun M e => by cases e
theorem hvz_s {k m : Nat} {D : dy_} {M : ma_} (h : vok_ k M) (r : rm_ D m M) : hvz_ k D m (some M) := fun M' e => by cases e; exact ⟨h, r⟩
theorem hvz_g {k m t : Nat} {D D' : dy_} {X : Option ma_} (h : hvz_ k D m X) (g : gz_ t D D') (hm : m ≠ t) : hvz_ k D' m X := fun M e => ⟨(h M e).1, g.2.2.2 m M hm (vok_b (h M e).1) (h M e).2⟩
theorem hvz_I {k m a i : Nat} {v : Int32} {D : dy_} {X : Option ma_} (h : hvz_ k D m X) (ha : a < 352 ∨ 356 < a) : hvz_ k (dI_ D a i v) m X := fun M e => ⟨(h M e).1, rm_I (h M e).2 ha⟩
theorem frz_l {k g f : Nat} {D D' : dy_} {F : f3_} (h : frz_ k D g F) (l : lof_ f D D') (hg : g < f) : frz_ k D' g F := by
  obtain ⟨⟨h1, h2, h3⟩, h4, h5, h6⟩ := h
  have q := l.2.1 g hg
  exact ⟨⟨q.1.trans h1, q.2.1.trans h2, q.2.2.trans h3⟩, fun M e => ⟨(h4 M e).1, l.2.2.2 _ M (by omega) (vok_b (h4 M e).1) (h4 M e).2⟩, fun M e => ⟨(h5 M e).1, l.2.2.2 _ M (by omega) (vok_b (h5 M e).1) (h5 M e).2⟩, fun M e => ⟨(h6 M e).1, l.2.2.2 _ M (by omega) (vok_b (h6 M e).1) (h6 M e).2⟩⟩
theorem flz_l {k : Nat} {D D' : dy_} : ∀ {fs : List (f3_ × Nat)} {f : Nat}, flz_ k D fs → lof_ f D D' → fs.length ≤ f → flz_ k D' fs
  | [], _, _, _, _ => trivial
  | p :: fs, f, h, l, hf => by
    have hf' : fs.length + 1 ≤ f := hf
    exact ⟨frz_l h.1 l (by omega), (l.2.2.1 _ (by omega)).trans h.2.1, h.2.2.1, flz_l h.2.2.2 l (by omega)⟩
/-- the top frame -/
def tz_ (k : Nat) (D : dy_) (f : Nat) (F : f3_) (C : Option ma_) (q : Nat) : Prop := (D.1 351 35 = nI k ∧ D.1 351 36 = nI 1 ∧ D.1 351 37 = nI (f + 1) ∧ D.1 351 38 = nI q ∧ D.1 351 43 = b2_ C.isSome) ∧ hvz_ k D 105 C ∧ rm_ D 104 (ep_ k) ∧ frz_ k D f F
/-- no room any more -/
def td_ (D : dy_) (f q : Nat) : Prop := D.1 351 36 = nI 0 ∧ D.1 351 37 = nI (f + 1) ∧ D.1 351 38 = nI q
section
variable {w : (Nat → Int32) × Nat} {d k f q : Nat} {D : dy_} {F : f3_} {C : Option ma_}
theorem x153 {g : Nat} : k153_0 w (d + 1) (nI g) D = some (some (.int (nI (6 + 3 * g))), D) := by
  rw [e153_0, pk_mul, nI_add]
theorem x158e {rb cb : Bool} (hf : f ≤ 30) (h37 : D.1 351 37 = nI (f + 1)) (h380 : D.1 380 f = b2_ rb) (h43 : D.1 351 43 = b2_ cb) : k158_59 w (d + 1) D = some (none, dI_ (dI_ D 380 f (b2_ (rb || cb))) 351 43 (nI 0)) := by
  have s380 : sh_.1 380 = (2, 40) := rfl
  rw [e158_59, h37, pk_sub (by omega), Nat.add_sub_cancel, inb_ (by omega) (by omega), nI_clamp (by omega), h380, h43]
  cases rb
  · rw [if_neg (fun z => z rfl)]
    cases cb
    · rw [if_pos b2f_, inb_ (by omega) (by omega)]
      rfl
    · rw [if_neg (by decide), e158_90, s380, if_pos rfl, inb_ (show f < 40 by omega) (show 40 < 2 ^ 31 by omega), nI_clamp (by omega)]
      rfl
  · rw [if_pos (by decide), e158_90, s380, if_pos rfl, inb_ (show f < 40 by omega) (show 40 < 2 ^ 31 by omega), nI_clamp (by omega)]
    rfl
theorem b2s_n : b2_ (none : Option ma_).isSome = nI 0 := rfl
theorem b2s_s (M : ma_) : ¬ b2_ (some M).isSome = nI 0 := by
  show ¬ b2_ true = nI 0
  decide
/-- flush -/
theorem x158 (hk : 1 ≤ k ∧ k ≤ 4) (hf : f ≤ 30) (h : tz_ k D f F C q) : ∃ D', k158_0 w (d + 7) D = some (none, D') ∧ lof_ f D D' ∧ (∀ R, flu_ F.2.2 C = some R → tz_ k D' f (F.1, F.2.1, R) none q) ∧ (flu_ F.2.2 C = none → td_ D' f q) := by
  obtain ⟨⟨h35, h36, h37, h38, h43⟩, hC, hW, ⟨⟨h378, h379, h380⟩, hO, hA, hR⟩⟩ := h
  obtain ⟨O, A, R⟩ := F
  have top : k158_0 w (d + 7) D = if b2_ C.isSome = nI 0 then k158_45 w (d + 7) (nI (6 + 3 * f + 2)) D else (if b2_ R.isSome = nI 0 then k158_45 w (d + 7) (nI (6 + 3 * f + 2)) D else op_o (k155_0 w (d + 6) (nI (6 + 3 * f + 2)) (nI 4) (nI (6 + 3 * f + 2)) (nI 105) D) none (fun p2 => op_vN p2.1 none (k158_59 w (d + 7) p2.2))) := by
    rw [e158_0, h37, pk_sub (by omega), Nat.add_sub_cancel, x153, op_os, op_vIs, nI_add, h43, h37, pk_sub (by omega), Nat.add_sub_cancel, inb_ (by omega) (by omega), nI_clamp (by omega), h380]
  have t45 : k158_45 w (d + 7) (nI (6 + 3 * f + 2)) D = if b2_ C.isSome = nI 0 then k158_59 w (d + 7) D else op_o (k154_0 w (d + 6) (nI 105) (nI (6 + 3 * f + 2)) D) none (fun p1 => op_vN p1.1 none (k158_59 w (d + 7) p1.2)) := by
    rw [e158_45, h43]
  -- what the end does
  have fin : ∀ (E : dy_) (R' : Option ma_) (b : Bool), gz_ (6 + 3 * f + 2) D E → E.1 351 36 = nI b.toNat → (b = true → hvz_ k E (6 + 3 * f + 2) R') → k158_0 w (d + 7) D = k158_59 w (d + 7) E → (R.isSome || C.isSome) = R'.isSome → ∃ D', k158_0 w (d + 7) D = some (none, D') ∧ lof_ f D D' ∧ (b = true → tz_ k D' f (O, A, R') none q) ∧ (b = false → td_ D' f q) := by
    intro E R' b g h36' hR' hE hb
    refine ⟨dI_ (dI_ E 380 f (b2_ R'.isSome)) 351 43 (nI 0), ?_, lof_t (lof_gz g (by omega) (by omega)) (lof_t (lof_I (by omega)) (lof_I (by omega))), fun hb' => ?_, fun hb' => ?_⟩
    · rw [hE, x158e (rb := R.isSome) (cb := C.isSome) hf ((g.1 37 (by omega)).trans h37) (by rw [g.2.1 380 (by omega)]; exact h380) ((g.1 43 (by omega)).trans h43), hb]
    · subst hb'
      have e36 : E.1 351 36 = nI 1 := h36'
      refine ⟨⟨?_, ?_, ?_, ?_, ?_⟩, hvz_n, rm_I (rm_I (g.2.2.2 104 _ (by omega) ⟨show 2 ≤ 60 by omega, ?_⟩ hW) (by omega)) (by omega), ⟨⟨?_, ?_, ?_⟩, ?_, ?_, ?_⟩⟩
      · rw [dI_at, if_neg (by omega), dI_at, if_neg (by omega)]
        exact (g.1 35 (by omega)).trans h35
      · rw [dI_at, if_neg (by omega), dI_at, if_neg (by omega)]
        exact e36
      · rw [dI_at, if_neg (by omega), dI_at, if_neg (by omega)]
        exact (g.1 37 (by omega)).trans h37
      · rw [dI_at, if_neg (by omega), dI_at, if_neg (by omega)]
        exact (g.1 38 (by omega)).trans h38
      · rw [dI_at, if_pos ⟨rfl, rfl⟩]
        rfl
      · exact hk.2
      · rw [dI_at, if_neg (by omega), dI_at, if_neg (by omega), g.2.1 378 (by omega)]
        exact h378
      · rw [dI_at, if_neg (by omega), dI_at, if_neg (by omega), g.2.1 379 (by omega)]
        exact h379
      · rw [dI_at, if_neg (by omega), dI_at, if_pos ⟨rfl, rfl⟩]
      · exact hvz_I (hvz_I (hvz_g hO g (by omega)) (by omega)) (by omega)
      · exact hvz_I (hvz_I (hvz_g hA g (by omega)) (by omega)) (by omega)
      · exact hvz_I (hvz_I (hR' rfl) (by omega)) (by omega)
    · subst hb'
      refine ⟨?_, ?_, ?_⟩
      · rw [dI_at, if_neg (by omega), dI_at, if_neg (by omega)]
        exact h36'
      · rw [dI_at, if_neg (by omega), dI_at, if_neg (by omega)]
        exact (g.1 37 (by omega)).trans h37
      · rw [dI_at, if_neg (by omega), dI_at, if_neg (by omega)]
        exact (g.1 38 (by omega)).trans h38
  cases C with
  | none =>
    obtain ⟨D', a1, a2, a3, a4⟩ := fin D R true (gz_r _ _) h36 (fun _ => hR) (by rw [top, if_pos b2s_n, t45, if_pos b2s_n]) (by rw [show (none : Option ma_).isSome = false from rfl, Bool.or_false])
    refine ⟨D', a1, a2, fun R1 e => ?_, fun e => by cases e⟩
    have e' : some R = some R1 := e
    cases e'
    exact a3 rfl
  | some c =>
    have hc := hC c rfl
    cases R with
    | none =>
      obtain ⟨E, b1, b2, b3⟩ := x154 (w := w) (d := d + 5) (D := D) (a := 105) (b := 6 + 3 * f + 2) (by omega) (by omega) (by omega)
      have g := gz_om b2
      obtain ⟨D', a1, a2, a3, a4⟩ := fin E (some c) true g ((b2.2.2.1 36 (by omega)).trans h36) (fun _ => hvz_s hc.1 (b3 c hc.1.2.1 hc.1.1.1.2 hc.2)) (by rw [top, if_neg (b2s_s c), if_pos b2s_n, t45, if_neg (b2s_s c), b1, op_os, op_vNs]) rfl
      refine ⟨D', a1, a2, fun R1 e => ?_, fun e => by cases e⟩
      have e' : some (some c) = some R1 := e
      cases e'
      exact a3 rfl
    | some r =>
      have hr := hR r rfl
      obtain ⟨E, b1, b2, b3, b4⟩ := x155 (w := w) (d := d) (k := k) (D := D) (t := 6 + 3 * f + 2) (h := 4) (a := 6 + 3 * f + 2) (b := 105) (by omega) (by omega) (by omega) (by omega) h36 hr.1 hc.1 hr.2 hc.2
      have hE : k158_0 w (d + 7) D = k158_59 w (d + 7) E := by rw [top, if_neg (b2s_s c), if_neg (b2s_s r), b1, op_os, op_vNs]
      have ef : flu_ (some r) (some c) = (jo_ 4 r c).bind fun x => some (some x) := rfl
      cases ej : jo_ 4 r c with
      | none =>
        obtain ⟨D', a1, a2, a3, a4⟩ := fin E (some r) false b2 (b4 ej) (fun z => by cases z) hE rfl
        refine ⟨D', a1, a2, fun R1 e => ?_, fun _ => a4 rfl⟩
        have e' : ((jo_ 4 r c).bind fun x => some (some x)) = some R1 := e
        rw [ej] at e'
        cases e'
      | some M =>
        obtain ⟨m1, m2, m3⟩ := b3 M ej
        obtain ⟨D', a1, a2, a3, a4⟩ := fin E (some M) true b2 m1 (fun _ => hvz_s m2 m3) hE rfl
        refine ⟨D', a1, a2, fun R1 e => ?_, fun e => ?_⟩
        · have e' : ((jo_ 4 r c).bind fun x => some (some x)) = some R1 := e
          rw [ej] at e'
          cases e'
          exact a3 rfl
        · have e' : ((jo_ 4 r c).bind fun x => some (some x)) = none := e
          rw [ej] at e'
          cases e'
end
