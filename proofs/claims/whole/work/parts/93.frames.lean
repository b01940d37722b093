/-! THE REFERENCE: ends of rows and parts -/
section
variable {w : (Nat → Int32) × Nat} {d k f q : Nat} {D : dy_} {F : f3_} {C : Option ma_}
/-- one machine into another: joined, or copied where there is none yet -/
theorem xjc {t s h : Nat} {A : Option ma_} {X : ma_} (hh : h < 8) (ht : t < 110) (hs : s < 110) (hts : s ≠ t) (h36 : D.1 351 36 = nI 1) (hA : hvz_ k D t A) (hX : vok_ k X) (rX : rm_ D s X) : ∃ D', (A = none → k154_0 w (d + 6) (nI s) (nI t) D = some (none, D')) ∧ (∀ a, A = some a → k155_0 w (d + 6) (nI t) (nI h) (nI t) (nI s) D = some (none, D')) ∧ gz_ t D D' ∧ (∀ V, jn_ h A X = some V → D'.1 351 36 = nI 1 ∧ vok_ k V ∧ rm_ D' t V) ∧ (jn_ h A X = none → D'.1 351 36 = nI 0) := by
  cases A with
  | none =>
    obtain ⟨D', e1, e2, e3⟩ := x154 (w := w) (d := d + 5) (D := D) hs ht hts
    refine ⟨D', fun _ => e1, fun a e => (by cases e), gz_om e2, fun V e => ?_, fun e => (by cases e)⟩
    have e' : some X = some V := e
    cases e'
    exact ⟨(e2.2.2.1 36 (by omega)).trans h36, hX, e3 X hX.2.1 hX.1.1.2 rX⟩
  | some a =>
    have ha := hA a rfl
    obtain ⟨D', e1, e2, e3, e4⟩ := x155 (w := w) (d := d) (k := k) (D := D) (t := t) (h := h) (a := t) (b := s) hh ht ht hs h36 ha.1 hX ha.2 rX
    exact ⟨D', fun e => (by cases e), fun a' e => (by cases e; exact e1), e2, e3, e4⟩
/-- the same without room -/
theorem xjd {t s h : Nat} (ht : t < 110) (hs : s < 110) (hts : s ≠ t) (h36 : D.1 351 36 = nI 0) : (∃ D', k154_0 w (d + 6) (nI s) (nI t) D = some (none, D') ∧ gz_ t D D' ∧ D'.1 351 36 = nI 0) ∧ ∃ D', k155_0 w (d + 6) (nI t) (nI h) (nI t) (nI s) D = some (none, D') ∧ gz_ t D D' ∧ D'.1 351 36 = nI 0 := by
  obtain ⟨D', e1, e2, e3⟩ := x154 (w := w) (d := d + 5) (D := D) hs ht hts
  exact ⟨⟨D', e1, gz_om e2, (e2.2.2.1 36 (by omega)).trans h36⟩, ⟨_, x155d h36, gz_36, by rw [dI_at, if_pos ⟨rfl, rfl⟩]⟩⟩
theorem td_g {t a i b j : Nat} {u v : Int32} {E : dy_} (h : td_ D f q) (g : gz_ t D E) (h36 : E.1 351 36 = nI 0) (ha : a ≠ 351) (hb : b ≠ 351) : td_ (dI_ (dI_ E a i u) b j v) f q := by
  refine ⟨?_, ?_, ?_⟩
  · rw [dI_at, if_neg (by omega), dI_at, if_neg (by omega)]
    exact h36
  · rw [dI_at, if_neg (by omega), dI_at, if_neg (by omega)]
    exact (g.1 37 (by omega)).trans h.2.1
  · rw [dI_at, if_neg (by omega), dI_at, if_neg (by omega)]
    exact (g.1 38 (by omega)).trans h.2.2
theorem x159e (hf : f ≤ 30) : k159_66 w (d + 1) (nI f) D = some (none, dI_ (dI_ D 379 f (b2_ true)) 380 f (b2_ false)) := by
  rw [e159_66, inb_ (by omega) (by omega), inb_ (by omega) (by omega), nI_clamp (by omega), nar_1, nar_0]
theorem x160e (hf : f ≤ 30) : k160_46 w (d + 1) (nI f) D = some (none, dI_ (dI_ D 378 f (b2_ true)) 379 f (b2_ false)) := by
  rw [e160_46, inb_ (by omega) (by omega), inb_ (by omega) (by omega), nI_clamp (by omega), nar_1, nar_0]
theorem x159d {s : Nat} (hf : f ≤ 30) (hs : s < 110) (hs' : s ≠ 6 + 3 * f + 1) (h : td_ D f q) : ∃ D', k159_33 w (d + 8) (nI f) (nI (6 + 3 * f)) (nI s) D = some (none, D') ∧ lof_ f D D' ∧ td_ D' f q := by
  obtain ⟨⟨E1, a1, a2, a3⟩, ⟨E2, b1, b2, b3⟩⟩ := xjd (w := w) (d := d + 1) (h := 0) (show 6 + 3 * f + 1 < 110 by omega) hs hs' h.1
  rw [e159_33, inb_ (by omega) (by omega), nI_clamp (by omega), nI_add]
  by_cases z : D.1 379 f = nI 0
  · refine ⟨dI_ (dI_ E1 379 f (b2_ true)) 380 f (b2_ false), ?_, lof_t (lof_gz a2 (by omega) (by omega)) (lof_t (lof_I (by omega)) (lof_I (by omega))), td_g h a2 a3 (by omega) (by omega)⟩
    rw [if_pos z, a1, op_os, op_vNs, x159e hf]
  · refine ⟨dI_ (dI_ E2 379 f (b2_ true)) 380 f (b2_ false), ?_, lof_t (lof_gz b2 (by omega) (by omega)) (lof_t (lof_I (by omega)) (lof_I (by omega))), td_g h b2 b3 (by omega) (by omega)⟩
    rw [if_neg z, b1, op_os, op_vNs, x159e hf]
theorem x159l {s : Nat} {X : ma_} (hk : 1 ≤ k ∧ k ≤ 4) (hf : f ≤ 30) (hs : s < 110) (hs' : s ≠ 6 + 3 * f + 1) (h : tz_ k D f F none q) (hX : vok_ k X) (rX : rm_ D s X) : ∃ D', k159_33 w (d + 8) (nI f) (nI (6 + 3 * f)) (nI s) D = some (none, D') ∧ lof_ f D D' ∧ (∀ V, jn_ 0 F.2.1 X = some V → tz_ k D' f (F.1, some V, none) none q) ∧ (jn_ 0 F.2.1 X = none → td_ D' f q) := by
  obtain ⟨⟨h35, h36, h37, h38, h43⟩, hC, hW, ⟨⟨h378, h379, h380⟩, hO, hA, hR⟩⟩ := h
  obtain ⟨E, a1, a2, a3, a4, a5⟩ := xjc (w := w) (d := d + 1) (h := 0) (by omega) (show 6 + 3 * f + 1 < 110 by omega) hs hs' h36 hA hX rX
  refine ⟨dI_ (dI_ E 379 f (b2_ true)) 380 f (b2_ false), ?_, lof_t (lof_gz a3 (by omega) (by omega)) (lof_t (lof_I (by omega)) (lof_I (by omega))), fun V e => ?_, fun e => ?_⟩
  · rw [e159_33, inb_ (by omega) (by omega), nI_clamp (by omega), nI_add, h379]
    cases hh : F.2.1 with
    | none => rw [if_pos b2s_n, a1 hh, op_os, op_vNs, x159e hf]
    | some a => rw [if_neg (b2s_s a), a2 a hh, op_os, op_vNs, x159e hf]
  · obtain ⟨b1, b2, b3⟩ := a4 V e
    refine ⟨⟨?_, ?_, ?_, ?_, ?_⟩, hvz_n, rm_I (rm_I (a3.2.2.2 104 _ (by omega) ⟨show 2 ≤ 60 by omega, hk.2⟩ hW) (by omega)) (by omega), ⟨⟨?_, ?_, ?_⟩, ?_, ?_, hvz_n⟩⟩
    · rw [dI_at, if_neg (by omega), dI_at, if_neg (by omega)]
      exact (a3.1 35 (by omega)).trans h35
    · rw [dI_at, if_neg (by omega), dI_at, if_neg (by omega)]
      exact b1
    · rw [dI_at, if_neg (by omega), dI_at, if_neg (by omega)]
      exact (a3.1 37 (by omega)).trans h37
    · rw [dI_at, if_neg (by omega), dI_at, if_neg (by omega)]
      exact (a3.1 38 (by omega)).trans h38
    · rw [dI_at, if_neg (by omega), dI_at, if_neg (by omega)]
      exact (a3.1 43 (by omega)).trans h43
    · rw [dI_at, if_neg (by omega), dI_at, if_neg (by omega), a3.2.1 378 (by omega)]
      exact h378
    · rw [dI_at, if_neg (by omega), dI_at, if_pos ⟨rfl, rfl⟩]
      rfl
    · rw [dI_at, if_pos ⟨rfl, rfl⟩]
      rfl
    · exact hvz_I (hvz_I (hvz_g hO a3 (by omega)) (by omega)) (by omega)
    · exact hvz_I (hvz_I (hvz_s b2 b3) (by omega)) (by omega)
  · have b1 := a5 e
    refine ⟨?_, ?_, ?_⟩
    · rw [dI_at, if_neg (by omega), dI_at, if_neg (by omega)]
      exact b1
    · rw [dI_at, if_neg (by omega), dI_at, if_neg (by omega)]
      exact (a3.1 37 (by omega)).trans h37
    · rw [dI_at, if_neg (by omega), dI_at, if_neg (by omega)]
      exact (a3.1 38 (by omega)).trans h38
/-- endRow -/
theorem x159 (hk : 1 ≤ k ∧ k ≤ 4) (hf : f ≤ 30) (h : tz_ k D f F C q) : ∃ D', k159_0 w (d + 8) D = some (none, D') ∧ lof_ f D D' ∧ (∀ V, anv_ k F.2.1 F.2.2 C = some V → tz_ k D' f (F.1, some V, none) none q) ∧ (anv_ k F.2.1 F.2.2 C = none → td_ D' f q) := by
  obtain ⟨E, a1, a2, a3, a4⟩ := x158 (w := w) (d := d) hk hf h
  have top : E.1 351 37 = nI (f + 1) → k159_0 w (d + 8) D = if E.1 380 f = nI 0 then k159_33 w (d + 8) (nI f) (nI (6 + 3 * f)) (nI 104) E else k159_33 w (d + 8) (nI f) (nI (6 + 3 * f)) (nI (6 + 3 * f + 2)) E := by
    intro h37
    rw [e159_0, a1, op_os, op_vNs, h37, pk_sub (by omega), Nat.add_sub_cancel, x153, op_os, op_vIs, inb_ (by omega) (by omega), nI_clamp (by omega), nI_add]
  have ea : anv_ k F.2.1 F.2.2 C = ((flu_ F.2.2 C).bind fun R' => some (R'.getD (ep_ k))).bind (jn_ 0 F.2.1) := rfl
  cases eR : flu_ F.2.2 C with
  | none =>
    have td := a4 eR
    rw [eR] at ea
    have fin : ∀ s, s < 110 → s ≠ 6 + 3 * f + 1 → k159_0 w (d + 8) D = k159_33 w (d + 8) (nI f) (nI (6 + 3 * f)) (nI s) E → ∃ D', k159_0 w (d + 8) D = some (none, D') ∧ lof_ f D D' ∧ (∀ V, anv_ k F.2.1 F.2.2 C = some V → tz_ k D' f (F.1, some V, none) none q) ∧ (anv_ k F.2.1 F.2.2 C = none → td_ D' f q) := by
      intro s s1 s2 hE
      obtain ⟨D', b1, b2, b3⟩ := x159d (w := w) (d := d) hf s1 s2 td
      refine ⟨D', hE.trans b1, lof_t a2 b2, fun V e => ?_, fun _ => b3⟩
      rw [ea] at e
      cases e
    by_cases z : E.1 380 f = nI 0
    · exact fin 104 (by omega) (by omega) (by rw [top td.2.1, if_pos z])
    · exact fin (6 + 3 * f + 2) (by omega) (by omega) (by rw [top td.2.1, if_neg z])
  | some R =>
    have tz := a3 R eR
    rw [eR] at ea
    have ea' : anv_ k F.2.1 F.2.2 C = jn_ 0 F.2.1 (R.getD (ep_ k)) := ea
    have h37 := tz.1.2.2.1
    have h380 : E.1 380 f = b2_ R.isSome := tz.2.2.2.1.2.2
    rw [ea']
    cases R with
    | none =>
      obtain ⟨D', b1, b2, b3, b4⟩ := x159l (w := w) (d := d) (s := 104) (X := ep_ k) hk hf (by omega) (by omega) tz (ep_ok hk) tz.2.2.1
      exact ⟨D', by rw [top h37, h380, if_pos b2s_n]; exact b1, lof_t a2 b2, b3, b4⟩
    | some r =>
      have hr := tz.2.2.2.2.2.2 r rfl
      obtain ⟨D', b1, b2, b3, b4⟩ := x159l (w := w) (d := d) (s := 6 + 3 * f + 2) (X := r) hk hf (by omega) (by omega) tz hr.1 hr.2
      exact ⟨D', by rw [top h37, h380, if_neg (b2s_s r)]; exact b1, lof_t a2 b2, b3, b4⟩
/-- endAnd -/
theorem x160 (hk : 1 ≤ k ∧ k ≤ 4) (hf : f ≤ 30) (h : tz_ k D f F C q) : ∃ D', k160_0 w (d + 9) D = some (none, D') ∧ lof_ f D D' ∧ (∀ V, orv_ k F.1 F.2.1 F.2.2 C = some V → tz_ k D' f (some V, none, none) none q) ∧ (orv_ k F.1 F.2.1 F.2.2 C = none → td_ D' f q) := by
  obtain ⟨E, a1, a2, a3, a4⟩ := x159 (w := w) (d := d) hk hf h
  have top : E.1 351 37 = nI (f + 1) → k160_0 w (d + 9) D = if E.1 378 f = nI 0 then (op_o (k154_0 w (d + 8) (nI (6 + 3 * f + 1)) (nI (6 + 3 * f)) E) none (fun p3 => op_vN p3.1 none (k160_46 w (d + 9) (nI f) p3.2))) else (op_o (k155_0 w (d + 8) (nI (6 + 3 * f)) (nI 1) (nI (6 + 3 * f)) (nI (6 + 3 * f + 1)) E) none (fun p4 => op_vN p4.1 none (k160_46 w (d + 9) (nI f) p4.2))) := by
    intro h37
    rw [e160_0, a1, op_os, op_vNs, h37, pk_sub (by omega), Nat.add_sub_cancel, x153, op_os, op_vIs, inb_ (by omega) (by omega), nI_clamp (by omega), nI_add]
  have eo : orv_ k F.1 F.2.1 F.2.2 C = (anv_ k F.2.1 F.2.2 C).bind (jn_ 1 F.1) := rfl
  cases eA : anv_ k F.2.1 F.2.2 C with
  | none =>
    have td := a4 eA
    rw [eA] at eo
    obtain ⟨⟨E1, p1, p2, p3⟩, ⟨E2, q1, q2, q3⟩⟩ := xjd (w := w) (d := d + 2) (h := 1) (show 6 + 3 * f < 110 by omega) (show 6 + 3 * f + 1 < 110 by omega) (by omega) td.1
    by_cases z : E.1 378 f = nI 0
    · refine ⟨dI_ (dI_ E1 378 f (b2_ true)) 379 f (b2_ false), ?_, lof_t a2 (lof_t (lof_gz p2 (by omega) (by omega)) (lof_t (lof_I (by omega)) (lof_I (by omega)))), fun V e => ?_, fun _ => td_g td p2 p3 (by omega) (by omega)⟩
      · rw [top td.2.1, if_pos z, p1, op_os, op_vNs, x160e hf]
      · rw [eo] at e
        cases e
    · refine ⟨dI_ (dI_ E2 378 f (b2_ true)) 379 f (b2_ false), ?_, lof_t a2 (lof_t (lof_gz q2 (by omega) (by omega)) (lof_t (lof_I (by omega)) (lof_I (by omega)))), fun V e => ?_, fun _ => td_g td q2 q3 (by omega) (by omega)⟩
      · rw [top td.2.1, if_neg z, q1, op_os, op_vNs, x160e hf]
      · rw [eo] at e
        cases e
  | some X =>
    have tz := a3 X eA
    rw [eA] at eo
    have eo' : orv_ k F.1 F.2.1 F.2.2 C = jn_ 1 F.1 X := eo
    rw [eo']
    obtain ⟨⟨h35, h36, h37, h38, h43⟩, hC, hW, ⟨⟨h378, h379, h380⟩, hO, hA, hR⟩⟩ := tz
    have hX := hA X rfl
    obtain ⟨G, p1, p2, p3, p4, p5⟩ := xjc (w := w) (d := d + 2) (h := 1) (by omega) (show 6 + 3 * f < 110 by omega) (show 6 + 3 * f + 1 < 110 by omega) (by omega) h36 hO hX.1 hX.2
    have h378' : E.1 378 f = b2_ F.1.isSome := h378
    refine ⟨dI_ (dI_ G 378 f (b2_ true)) 379 f (b2_ false), ?_, lof_t a2 (lof_t (lof_gz p3 (by omega) (by omega)) (lof_t (lof_I (by omega)) (lof_I (by omega)))), fun V e => ?_, fun e => ?_⟩
    · rw [top h37, h378']
      cases hh : F.1 with
      | none => rw [if_pos b2s_n, p1 hh, op_os, op_vNs, x160e hf]
      | some a => rw [if_neg (b2s_s a), p2 a hh, op_os, op_vNs, x160e hf]
    · obtain ⟨b1, b2, b3⟩ := p4 V e
      refine ⟨⟨?_, ?_, ?_, ?_, ?_⟩, hvz_n, rm_I (rm_I (p3.2.2.2 104 _ (by omega) ⟨show 2 ≤ 60 by omega, hk.2⟩ hW) (by omega)) (by omega), ⟨⟨?_, ?_, ?_⟩, ?_, hvz_n, hvz_n⟩⟩
      · rw [dI_at, if_neg (by omega), dI_at, if_neg (by omega)]
        exact (p3.1 35 (by omega)).trans h35
      · rw [dI_at, if_neg (by omega), dI_at, if_neg (by omega)]
        exact b1
      · rw [dI_at, if_neg (by omega), dI_at, if_neg (by omega)]
        exact (p3.1 37 (by omega)).trans h37
      · rw [dI_at, if_neg (by omega), dI_at, if_neg (by omega)]
        exact (p3.1 38 (by omega)).trans h38
      · rw [dI_at, if_neg (by omega), dI_at, if_neg (by omega)]
        exact (p3.1 43 (by omega)).trans h43
      · rw [dI_at, if_neg (by omega), dI_at, if_pos ⟨rfl, rfl⟩]
        rfl
      · rw [dI_at, if_pos ⟨rfl, rfl⟩]
        rfl
      · rw [dI_at, if_neg (by omega), dI_at, if_neg (by omega), p3.2.1 380 (by omega)]
        exact h380
      · exact hvz_I (hvz_I (hvz_s b2 b3) (by omega)) (by omega)
    · have b1 := p5 e
      refine ⟨?_, ?_, ?_⟩
      · rw [dI_at, if_neg (by omega), dI_at, if_neg (by omega)]
        exact b1
      · rw [dI_at, if_neg (by omega), dI_at, if_neg (by omega)]
        exact (p3.1 37 (by omega)).trans h37
      · rw [dI_at, if_neg (by omega), dI_at, if_neg (by omega)]
        exact (p3.1 38 (by omega)).trans h38
end
/-- what an atom's nots keep -/
def az_ (D D' : dy_) : Prop := (∀ j, j = 7 ∨ j = 35 ∨ j = 37 ∨ j = 47 ∨ j = 48 ∨ j = 49 → D'.1 351 j = D.1 351 j) ∧ (∀ b, b < 351 ∨ b = 357 ∨ 376 ≤ b → D'.1 b = D.1 b) ∧ (∀ b, b < 351 → D'.2 b = D.2 b) ∧ ∀ (m : Nat) (M : ma_), m ≠ 105 → M.2.1 ≤ 60 ∧ M.1 ≤ 4 → rm_ D m M → rm_ D' m M
theorem az_t {D D' D'' : dy_} (h : az_ D D') (g : az_ D' D'') : az_ D D'' := ⟨fun j hj => (g.1 j hj).trans (h.1 j hj), fun b hb => (g.2.1 b hb).trans (h.2.1 b hb), fun b hb => (g.2.2.1 b hb).trans (h.2.2.1 b hb), fun m M hm hM r => g.2.2.2 m M hm hM (h.2.2.2 m M hm hM r)⟩
theorem az_gz {D D' : dy_} (h : gz_ 105 D D') : az_ D D' := ⟨fun j hj => h.1 j (by omega), h.2.1, h.2.2.1, h.2.2.2⟩
theorem az_I {D : dy_} {j : Nat} {v : Int32} (h : j = 38 ∨ j = 43) : az_ D (dI_ D 351 j v) := ⟨fun i hi => by rw [dI_at, if_neg (by omega)], fun b hb => dIne_ (by omega), fun _ _ => rfl, fun m M _ _ r => rm_I r (by omega)⟩
theorem lof_az {f : Nat} {D D' : dy_} (h : az_ D D') (hf : f ≤ 30) : lof_ f D D' := ⟨⟨fun j hj => h.1 j (by omega), fun b hb => h.2.1 b (by omega), h.2.2.1⟩, fun g _ => by rw [h.2.1 378 (by omega), h.2.1 379 (by omega), h.2.1 380 (by omega)]; exact ⟨rfl, rfl, rfl⟩, fun g _ => by rw [h.2.1 377 (by omega)], fun m M hm hM r => h.2.2.2 m M (by omega) hM r⟩
section
variable {w : (Nat → Int32) × Nat} {d k : Nat}
theorem x161d : ∀ (q : Nat) (D : dy_), q < 2 ^ 31 → D.1 351 36 = nI 0 → D.1 351 38 = nI q → ∃ D', k161_0 w (d + 7) D = some (none, D') ∧ az_ D D' ∧ D'.1 351 36 = nI 0
  | 0, D, _, h36, h38 => by
    refine ⟨dI_ D 351 43 (nI 1), ?_, az_I (by omega), by rw [dI_at, if_neg (by omega)]; exact h36⟩
    rw [e161_0, h38, if_pos (by decide)]
  | q + 1, D, hq, h36, h38 => by
    have e38 : (dI_ D 351 36 (nI 0)).1 351 38 = nI (q + 1) := by
      rw [dI_at, if_neg (by omega)]
      exact h38
    obtain ⟨D', a1, a2, a3⟩ := x161d q (dI_ (dI_ D 351 36 (nI 0)) 351 38 (nI q)) (by omega) (by rw [dI_at, if_neg (by omega), dI_at, if_pos ⟨rfl, rfl⟩]) (by rw [dI_at, if_pos ⟨rfl, rfl⟩])
    refine ⟨D', ?_, az_t (az_t (az_gz gz_36) (az_I (by omega))) a2, a3⟩
    rw [e161_0, h38, if_neg (by rw [nI_leI (by omega) (by omega)]; omega), x155d h36, op_os, op_vNs, e38, pk_sub (by omega), Nat.add_sub_cancel]
    exact a1
/-- atom -/
theorem x161 : ∀ (q : Nat) (V : ma_) (D : dy_), q < 2 ^ 31 → vok_ k V → rm_ D 105 V → D.1 351 36 = nI 1 → D.1 351 38 = nI q → ∃ D', k161_0 w (d + 7) D = some (none, D') ∧ az_ D D' ∧ (∀ V', nots_ q V = some V' → (D'.1 351 36 = nI 1 ∧ D'.1 351 38 = nI 0 ∧ D'.1 351 43 = b2_ true) ∧ vok_ k V' ∧ rm_ D' 105 V') ∧ (nots_ q V = none → D'.1 351 36 = nI 0)
  | 0, V, D, _, hV, rV, h36, h38 => by
    refine ⟨dI_ D 351 43 (nI 1), ?_, az_I (by omega), fun V' e => ?_, fun e => (by cases e)⟩
    · rw [e161_0, h38, if_pos (by decide)]
    · have e' : some V = some V' := e
      cases e'
      refine ⟨⟨?_, ?_, ?_⟩, hV, rm_I rV (by omega)⟩
      · rw [dI_at, if_neg (by omega)]
        exact h36
      · rw [dI_at, if_neg (by omega)]
        exact h38
      · rw [dI_at, if_pos ⟨rfl, rfl⟩]
        rfl
  | q + 1, V, D, hq, hV, rV, h36, h38 => by
    obtain ⟨E, e1, e2, e3, e4⟩ := x155 (w := w) (d := d) (k := k) (D := D) (t := 105) (h := 7) (a := 105) (b := 105) (by omega) (by omega) (by omega) (by omega) h36 hV hV rV rV
    have e38 : E.1 351 38 = nI (q + 1) := (e2.1 38 (by omega)).trans h38
    have head : k161_0 w (d + 7) D = k161_0 w (d + 7) (dI_ E 351 38 (nI q)) := by
      rw [e161_0, h38, if_neg (by rw [nI_leI (by omega) (by omega)]; omega), e1, op_os, op_vNs, e38, pk_sub (by omega), Nat.add_sub_cancel]
    have en : nots_ (q + 1) V = (jo_ 7 V V).bind (nots_ q) := rfl
    cases ej : jo_ 7 V V with
    | none =>
      obtain ⟨D', a1, a2, a3⟩ := x161d (w := w) (d := d) q (dI_ E 351 38 (nI q)) (by omega) (by rw [dI_at, if_neg (by omega)]; exact e4 ej) (by rw [dI_at, if_pos ⟨rfl, rfl⟩])
      rw [ej] at en
      refine ⟨D', head.trans a1, az_t (az_t (az_gz e2) (az_I (by omega))) a2, fun V' e => ?_, fun _ => a3⟩
      rw [en] at e
      cases e
    | some X =>
      obtain ⟨m1, m2, m3⟩ := e3 X ej
      obtain ⟨D', a1, a2, a3, a4⟩ := x161 q X (dI_ E 351 38 (nI q)) (by omega) m2 (rm_I m3 (by omega)) (by rw [dI_at, if_neg (by omega)]; exact m1) (by rw [dI_at, if_pos ⟨rfl, rfl⟩])
      rw [ej] at en
      have en' : nots_ (q + 1) V = nots_ q X := en
      rw [en']
      exact ⟨D', head.trans a1, az_t (az_t (az_gz e2) (az_I (by omega))) a2, a3, a4⟩
end
