
section ME
variable {p : Program} {l : Launch} {e : Env} {R : Room} {s : State} {m : MethodId} {args : Array Value} {below : List Frame} {meth : Method} {c : Code}
variable {bs b L nL z0 s0 : Nat} {xs : Nat → Int32} {D : va_G} {cA : Nat → ClassId} {o kd : Nat} {cc : ByteArray} {rt : Option FieldType}
theorem so_gx (C : cx_ p s m args meth c bs b L nL z0 xs D cA o kd cc) {v : Option Value} {h : hp_} (hr : meth.sig.returnType = rt) (hlocks : meth.locks = false) : gx_ p l e R s m args below meth c (MQ below (fun _ st oc t => oc = .returned (v.map (wv_ bs b)) ∧ pu_ bs b L xs D cA h t ∧ va_F (rg_ bs) st t) args s (hp_z h - z0) (hp_s h - s0) (rg_ bs)) bs b D cA z0 s0 cc rt v h := by
  intro H locs cells slots la pc i hp hz hs hd hrk
  refine so_sz C.2.2.2.2.2.2.2.2.2.2.1 hp hz fun hsz => ?_
  obtain rfl : cells = hp_z h - z0 := by omega
  obtain rfl : slots = hp_s h - s0 := by omega
  have hx := C.1
  have hb := C.2.1
  have hq : ∀ t : State, t.heap = H → s.WarmedH t.vm → (Outcome.returned (v.map (wv_ bs b)) = .returned (v.map (wv_ bs b)) ∧ pu_ bs b L xs D cA h t ∧ va_F (rg_ bs) s t) := fun t ht hW => ⟨rfl, pu_at C hp hsz ht hW, hp.2.2.F ht⟩
  rcases hrk with ⟨n, rfl, rfl, hrt⟩ | ⟨n, rfl, rfl, rfl⟩ | ⟨n, rfl, rfl, nm, rfl⟩ | ⟨rfl, rfl, rfl⟩
  · rcases hrt with rfl | ⟨rfl, hn⟩
    · exact W.iret hx hb hr hq hp.2.2.2.2 hd hlocks
    · exact W.zret hx hb hr (na_bool hn).1 hq hp.2.2.2.2 hd hlocks
  · exact W.lret hx hb hr hq hp.2.2.2.2 hd hlocks
  · exact W.aret hx hb hr (Or.inl ⟨nm, rfl⟩) (Or.inr (wv_ref bs b n)) hq hp.2.2.2.2 hd hlocks
  · exact W.vret hx hb hr hq hp.2.2.2.2 hd hlocks
end ME
/-- THE SMALL MACHINE IS RIGHT: what it says of a call, the machine does -/
theorem so_met (l : Launch) (bs b L : Nat) (xs : Nat → Int32) (D : va_G) (cA : Nat → ClassId) : ∀ d x as h v h', x < 187 → (if mk_ca as ≤ (mp_ x).2.2.2 then ev_ xs L mp_ d x 0 (lv_args 0 as) [] h else none) = some (v, h') → ms_ l bs b L xs D cA d x as h v h' := by
  intro d
  induction d with
  | zero => exact fun x as h v h' _ q => by obtain ⟨-, q⟩ := iv_t q; cases q
  | succ d ih =>
    intro x as h v h' hx hev
    obtain ⟨hca, hev⟩ := iv_t hev
    have hlz : lz_ h h' := mz_ev xs L mp_ (d + 1) x 0 _ _ _ _ hev
    obtain ⟨n, hn⟩ := lm_ex (f := fun n => rn_ xs L (mp_ x) (fun m as h => if mk_ca as ≤ (mp_ m).2.2.2 then ev_ xs L mp_ d m 0 (lv_args 0 as) [] h else none) n 0 (lv_args 0 as) [] h) hev
    obtain ⟨f1, f2, f3, f4, f5, f6, f7, f8, f9, -⟩ := mf_all hx
    have hmn := mn_all (x := x) (by omega)
    have hch := ca_all (x := x) (by omega)
    unfold ms_
    refine Met.ofW (cc := (mi_ x).2.1) (maxL := (mi_ x).2.2.1) (ret := (mi_ x).2.2.2) f4 rfl ?_
    intro p e s m args below meth c s₁ B hml hv
    obtain ⟨rfl, q1, q2, q3, q4, q5, q6, q7, q8⟩ := hv
    have hts0 := atoms_spec (ws := Jvm.Cond.code (mi_ x).1 (mi_ x).2.1 (mi_ x).2.2.1 (mi_ x).2.2.2 :: ww_) B.pre
    have C : cx_ p s m (as.map (wv_ bs b)).toArray meth c bs b L (mi_ x).2.2.1 (hp_z h) xs D cA (mw_ x) (mk_k x) (mi_ x).2.1 := ⟨B.exec, B.bytes, hml, by rw [← f9]; exact findClass_of_methodNamed B.named, fun w hw => hts0 w (List.mem_cons_of_mem _ hw), q4, q5, q6, q7, q8, q2, fun h9 => (name_of_methodNamed B.named B.method).1.trans (f8 h9).2.1⟩
    have hl := lv_entry (as.map (wv_ bs b)) (n := (mi_ x).2.2.1) (by rw [la_len, ← hmn]; exact hca)
    rw [lg_entry_eq]
    generalize (lg_sl (as.map (wv_ bs b)) ++ List.replicate ((mi_ x).2.2.1 - (lg_sl (as.map (wv_ bs b))).length) Slot.unset).toArray = la at hl ⊢
    rw [la_map] at hl
    have go := so_rn (R := (headSpec (Jvm.Cond.code (mi_ x).1 (mi_ x).2.1 (mi_ x).2.2.1 (mi_ x).2.2.2 :: ww_) ⟨d + 1, hp_z h' - hp_z h, hp_s h' - hp_s h, 100 * (d + 1)⟩).room) (l := l) (e := e) (below := below) (s0 := hp_s h) (r := (v, h')) (rt := (mi_ x).2.2.2) (d := d) C hch (Nat.le_refl _) (by show 100 * d + 100 ≤ 100 * (d + 1); omega) (by show hp_z h' ≤ hp_z h + (hp_z h' - hp_z h); have := hlz.1; omega) (by show hp_s h' ≤ hp_s h + (hp_s h' - hp_s h); have := hlz.2; omega) (fun x as h v h' hx hq => ih x as h v h' hx hq) (fun _ _ h' => pa_if (G := fun (a _ : re_) => pz_ h' a) (a' := none) (b' := none) _ (mz_ev xs L mp_ d _ _ _ _ _) (fun _ q => by cases q)) (so_gx C B.returns B.notSynchronized) n 0 (lv_args 0 as) [] h hn
    exact go s.heap [] 0 0 la ⟨q1, q3, va_S.rf⟩ (Nat.zero_add _) (Nat.zero_add _) hl
/-- the store at the start: nothing -/
def h0_ : hp_ := (fun _ => (0, 0), fun _ _ => 0, fun _ _ => 0, fun _ _ => 0, 0, 0)
set_option maxRecDepth 100000 in
theorem nw_tbl : ∀ w ∈ nw_, w ∈ lw_tbl := by
  intro w hw
  simp only [nw_, List.mem_cons, List.not_mem_nil, or_false] at hw
  rcases hw with rfl | rfl | rfl | rfl | rfl | rfl | rfl
  · exact List.mem_of_getElem? (i := 160) rfl
  · exact List.mem_of_getElem? (i := 187) rfl
  · exact List.mem_of_getElem? (i := 213) rfl
  · exact List.mem_of_getElem? (i := 319) rfl
  · exact List.mem_of_getElem? (i := 329) rfl
  · exact List.mem_of_getElem? (i := 533) rfl
  · exact List.mem_of_getElem? (i := 705) rfl
set_option maxRecDepth 100000 in
theorem kk_all {s : State} {args : Array Value} (hts : ∀ w ∈ lw_tbl, w.before args s = true) : ∃ (D : va_G) (cA : Nat → ClassId), va_K D vwCl (tl_ cA) s := by
  have hw : ∀ w ∈ ww_, w.before args s = true := fun w h => hts w (ww_tbl w h)
  have key : ∀ ci : Nat, ∃ (cC : ClassId) (iS : Nat → Nat), ∀ q, vwCl[ci]? = some q → u_Kn s q.1 q.2.1 q.2.2 cC iS := by
    intro ci
    cases hq : vwCl[ci]? with
    | none => exact ⟨0, fun _ => 0, fun q h => by cases h⟩
    | some q =>
      obtain ⟨-, hin, -, -, ⟨hi, -⟩, -⟩ := cl_ok hq
      obtain ⟨cC, iS, h⟩ := u_known hw hin (hw _ hi)
      exact ⟨cC, iS, fun q' h' => by cases h'; exact h⟩
  obtain ⟨dC, h1⟩ := Classical.skolem.mp key
  obtain ⟨dI, h2⟩ := Classical.skolem.mp h1
  obtain ⟨c0, k0, p0, a0, b0, d0⟩ := Cond.arrayClass_spec (hw _ ac_int)
  obtain ⟨c1, k1, p1, a1, b1, d1⟩ := Cond.arrayClass_spec (hw _ ac_boolean)
  obtain ⟨c2, k2, p2, a2, b2, d2⟩ := Cond.arrayClass_spec (hw _ ac_byte)
  obtain ⟨c3, k3, p3, a3, b3, d3⟩ := Cond.arrayClass_spec (hw _ ac_long)
  obtain ⟨p4, c4, k4, e4, -, b4, d4, a4⟩ := Cond.arrayOver_spec (n := "StateShop$Machine") (hts _ (List.mem_of_getElem? (i := 108) rfl))
  refine ⟨(dC, dI), fun k => match k with
    | 0 => c0
    | 1 => c1
    | 2 => c2
    | 3 => c3
    | _ => c4, fun ci q hq => h2 ci q hq, fun k q hq => ?_⟩
  match k, hq with
  | 0, hq => cases hq; exact ⟨fun n z => ⟨fun k h => (by cases h), k0, b0, p0, d0⟩, a0⟩
  | 1, hq => cases hq; exact ⟨fun n z => ⟨fun k h => (by cases h), k1, b1, p1, d1⟩, a1⟩
  | 2, hq => cases hq; exact ⟨fun n z => ⟨fun k h => (by cases h), k2, b2, p2, d2⟩, a2⟩
  | 3, hq => cases hq; exact ⟨fun n z => ⟨fun k h => (by cases h), k3, b3, p3, d3⟩, a3⟩
  | 4, hq => cases hq; exact ⟨fun n z => ⟨fun k h => (by cases h), k4, b4, p4, d4⟩, k4, p4, b4, d4, e4, a4⟩
  | k + 5, hq => cases hq
set_option maxRecDepth 100000 in
/-- THE LAW, out of one evaluation by the small machine -/
theorem so_top {p : Program} {e : Env} {s : State} {m : MethodId} {below : List Frame} {meth : Method} {c : Code} (l : Launch) {b L : Nat} {xs : Nat → Int32} (C0 : lw_At p s m meth c b L xs) {d : Nat} {hf : hp_} (hd : d ≤ 800) (hev : ev_ xs L mp_ (d + 1) 187 0 [(0, .ref 0)] [] h0_ = some (some (.int 1), hf)) (hz : hp_z hf ≤ 600000) (hs : hp_s hf ≤ 7302250) :
    W p l e room_1 s m #[Value.ref b] below meth c s.heap [] 0 0 (lw_Z below #[Value.ref b] s) (entryFrame m ([Value.ref b] : List Value).toArray 4) := by
  obtain ⟨hx, hb, hr, hml, hown, hts, hX, hbl, hlocks, hgv⟩ := C0
  obtain ⟨D, cA, hK⟩ := kk_all hts
  have C : cx_ p s m #[Value.ref b] meth c s.heap.size b L 4 0 xs D cA 12 0 cL_law := ⟨hx, hb, hml, hown, fun w h => hts w (ww_tbl w h), hK, fun w h => va_Nw.of (by
    have hw := h
    simp only [nw_, List.mem_cons, List.not_mem_nil, or_false] at hw
    rcases hw with rfl | rfl | rfl | rfl | rfl | rfl | rfl <;> rfl) (hts w (nw_tbl w h)), va_AO.of (hts _ (List.mem_of_getElem? (i := 108) rfl)), hX, hbl, rfl, fun h9 => absurd h9 (by decide)⟩
  obtain ⟨n, hn⟩ := lm_ex (f := fun n => rn_ xs L (mp_ 187) (fun m as h => if mk_ca as ≤ (mp_ m).2.2.2 then ev_ xs L mp_ d m 0 (lv_args 0 as) [] h else none) n 0 [(0, .ref 0)] [] h0_) hev
  have hl := lv_entry ([.ref b]) (n := 4) (Nat.le_of_ble_eq_true rfl)
  rw [lg_entry_eq]
  generalize (lg_sl ([.ref b]) ++ List.replicate (4 - (lg_sl ([.ref b])).length) Slot.unset).toArray = la at hl ⊢
  have hg : gx_ p l e room_1 s m #[Value.ref b] below meth c (lw_Z below #[Value.ref b] s) s.heap.size b D cA 0 0 cL_law (some .boolean) (some (.int 1)) hf := by
    intro H locs cells slots la pc i hp hz' hs' hd' hrk
    rcases hrk with ⟨n, e1, rfl, -⟩ | ⟨n, e1, -⟩ | ⟨n, e1, -⟩ | ⟨e1, -⟩
    · refine va_forget (fun q hq => hp.2.2.2.2 q hq) ?_
      refine W.widen (k := 600000) (n := 7302250) (by omega) (by omega) ?_
      exact lw_ret hx hb hr hlocks hd'
    · cases e1
    · cases e1
    · cases e1
  have go := so_rn (R := room_1) (l := l) (e := e) (below := below) (s0 := 0) (r := (some (.int 1), hf)) (rt := some .boolean) (d := d) C (ca_all (x := 187) (by decide)) (by show d + 1 ≤ 2048; omega) (by show 100 * d + 100 ≤ 84000; omega) (by show hp_z hf ≤ 0 + 600000; omega) (by show hp_s hf ≤ 0 + 7302250; omega) (fun x as h v h' hx hq => so_met l _ _ _ _ _ _ d x as h v h' hx hq) (fun _ _ h' => pa_if (G := fun (a _ : re_) => pz_ h' a) (a' := none) (b' := none) _ (mz_ev xs L mp_ d _ _ _ _ _) (fun _ q => by cases q)) hg n 0 [(0, .ref 0)] [] h0_ hn
  exact go s.heap [] 0 0 la ⟨fun c hc => absurd rfl hc, fun k q hq => by simp [wl_, hp_z, h0_] at hq, va_S.rf⟩ rfl rfl hl
