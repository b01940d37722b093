
/-- how a method may end -/
def rk_ (rt : Option FieldType) (i : Instr) (v : Option Value) : Prop :=
  (∃ n, v = some (.int n) ∧ i = .ireturn ∧ (rt = some .int ∨ (rt = some .boolean ∧ (n = 0 ∨ n = 1)))) ∨ (∃ n, v = some (.long n) ∧ i = .lreturn ∧ rt = some .long) ∨ (∃ n, v = some (.ref n) ∧ i = .areturn ∧ ∃ nm, rt = some (.object nm)) ∨ (v = none ∧ i = .return_ ∧ rt = none)
def gx_ (p : Program) (l : Launch) (e : Env) (R : Room) (s : State) (m : MethodId) (args : Array Value) (below : List Frame) (meth : Method) (c : Code) (Q : State → Prop) (bs b : Nat) (D : va_G) (cA : Nat → ClassId) (z0 s0 : Nat) (cc : ByteArray) (rt : Option FieldType) (v : Option Value) (h : hp_) : Prop :=
  ∀ (H : Heap) (locs : List Loc) (cells slots : Nat) (la : Array Slot) (pc : Nat) (i : Instr), pt_ s bs D cA h H locs → cells + z0 = hp_z h → slots + s0 = hp_s h → decode cc pc = .ok (i, 1) → rk_ rt i v → W p l e R s m args below meth c H locs cells slots Q (F0 m pc la (v.toList.map (wv_ bs b)))
section SA
variable {p : Program} {l : Launch} {e : Env} {R : Room} {s : State} {m : MethodId} {args : Array Value} {below : List Frame} {meth : Method} {c : Code} {Q : State → Prop}
variable {bs b L nL z0 s0 : Nat} {xs : Nat → Int32} {D : va_G} {cA : Nat → ClassId} {o kd : Nat} {cc : ByteArray} {rt : Option FieldType}
variable {pc ln x y z : Nat} {w : Int} {i : Instr} {ls : lo_} {st : List Value} {h h' : hp_} {a : Nat}
theorem pt_push {H H1 : Heap} {locs : List Loc} {t n : Nat} (hs0 : s.heap.size = bs + z0) (hp : pt_ s bs D cA h H locs) (hsz : H.size = bs + hp_z h) (z1 : H1.size = bs + hp_z h + 1) (o1 : ∀ q, q < bs + hp_z h → H1[q]? = H[q]?) (hc : va_at D vwCl (bs + hp_z h, ce_ bs cA (hp_al h t n) (hp_z h + 1)) H1) : pt_ s bs D cA (hp_al h t n) H1 locs := by
  refine ⟨wf_al hp.1, ?_, ?_⟩
  · rw [← wl_push (h := h) (h' := hp_al h t n) rfl (fun d hd => ce_al hd)]
    refine va_P.app (hp.2.1.kept fun k q hq => o1 q.1 ?_) (fun k q hq => ?_)
    · obtain ⟨hk, rfl⟩ := wl_inv hq
      exact Nat.add_lt_add_left hk bs
    · have hk : k < 1 := (List.getElem?_eq_some_iff.mp hq).1
      rw [show k = 0 by omega] at hq
      cases hq
      exact hc
  · obtain ⟨s1, s2, s3⟩ := hp.2.2
    exact ⟨by omega, fun q hq hA => (o1 q (by omega)).trans (s2 q hq hA), s3⟩
theorem so_21 (C : cx_ p s m args meth c bs b L nL z0 xs D cA o kd cc) (hd : decode cc pc = .ok (i, ln)) (hc : ch_21 o i ln x y = true) (hRz : hp_z h + 1 ≤ z0 + R.cells) (hRs : hp_s h + y ≤ s0 + R.slots) (hk : go_ p l e R s m args below meth c Q bs b nL D cA z0 s0 (pc + ln) ls (.ref (hp_z h + 1) :: st) (hp_al h x y)) : go_ p l e R s m args below meth c Q bs b nL D cA z0 s0 pc ls st h := by
  obtain ⟨hx, hb, hml, hown, hts, hK, -, -, -, -, hs0, -⟩ := C
  intro H locs cells slots la hp hz hs hl
  refine so_sz hs0 hp hz fun hsz => ?_
  unfold ch_21 at hc
  rw [Bool.and_eq_true, beq_iff_eq] at hc
  obtain ⟨rfl, hc⟩ := hc
  split at hc
  · cases hq : vwCl[x - 10]? with
    | none => rw [hq] at hc; cases hc
    | some q =>
      rw [hq] at hc
      simp only [Bool.and_eq_true, beq_iff_eq, decide_eq_true_iff] at hc
      obtain ⟨h10, rfl, hw⟩ := hc
      obtain ⟨hn, hin, hty, -, ⟨hi1, hi2⟩, hdv, -, hqc⟩ := cl_ok hq
      have hKn := hK.1 (x - 10) q hq
      refine W.newcK (C := q.1) (n := q.2.2) hx hb hown (by rw [hqc]; exact hts _ (wa_kl_in hw)) (hts _ hi1) (hts _ hi2) rfl hd (by omega) (by omega) hKn.2.1 hsz fun H1 kC hkC e1 z1 o1 => ?_
      refine hk H1 locs (cells + 1) (slots + q.2.2) la (pt_push hs0 hp hsz z1 o1 ?_) (by show cells + 1 + z0 = hp_z h + 1; omega) (by show slots + q.2.2 + s0 = hp_s h + q.2.2; omega) hl
      have ht : hp_T (hp_al h x q.2.2) (hp_z h + 1) = x := by
        show (va_up h.1 (hp_z h + 1) (x, q.2.2) (hp_z h + 1)).1 = x
        rw [up_eq]
      rw [ce_obj ht h10]
      refine ⟨q, hq, (u_born (tyc_ (x - 10)) hts hin hKn hkC e1 hty).to fun j hj => ?_⟩
      rw [hdv j hj]
      unfold vp_V
      rw [List.getD_eq_getElem?_getD, fs_at (by rw [hn]; exact hj), Option.getD_some]
      unfold fv_
      by_cases hf : fk_ (x - 10) j = 2
      · rw [if_pos hf, if_pos hf]
        show _ = va_rf (rv_ bs (va_up h.2.1 (hp_z h + 1) (fun _ => 0) (hp_z h + 1) j))
        rw [up_eq]; rfl
      · rw [if_neg hf, if_neg hf]
        show _ = Value.int (va_up h.2.2.1 (hp_z h + 1) (fun _ => 0) (hp_z h + 1) j)
        rw [up_eq]
  · cases hc
theorem al_T (h : hp_) (t n : Nat) : hp_T (hp_al h t n) (hp_z h + 1) = t := by
  show (va_up h.1 (hp_z h + 1) (t, n) (hp_z h + 1)).1 = t
  rw [up_eq]
theorem al_N (h : hp_) (t n : Nat) : hp_N (hp_al h t n) (hp_z h + 1) = n := by
  show (va_up h.1 (hp_z h + 1) (t, n) (hp_z h + 1)).2 = n
  rw [up_eq]
theorem al_I (h : hp_) (t n : Nat) : hp_I (hp_al h t n) (hp_z h + 1) = fun _ => 0 := by
  show va_up h.2.2.1 (hp_z h + 1) (fun _ => 0) (hp_z h + 1) = _
  rw [up_eq]
theorem al_L (h : hp_) (t n : Nat) : hp_L (hp_al h t n) (hp_z h + 1) = fun _ => 0 := by
  show va_up h.2.2.2.1 (hp_z h + 1) (fun _ => 0) (hp_z h + 1) = _
  rw [up_eq]
theorem al_R (h : hp_) (t n : Nat) : hp_R (hp_al h t n) (hp_z h + 1) = fun _ => 0 := by
  show va_up h.2.1 (hp_z h + 1) (fun _ => 0) (hp_z h + 1) = _
  rw [up_eq]
theorem so_22 (C : cx_ p s m args meth c bs b L nL z0 xs D cA o kd cc) (hd : decode cc pc = .ok (i, ln)) (hc : ch_22 o i ln x = true) {n : Int32} (hn : ¬ (n < 0 ∨ 60000000 < n.toNatClampNeg)) (hRz : hp_z h + 1 ≤ z0 + R.cells) (hRs : hp_s h + n.toNatClampNeg ≤ s0 + R.slots) (hk : go_ p l e R s m args below meth c Q bs b nL D cA z0 s0 (pc + ln) ls (.ref (hp_z h + 1) :: st) (hp_al h x n.toNatClampNeg)) : go_ p l e R s m args below meth c Q bs b nL D cA z0 s0 pc ls (.int n :: st) h := by
  obtain ⟨hx, hb, hml, hown, hts, hK, -, hAO, -, -, hs0, -⟩ := C
  intro H locs cells slots la hp hz hs hl
  refine so_sz hs0 hp hz fun hsz => ?_
  have hn1 : ¬ n < 0 := fun q => hn (Or.inl q)
  have hn2 : n.toNatClampNeg ≤ 60000000 := Nat.not_lt.mp fun q => hn (Or.inr q)
  unfold ch_22 at hc
  split at hc
  · simp only [Bool.and_eq_true, beq_iff_eq] at hc
    obtain ⟨rfl, rfl⟩ := hc
    refine va_newaK (atype := .int) hx hb (hts _ ac_int) rfl hd rfl hn1 rfl (by show n.toNatClampNeg * 4 ≤ _; omega) (by omega) (by omega) hsz fun H1 cX e1 z1 o1 hAr hNm => ?_
    have hcX : cX = cA 0 := Option.some.inj (hNm.symm.trans (hK.2 0 _ rfl).2)
    subst hcX
    refine hk H1 locs (cells + 1) (slots + n.toNatClampNeg) la (pt_push hs0 hp hsz z1 o1 ?_) (by show cells + 1 + z0 = hp_z h + 1; omega) (by show slots + n.toNatClampNeg + s0 = hp_s h + n.toNatClampNeg; omega) hl
    rw [ce_1 (al_T _ _ _), al_N, al_I]
    exact e1
  · simp only [Bool.and_eq_true, beq_iff_eq] at hc
    obtain ⟨rfl, rfl⟩ := hc
    refine va_newaK (atype := .boolean) hx hb (hts _ ac_boolean) rfl hd rfl hn1 rfl (by show n.toNatClampNeg * 1 ≤ _; omega) (by omega) (by omega) hsz fun H1 cX e1 z1 o1 hAr hNm => ?_
    have hcX : cX = cA 1 := Option.some.inj (hNm.symm.trans (hK.2 1 _ rfl).2)
    subst hcX
    refine hk H1 locs (cells + 1) (slots + n.toNatClampNeg) la (pt_push hs0 hp hsz z1 o1 ?_) (by show cells + 1 + z0 = hp_z h + 1; omega) (by show slots + n.toNatClampNeg + s0 = hp_s h + n.toNatClampNeg; omega) hl
    rw [ce_2 (al_T _ _ _), al_N, al_I]
    exact e1
  · simp only [Bool.and_eq_true, beq_iff_eq] at hc
    obtain ⟨rfl, rfl⟩ := hc
    refine va_newaK (atype := .byte) hx hb (hts _ ac_byte) rfl hd rfl hn1 rfl (by show n.toNatClampNeg * 1 ≤ _; omega) (by omega) (by omega) hsz fun H1 cX e1 z1 o1 hAr hNm => ?_
    have hcX : cX = cA 2 := Option.some.inj (hNm.symm.trans (hK.2 2 _ rfl).2)
    subst hcX
    refine hk H1 locs (cells + 1) (slots + n.toNatClampNeg) la (pt_push hs0 hp hsz z1 o1 ?_) (by show cells + 1 + z0 = hp_z h + 1; omega) (by show slots + n.toNatClampNeg + s0 = hp_s h + n.toNatClampNeg; omega) hl
    rw [ce_3 (al_T _ _ _), al_N, al_I]
    exact e1
  · simp only [Bool.and_eq_true, beq_iff_eq] at hc
    obtain ⟨rfl, rfl⟩ := hc
    refine va_newaK (atype := .long) hx hb (hts _ ac_long) rfl hd rfl hn1 rfl (by show n.toNatClampNeg * 8 ≤ _; omega) (by omega) (by omega) hsz fun H1 cX e1 z1 o1 hAr hNm => ?_
    have hcX : cX = cA 3 := Option.some.inj (hNm.symm.trans (hK.2 3 _ rfl).2)
    subst hcX
    refine hk H1 locs (cells + 1) (slots + n.toNatClampNeg) la (pt_push hs0 hp hsz z1 o1 ?_) (by show cells + 1 + z0 = hp_z h + 1; omega) (by show slots + n.toNatClampNeg + s0 = hp_s h + n.toNatClampNeg; omega) hl
    rw [ce_4 (al_T _ _ _), al_N, al_L]
    exact e1
  · simp only [Bool.and_eq_true, beq_iff_eq] at hc
    obtain ⟨rfl, rfl, hw⟩ := hc
    refine W.anew (C := "StateShop$Machine") hx hb hown (show (Jvm.Cond.classLink (cn_ o) _ "StateShop$Machine").before args s = true from hts _ (wa_kl_in hw)) (va_AO.use hAO) rfl hd rfl hn1 (by omega) (by omega) (by omega) fun cX kA comp f1 f2 f3 f4 => ?_
    generalize hH1 : H.push ({ cls := cX, slots := Array.replicate n.toNatClampNeg .null, vm := .none } : Cell) = H1
    have z1 : H1.size = bs + hp_z h + 1 := by rw [← hH1, Array.size_push, hsz]
    have e1 : H1[bs + hp_z h]? = some (arrV cX n.toNatClampNeg (fun _ => .null)) := by rw [← hH1, ← hsz, Array.getElem?_push_size, ← arrV_new]
    have o1 : ∀ q : Nat, q < bs + hp_z h → H1[q]? = H[q]? := fun q hq => by rw [← hH1, Array.getElem?_push, if_neg (by omega)]
    obtain ⟨kA', comp', -, -, -, g4⟩ := (hK.2 4 _ rfl).2
    have hcX : cX = cA 4 := Option.some.inj (f1.symm.trans g4)
    subst hcX
    rw [hsz]
    refine hk H1 locs (cells + 1) (slots + n.toNatClampNeg) la (pt_push hs0 hp hsz z1 o1 ?_) (by show cells + 1 + z0 = hp_z h + 1; omega) (by show slots + n.toNatClampNeg + s0 = hp_s h + n.toNatClampNeg; omega) hl
    rw [ce_5 (al_T _ _ _), al_N, al_R]
    exact e1
  · cases hc
theorem so_25 (C : cx_ p s m args meth c bs b L nL z0 xs D cA o kd cc) (hd : decode cc pc = .ok (i, ln)) (hc : ch_25 o i ln = true) (hRf : 1 ≤ R.frames) (hRl : 100 ≤ R.locals) (hca : mk_ca st ≤ 8) (hk : go_ p l e R s m args below meth c Q bs b nL D cA z0 s0 (pc + ln) ls st h) : go_ p l e R s m args below meth c Q bs b nL D cA z0 s0 pc ls (.ref a :: st) h := by
  obtain ⟨hx, hb, hml, hown, hts, -⟩ := C
  intro H locs cells slots la hp hz hs hl
  have k := hk H locs cells slots la hp hz hs hl
  unfold ch_25 at hc
  rw [Bool.and_eq_true, beq_iff_eq] at hc
  obtain ⟨rfl, hc⟩ := hc
  split at hc
  · obtain ⟨a', ea⟩ := wv_ref bs b a
    rw [List.map_cons, ea]
    refine W.objInit hx hb hown (show (Jvm.Cond.methodLink (cn_ o) _ objectInit).before args s = true from hts _ (wa_ml_in hc)) (hts _ oi_1) (hts _ oi_2) rfl (by rw [hml]; exact hl.1) rfl hd hRf ?_ k
    have := wv_ca bs b st
    show 2 * 0 + _ + 12 ≤ R.locals
    omega
  · cases hc
theorem so_28 (C : cx_ p s m args meth c bs b L nL z0 xs D cA o kd cc) (hd : decode cc pc = .ok (i, ln)) (hc : ch_28 o i ln 1002 = true) (hRf : 1 ≤ R.frames) (hRl : 100 ≤ R.locals) (hRz : hp_z h ≤ z0 + R.cells) (hRs : hp_s h ≤ s0 + R.slots) (hca : mk_ca st ≤ 8) {u v : Int32} (hk : go_ p l e R s m args below meth c Q bs b nL D cA z0 s0 (pc + ln) ls (.int (if u < v then v else u) :: st) h) : go_ p l e R s m args below meth c Q bs b nL D cA z0 s0 pc ls (.int v :: .int u :: st) h := by
  obtain ⟨hx, hb, hml, hown, hts, -⟩ := C
  intro H locs cells slots la hp hz hs hl
  have k := hk H locs cells slots la hp hz hs hl
  unfold ch_28 at hc
  rw [Bool.and_eq_true, beq_iff_eq] at hc
  obtain ⟨rfl, hc⟩ := hc
  split at hc
  · have := wv_ca bs b st
    exact va_mmax hx hb (by rw [hml]; exact hl.1.symm) hown (show (Jvm.Cond.methodLink (cn_ o) _ Lib.Math.max.name).before args s = true from hts _ (wa_ml_in hc)) (hts _ mm_max.1) (hts _ mm_max.2.1) (hts _ mm_max.2.2) hRf (by omega) (by omega) (by omega) hd k
  · cases hc
theorem so_29 (C : cx_ p s m args meth c bs b L nL z0 xs D cA o kd cc) (hd : decode cc pc = .ok (i, ln)) (hc : ch_28 o i ln 1003 = true) (hRf : 1 ≤ R.frames) (hRl : 100 ≤ R.locals) (hRz : hp_z h ≤ z0 + R.cells) (hRs : hp_s h ≤ s0 + R.slots) (hca : mk_ca st ≤ 8) {u v : Int32} (hk : go_ p l e R s m args below meth c Q bs b nL D cA z0 s0 (pc + ln) ls (.int (if v < u then v else u) :: st) h) : go_ p l e R s m args below meth c Q bs b nL D cA z0 s0 pc ls (.int v :: .int u :: st) h := by
  obtain ⟨hx, hb, hml, hown, hts, -⟩ := C
  intro H locs cells slots la hp hz hs hl
  have k := hk H locs cells slots la hp hz hs hl
  unfold ch_28 at hc
  rw [Bool.and_eq_true, beq_iff_eq] at hc
  obtain ⟨rfl, hc⟩ := hc
  split at hc
  · have := wv_ca bs b st
    exact va_mmin hx hb (by rw [hml]; exact hl.1.symm) hown (show (Jvm.Cond.methodLink (cn_ o) _ Lib.Math.min.name).before args s = true from hts _ (wa_ml_in hc)) (hts _ mm_min.1) (hts _ mm_min.2.1) (hts _ mm_min.2.2) hRf (by omega) (by omega) (by omega) hd k
  · cases hc
theorem so_26 (C : cx_ p s m args meth c bs b L nL z0 xs D cA o kd cc) (hd : decode cc pc = .ok (i, ln)) (hc : ch_26 o i ln = true) (hRf : 1 ≤ R.frames) (hRl : 100 ≤ R.locals) (hca : mk_ca st ≤ 8) {sp dp n : Int32} {a0 : Nat} (t0 : hp_T h a0 = 1) (t1 : hp_T h a = 1) (h1 : ¬ sp < 0) (h2 : ¬ dp < 0) (h3 : ¬ n < 0) (h4 : sp.toNatClampNeg + n.toNatClampNeg ≤ hp_N h a0) (h5 : dp.toNatClampNeg + n.toNatClampNeg ≤ hp_N h a) (hk : go_ p l e R s m args below meth c Q bs b nL D cA z0 s0 (pc + ln) ls st (hp_cp h a0 sp.toNatClampNeg a dp.toNatClampNeg n.toNatClampNeg)) : go_ p l e R s m args below meth c Q bs b nL D cA z0 s0 pc ls (.int n :: .int dp :: .ref a :: .int sp :: .ref a0 :: st) h := by
  obtain ⟨hx, hb, hml, hown, hts, hK, -⟩ := C
  intro H locs cells slots la hp hz hs hl
  unfold ch_26 at hc
  rw [Bool.and_eq_true, beq_iff_eq] at hc
  obtain ⟨rfl, hc⟩ := hc
  split at hc
  · obtain ⟨a', rfl, ha⟩ := wf_c hp.1 t1 (by decide)
    obtain ⟨a0', rfl, ha0⟩ := wf_c hp.1 t0 (by decide)
    have he := wl_at (bs := bs) (cA := cA) ha
    rw [ce_1 t1] at he
    have he0 := wl_at (bs := bs) (cA := cA) ha0
    rw [ce_1 t0] at he0
    have := wv_ca bs b st
    have hnw : nativeFrameWords "java/lang/System" "arraycopy" 5 ≤ 80 := by decide +kernel
    refine va_copyi hx hb (by rw [hml]; exact hl.1.symm) hown (show (Jvm.Cond.methodLink (cn_ o) _ arraycopyName).before args s = true from hts _ (wa_ml_in hc)) (hts _ ay_1) (hts _ ay_2) (hts _ ay_3) hK hp.2.1 (wl_D bs cA h) hp.2.2 a0' a' 0 0 he0 he rfl rfl rfl h1 h2 h3 h4 h5 (fun i _ => rfl) hRf (by omega) hd fun H1 locs1 hP _ hS => ?_
    refine hk H1 locs1 cells slots la ⟨hp.1, ?_, hS⟩ hz hs hl
    rw [← wl_set (h := h) (h' := hp_cp h (a0' + 1) sp.toNatClampNeg (a' + 1) dp.toNatClampNeg n.toNatClampNeg) (c := a') rfl (fun d hd => ce_cp hd), ce_1 (h := hp_cp h (a0' + 1) sp.toNatClampNeg (a' + 1) dp.toNatClampNeg n.toNatClampNeg) t1]
    show va_P D vwCl ((wl_ bs cA h).set a' (bs + a', .inl (cA 0, hp_N h (a' + 1), .inl (va_up h.2.2.1 (a' + 1) (va_cpy (h.2.2.1 (a0' + 1)) (h.2.2.1 (a' + 1)) sp.toNatClampNeg dp.toNatClampNeg n.toNatClampNeg) (a' + 1))))) H1
    rw [up_eq]
    exact hP
  · cases hc
theorem so_27 (hd : decode cc pc = .ok (i, ln)) (hc : ch_27 rt i ln x = true) {v v' : Value} (hr : mk_rt x v none (fun u => some u) = some v') (hg : gx_ p l e R s m args below meth c Q bs b D cA z0 s0 cc rt (some v') h) : go_ p l e R s m args below meth c Q bs b nL D cA z0 s0 pc ls [v] h := by
  intro H locs cells slots la hp hz hs hl
  unfold ch_27 at hc
  rw [Bool.and_eq_true, beq_iff_eq] at hc
  obtain ⟨rfl, hc⟩ := hc
  split at hc
  · rw [Bool.or_eq_true, Bool.and_eq_true, Bool.and_eq_true, beq_iff_eq, decide_eq_true_iff, beq_iff_eq, decide_eq_true_iff] at hc
    rcases hc with ⟨rfl, hrt⟩ | ⟨rfl, hrt⟩
    · obtain ⟨n, rfl, hr⟩ := iv_i hr
      cases hr
      exact hg H locs cells slots la pc _ hp hz hs hd (Or.inl ⟨n, rfl, rfl, Or.inl hrt⟩)
    · obtain ⟨n, rfl, hr⟩ := iv_i hr
      obtain ⟨hn, hr⟩ := iv_t hr
      cases hr
      exact hg H locs cells slots la pc _ hp hz hs hd (Or.inl ⟨n, rfl, rfl, Or.inr ⟨hrt, hn⟩⟩)
  · rw [Bool.and_eq_true, beq_iff_eq, decide_eq_true_iff] at hc
    obtain ⟨rfl, hrt⟩ := hc
    obtain ⟨n, rfl, hr⟩ := iv_l hr
    cases hr
    exact hg H locs cells slots la pc _ hp hz hs hd (Or.inr (Or.inl ⟨n, rfl, rfl, hrt⟩))
  · rw [Bool.and_eq_true, beq_iff_eq] at hc
    obtain ⟨rfl, hrt⟩ := hc
    obtain ⟨n, rfl, hr⟩ := iv_r hr
    obtain ⟨hn, hr⟩ := iv_f hr
    cases hr
    split at hrt
    · exact hg H locs cells slots la pc _ hp hz hs hd (Or.inr (Or.inr (Or.inl ⟨n, rfl, rfl, _, rfl⟩)))
    · cases hrt
  · cases hc
theorem so_30 (hd : decode cc pc = .ok (i, ln)) (hc : ch_30 rt i ln = true) (hg : gx_ p l e R s m args below meth c Q bs b D cA z0 s0 cc rt none h) : go_ p l e R s m args below meth c Q bs b nL D cA z0 s0 pc ls [] h := by
  intro H locs cells slots la hp hz hs hl
  simp only [ch_30, Bool.and_eq_true, beq_iff_eq, decide_eq_true_iff] at hc
  obtain ⟨rfl, rfl, hrt⟩ := hc
  exact hg H locs cells slots la pc _ hp hz hs hd (Or.inr (Or.inr (Or.inr ⟨rfl, rfl, hrt⟩)))
end SA
