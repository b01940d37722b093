
theorem sw_lk {pc : Nat} {y : Nat} {d : Int} {v : Int32} {α : Type} {r : α} {f : Nat → Option α} (hd : (pc : Int) + d = (y : Int)) : ∀ (ps : List (Int × Int)), (∀ q ∈ ps, 0 ≤ (pc : Int) + q.2 ∧ -2147483648 ≤ q.1 ∧ q.1 ≤ 2147483647) → mk_sw (ps.map (fun q => (q.1, ((pc : Int) + q.2).toNat))) v y f = some r → ∃ t : Nat, (pc : Int) + Op.lookupswitch.offset ps d v.toInt = (t : Int) ∧ f t = some r := by
  intro ps
  induction ps with
  | nil => exact fun _ h => ⟨y, hd, h⟩
  | cons q ps ih =>
    intro hq h
    obtain ⟨a, o⟩ := q
    obtain ⟨h1, h2, h3⟩ := hq (a, o) List.mem_cons_self
    rw [Op.lookupswitch.offset_cons]
    have p31 : (2 : Int) ^ 31 = 2147483648 := by decide
    simp only at h1 h2 h3
    have e1 : v = Int32.ofInt a ↔ a = v.toInt := by
      constructor
      · intro e
        rw [e, Int32.toInt_ofInt_of_le (by omega) (by omega)]
      · intro e
        rw [e, Int32.ofInt_toInt]
    have h : (if v = Int32.ofInt a then f ((pc : Int) + o).toNat else mk_sw (ps.map (fun q => (q.1, ((pc : Int) + q.2).toNat))) v y f) = some r := h
    by_cases hv : v = Int32.ofInt a
    · rw [if_pos hv] at h
      rw [if_pos (e1.mp hv)]
      exact ⟨_, by omega, h⟩
    · rw [if_neg hv] at h
      rw [if_neg (fun e => hv (e1.mpr e))]
      exact ih (fun q hq' => hq q (List.mem_cons_of_mem _ hq')) h
theorem sw_ca {v : Int32} {y : Nat} {α : Type} {r : α} {f : Nat → Option α} : ∀ (l : List (Int × Nat)), mk_sw l v y f = some r → (∃ q ∈ l, v = Int32.ofInt q.1 ∧ f q.2 = some r) ∨ ((∀ q ∈ l, v ≠ Int32.ofInt q.1) ∧ f y = some r) := by
  intro l
  induction l with
  | nil => exact fun h => Or.inr ⟨fun q hq => absurd hq List.not_mem_nil, h⟩
  | cons q l ih =>
    intro h
    have h : (if v = Int32.ofInt q.1 then f q.2 else mk_sw l v y f) = some r := h
    by_cases hv : v = Int32.ofInt q.1
    · rw [if_pos hv] at h
      exact Or.inl ⟨q, List.mem_cons_self, hv, h⟩
    · rw [if_neg hv] at h
      rcases ih h with ⟨q', h1, h2, h3⟩ | ⟨h1, h2⟩
      · exact Or.inl ⟨q', List.mem_cons_of_mem _ h1, h2, h3⟩
      · refine Or.inr ⟨fun q' hq' => ?_, h2⟩
        rcases List.mem_cons.mp hq' with rfl | hq'
        · exact hv
        · exact h1 q' hq'
/-- what a state must satisfy at a call, and satisfies behind it -/
def pu_ (bs b L : Nat) (xs : Nat → Int32) (D : va_G) (cA : Nat → ClassId) (h : hp_) (U : State) : Prop := wf_ h ∧ U.heap.size = bs + hp_z h ∧ va_P D vwCl (wl_ bs cA h) U.heap ∧ va_K D vwCl (tl_ cA) U ∧ (∀ w ∈ nw_, va_Nw w U) ∧ va_AO "StateShop$Machine" U ∧ va_X b L xs U U.heap ∧ b < bs
/-- THE CONTRACT of method x, for one run of the small machine -/
def ms_ (l : Launch) (bs b L : Nat) (xs : Nat → Int32) (D : va_G) (cA : Nat → ClassId) (d x : Nat) (as : List Value) (h : hp_) (v : Option Value) (h' : hp_) : Prop :=
  Met l (mi_ x).1 (Jvm.Cond.code (mi_ x).1 (mi_ x).2.1 (mi_ x).2.2.1 (mi_ x).2.2.2 :: ww_) ⟨d, hp_z h' - hp_z h, hp_s h' - hp_s h, 100 * d⟩ (va_Pc (as.map (wv_ bs b)) (pu_ bs b L xs D cA h)) (fun _ st oc t => oc = .returned (v.map (wv_ bs b)) ∧ pu_ bs b L xs D cA h' t ∧ va_F (rg_ bs) st t) (hp_z h' - hp_z h) (hp_s h' - hp_s h) (rg_ bs)
theorem nw_warm {s U : State} (hW : s.WarmedH U.vm) (hs : ∀ w ∈ nw_, va_Nw w s) : ∀ w ∈ nw_, va_Nw w U := by
  intro w hw
  have h := hs w hw
  simp only [nw_, List.mem_cons, List.not_mem_nil, or_false] at hw
  rcases hw with rfl | rfl | rfl | rfl | rfl | rfl | rfl <;> exact va_Nw.warmM hW h
theorem nw_same {s U : State} (hv : s.vm = U.vm) (hs : ∀ w ∈ nw_, va_Nw w s) : ∀ w ∈ nw_, va_Nw w U := by
  intro w hw
  have h := hs w hw
  simp only [nw_, List.mem_cons, List.not_mem_nil, or_false] at hw
  rcases hw with rfl | rfl | rfl | rfl | rfl | rfl | rfl <;> exact va_Nw.same rfl hv h
theorem xx_moved {b L : Nat} {xs : Nat → Int32} {s U : State} {H H' : Heap} (hvm : s.vm.Alike U.vm) (hc : H'[b]? = H[b]?) (h : va_X b L xs s H) : va_X b L xs U H' := by
  obtain ⟨scr, h1, h2, h3, h4, h5⟩ := h
  exact ⟨scr, hc.trans h1, State.isArrayOf_alike hvm h2, h3, h4, h5⟩
theorem pu_blind (bs b L : Nat) (xs : Nat → Int32) (D : va_G) (cA : Nat → ClassId) (h : hp_) (av : List Value) : FrameBlind (va_Pc av (pu_ bs b L xs D cA h)) := by
  intro a U g mk q
  obtain ⟨q0, q1, q2, q3, q4, q5, q6, q7, q8⟩ := q
  exact ⟨q0, q1, q2, q3, va_K.moved (u := U) (U := U.calling g mk a) (Vm.Alike.refl U.vm) q4, nw_same (s := U) (U := U.calling g mk a) rfl q5, va_AO.moved (u := U) (U := U.calling g mk a) (Vm.Alike.refl U.vm) q6, xx_moved (s := U) (U := U.calling g mk a) (Vm.Alike.refl U.vm) rfl q7, q8⟩
section SC
variable {p : Program} {l : Launch} {e : Env} {R : Room} {s : State} {m : MethodId} {args : Array Value} {below : List Frame} {meth : Method} {c : Code} {Q : State → Prop}
variable {bs b L nL z0 s0 : Nat} {xs : Nat → Int32} {D : va_G} {cA : Nat → ClassId} {o kd : Nat} {cc : ByteArray} {rt : Option FieldType}
variable {pc ln x y z : Nat} {w : Int} {i : Instr} {ls : lo_} {st : List Value} {h h' : hp_} {a : Nat}
theorem so_31 (C : cx_ p s m args meth c bs b L nL z0 xs D cA o kd cc) {sw : Nat → List (Int × Nat)} (hd : decode cc pc = .ok (i, ln)) (hc : ch_31 sw pc i x y = true) {v : Int32} {α : Type} {r : α} {f : Nat → Option α} (hr : mk_sw (sw x) v y f = some r) (hk : ∀ t, f t = some r → go_ p l e R s m args below meth c Q bs b nL D cA z0 s0 t ls st h) : go_ p l e R s m args below meth c Q bs b nL D cA z0 s0 pc ls (.int v :: st) h := by
  obtain ⟨hx, hb, hml, hown, hts, -⟩ := C
  intro H locs cells slots la hp hz hs hl
  unfold ch_31 at hc
  split at hc
  · rename_i d lo hi offs
    simp only [Bool.and_eq_true, beq_iff_eq, decide_eq_true_iff, List.all_eq_true] at hc
    obtain ⟨hy, hlo, hhi, hn, hsw, hof⟩ := hc
    rw [hsw] at hr
    have p31 : (2 : Int) ^ 31 = 2147483648 := by decide
    rcases sw_ca _ hr with ⟨q, hq, hv, hf⟩ | ⟨hno, hf⟩
    · obtain ⟨j, hj, rfl⟩ := List.mem_map.mp hq
      have hj := List.mem_range.mp hj
      have e1 : v.toInt = lo + (j : Int) := by
        rw [hv]
        exact Int32.toInt_ofInt_of_le (by simp only; omega) (by simp only; omega)
      have e2 : offs[j]? = some (offs.getD j 0) := by
        rw [Array.getElem?_eq_getElem hj]
        simp [Array.getD, hj]
      have h0 := hof (offs.getD j 0) (by
        rw [Array.getElem?_eq_getElem hj] at e2
        rw [← Option.some.inj e2]
        exact Array.getElem_mem_toList hj)
      refine lv_tableIn (off := offs.getD j 0) (tgt := ((pc : Int) + offs.getD j 0).toNat) hx hb hd (by omega) (by omega) ?_ (by omega) (hk _ hf H locs cells slots la hp hz hs hl)
      rw [show (v.toInt - lo).toNat = j by omega]
      exact e2
    · refine lv_tableOut hx hb hd ?_ hy (hk _ hf H locs cells slots la hp hz hs hl)
      rcases Int.lt_or_le v.toInt lo with q1 | q1
      · exact Or.inl q1
      · rcases Int.lt_or_le hi v.toInt with q2 | q2
        · exact Or.inr q2
        · have hj : (v.toInt - lo).toNat < offs.size := by omega
          have := hno (lo + ((v.toInt - lo).toNat : Int), _) (List.mem_map.mpr ⟨(v.toInt - lo).toNat, List.mem_range.mpr hj, rfl⟩)
          refine absurd ?_ this
          show v = Int32.ofInt (lo + ((v.toInt - lo).toNat : Int))
          rw [show lo + ((v.toInt - lo).toNat : Int) = v.toInt by omega, Int32.ofInt_toInt]
  · rename_i d ps
    simp only [Bool.and_eq_true, beq_iff_eq] at hc
    obtain ⟨hy, hps, hsw, hof⟩ := hc
    rw [hsw] at hr
    obtain ⟨t, ht, hf⟩ := sw_lk hy ps.toList (fun q hq => by
      have h9 := List.all_eq_true.mp hof q hq
      simp only [Bool.and_eq_true, decide_eq_true_iff] at h9
      exact ⟨h9.1, h9.2.1, h9.2.2⟩) hr
    exact lv_lookup hx hb hd hps rfl ht (hk _ hf H locs cells slots la hp hz hs hl)
  · cases hc
theorem pu_at (C : cx_ p s m args meth c bs b L nL z0 xs D cA o kd cc) {H : Heap} {locs : List Loc} (hp : pt_ s bs D cA h H locs) (hsz : H.size = bs + hp_z h) {U : State} (hU : U.heap = H) (hW : s.WarmedH U.vm) : pu_ bs b L xs D cA h U := by
  obtain ⟨hx, hb, hml, hown, hts, hK, hnw, hAO, hX, hbb, hs0, -⟩ := C
  refine ⟨hp.1, by rw [hU]; exact hsz, by rw [hU]; exact hp.2.1, va_K.moved hW.alike hK, nw_warm hW hnw, va_AO.moved hW.alike hAO, xx_moved hW.alike ?_ hX, hbb⟩
  rw [hU]
  exact hp.2.2.2.1 b (by omega) (Nat.not_le.mpr hbb)
theorem so_cg {H : Heap} {locs : List Loc} {cells slots mc ms : Nat} {la : Array Slot} {rest st0 : List Value} {v : Option Value} (hr : va_Run p l e R s m args below meth c H locs cells slots mc ms (F0 m pc la st0) rest (fun st oc t => oc = .returned (v.map (wv_ bs b)) ∧ pu_ bs b L xs D cA h' t ∧ va_F (rg_ bs) st t) (rg_ bs)) (hp : pt_ s bs D cA h H locs)
    (kk : ∀ (H1 : Heap) (locs1 : List Loc), pt_ s bs D cA h' H1 locs1 → W p l e R s m args below meth c H1 locs1 (cells + mc) (slots + ms) Q (F0 m (pc + 3) la ((v.map (wv_ bs b)).toList ++ rest))) : W p l e R s m args below meth c H locs cells slots Q (F0 m pc la st0) := by
  intro T hT X
  obtain ⟨v', st₀, t, T', Lc, h0, X', hL, e1, e2, ⟨hv, hpu, hz, hk⟩, st⟩ := hr T hT X
  cases hv
  rw [h0] at hz hk
  obtain ⟨s1, s2, s3⟩ := hp.2.2
  have hp' : pt_ s bs D cA h' T'.heap (locs ++ Lc) := by
    refine ⟨hpu.1, by rw [e1]; exact hpu.2.2.1, by rw [e1]; exact Nat.le_trans s1 hz, fun q h1 h2 => ?_, fun q hq => ?_⟩
    · rw [e1, hk q (Nat.lt_of_lt_of_le h1 s1) h2]
      exact s2 q h1 h2
    · rcases List.mem_append.mp hq with h | h
      · exact s3 q h
      · exact hL q h
  obtain ⟨t2, a1, b1⟩ := kk T'.heap (locs ++ Lc) hp' T' rfl X'
  exact ⟨t2, st t2 a1, b1⟩
theorem so_24 (C : cx_ p s m args meth c bs b L nL z0 xs D cA o kd cc) {d : Nat} (hd : decode cc pc = .ok (i, ln)) (hc : ch_24 o i ln x y z w = true) (hRf : d + 1 ≤ R.frames) (hRl : 100 * d + 100 ≤ R.locals) (hca : mk_ca (st.drop y) ≤ 8) (hly : y ≤ st.length) (hrc : mk_rc w h (st.take y).reverse none (some ()) = some ())
    {v : Option Value} (hM : x < 187 → ms_ l bs b L xs D cA d x (st.take y).reverse h v h') (hlz : lz_ h h') (hRz : hp_z h' ≤ z0 + R.cells) (hRs : hp_s h' ≤ s0 + R.slots) {st' : List Value} (hrv : mk_rv z v (st.drop y) none (fun u => some u) = some st') (hk : go_ p l e R s m args below meth c Q bs b nL D cA z0 s0 (pc + ln) ls st' h') : go_ p l e R s m args below meth c Q bs b nL D cA z0 s0 pc ls st h := by
  have C0 := C
  obtain ⟨hx, hb, hml, hown, hts, hK, hnw, hAO, hX, hbb, hs0, -⟩ := C
  intro H locs cells slots la hp hz hs hl
  refine so_sz hs0 hp hz fun hsz => ?_
  unfold ch_24 at hc
  rw [Bool.and_eq_true, Bool.and_eq_true, Bool.and_eq_true, beq_iff_eq, decide_eq_true_iff] at hc
  obtain ⟨rfl, hxn, hrz, hc⟩ := hc
  have hM := hM hxn
  obtain ⟨f1, f2, f3, f4, f5, f6, f7, f8, f9, hpn⟩ := mf_all hxn
  have hyc : yc_ x = (mi_ x).1 := yc_eq hxn
  have hG : GoodIn ww_ (Jvm.Cond.code (mi_ x).1 (mi_ x).2.1 (mi_ x).2.2.1 (mi_ x).2.2.2 :: ww_) := by
    intro w hw
    rcases List.mem_cons.mp hw with rfl | hw
    · exact ww_good _ f1
    · exact ww_good _ hw
  have hst : st.map (wv_ bs b) = (((st.take y).reverse).map (wv_ bs b)).reverse ++ (st.drop y).map (wv_ bs b) := by
    rw [← List.map_reverse, List.reverse_reverse, ← List.map_append, List.take_append_drop]
  have hlen : ((st.take y).reverse).length = y := by
    rw [List.length_reverse, List.length_take]; omega
  have hwt : 2 * (F0 m pc la (st.map (wv_ bs b))).monitorRoom + (((st.drop y).map (wv_ bs b)).map fun v => v.category).sum ≤ 8 := by
    rw [wv_ca]
    show 2 * 0 + _ ≤ 8
    omega
  have hcs : cells + (hp_z h' - hp_z h) ≤ R.cells ∧ slots + (hp_s h' - hp_s h) ≤ R.slots := by
    obtain ⟨z1, z2⟩ := hlz
    constructor <;> omega
  have hst' : (v.map (wv_ bs b)).toList ++ (st.drop y).map (wv_ bs b) = st'.map (wv_ bs b) := by
    unfold mk_rv at hrv
    split at hrv
    · cases v with
      | none => cases hrv; rfl
      | some u => cases hrv
    · cases v with
      | none => cases hrv
      | some u => cases u <;> first | (cases hrv; done) | (cases hrv; rfl)
    · cases v with
      | none => cases hrv
      | some u => cases u <;> first | (cases hrv; done) | (cases hrv; rfl)
    · cases v with
      | none => cases hrv
      | some u => cases u <;> first | (cases hrv; done) | (cases hrv; rfl)
    · cases hrv
  have kk : ∀ (H1 : Heap) (locs1 : List Loc), pt_ s bs D cA h' H1 locs1 → W p l e R s m args below meth c H1 locs1 (cells + (hp_z h' - hp_z h)) (slots + (hp_s h' - hp_s h)) Q (F0 m (pc + 3) la ((v.map (wv_ bs b)).toList ++ (st.drop y).map (wv_ bs b))) := by
    intro H1 locs1 hp1
    rw [hst']
    obtain ⟨z1, z2⟩ := hlz
    exact hk H1 locs1 _ _ la hp1 (by omega) (by omega) hl
  have hRoom : d + 1 ≤ R.frames ∧ 8 + ((mi_ x).2.2.1 + 11) + 100 * d ≤ R.locals := ⟨hRf, by omega⟩
  have S : CallFix p m c cc nL s args ww_ (cn_ o) := ⟨hx, hb, hml, hown, hts⟩
  have hpu : ∀ U : State, U.heap = H → s.WarmedH U.vm → va_Pc (((st.take y).reverse).map (wv_ bs b)) (pu_ bs b L xs D cA h) (((st.take y).reverse).map (wv_ bs b)).toArray U := fun U hU hW => ⟨rfl, pu_at C0 hp hsz hU hW⟩
  split at hc
  · rename_i idx
    simp only [Bool.and_eq_true, beq_iff_eq, decide_eq_true_iff, Bool.or_eq_true] at hc
    obtain ⟨hk1, hnp, hy1, hw10, ⟨hwo, hmo⟩, hlk⟩ := hc
    rw [hnp] at hpn
    obtain ⟨q, hq'⟩ := vw_ex (ci := w.toNat - 10) (by omega)
    have hq : q.1 = (mi_ x).1.cls := by
      rw [(cl_ok hq').2.2.2.2.2.2.2, hwo]
      exact f9.symm
    · unfold mk_rc at hrc
      rw [if_neg (by omega)] at hrc
      obtain ⟨r0, as', eas, hrc⟩ := iv_p hrc
      obtain ⟨c0, rfl, hrc⟩ := iv_r hrc
      obtain ⟨ht, -⟩ := iv_t hrc
      obtain ⟨c', rfl, hc'⟩ := wf_c hp.1 ht (by omega)
      have he := wl_at (bs := bs) (cA := cA) hc'
      rw [ce_obj ht (by omega)] at he
      rw [eas] at hM hpu hst hlen
      have hn : (as'.map (wv_ bs b)).length = y - 1 := by
        rw [List.length_map]
        simp only [List.length_cons] at hlen
        omega
      have hstk : st.map (wv_ bs b) = (as'.map (wv_ bs b)).reverse ++ .ref (bs + c') :: (st.drop y).map (wv_ bs b) := by
        rw [hst, List.map_cons, List.reverse_cons, List.append_assoc]
        rfl
      have hPre : PreV s H (mi_ x).1.cls (bs + c') (va_Pc ((.ref (c' + 1) :: as').map (wv_ bs b)) (pu_ bs b L xs D cA h)) (as'.map (wv_ bs b)) := ⟨pu_blind bs b L xs D cA h _, by rw [← hq]; exact va_recv hK hp.2.1 hq' he, hpu⟩
      rcases hlk with hlk | hlk
      · exact so_cg (va_runV S hM ⟨callB_of (y - 1) hts hG rfl rfl rfl (hts _ f2) (by rw [← hyc]; exact hts _ (wa_ml_in hlk)) ⟨f5.1, f5.2, hpn⟩ hRoom, hts _ (f7 hk1).1, hts _ (f7 hk1).2⟩ hPre rfl hn hl.1 hstk hwt hd hcs) hp kk
      · obtain ⟨host, hh⟩ := wa_nl_in hlk
        exact so_cg (va_runVN S hM ⟨va_cnB (y - 1) hts hG rfl rfl rfl (by rw [← hyc]; exact hnw _ hh) (hts _ f2) ⟨f5.1, f5.2, hpn⟩ hRoom, hts _ (f7 hk1).1, hts _ (f7 hk1).2⟩ hPre rfl hn hl.1 hstk hwt hd hcs) hp kk
  · rename_i idx
    simp only [Bool.and_eq_true, beq_iff_eq, decide_eq_true_iff, Bool.or_eq_true] at hc
    obtain ⟨hk1, hnp, hy1, hw10, hlk⟩ := hc
    rw [hnp] at hpn
    have hrn : (mi_ x).2.2.2 = none := (f8 hk1).2.2
    unfold ms_ at hM
    unfold mk_rc at hrc
    rw [if_neg (by omega)] at hrc
    obtain ⟨r0, as', eas, hrc⟩ := iv_p hrc
    obtain ⟨c0, rfl, hrc⟩ := iv_r hrc
    obtain ⟨ht, -⟩ := iv_t hrc
    obtain ⟨c', rfl, hc'⟩ := wf_c hp.1 ht (by omega)
    rw [eas] at hM hpu hst hlen
    rw [hrn] at hM hG
    have hn : (as'.map (wv_ bs b)).length = y - 1 := by
      rw [List.length_map]
      simp only [List.length_cons] at hlen
      omega
    have hstk : st.map (wv_ bs b) = (as'.map (wv_ bs b)).reverse ++ .ref (bs + c') :: (st.drop y).map (wv_ bs b) := by
      rw [hst, List.map_cons, List.reverse_cons, List.append_assoc]
      rfl
    have hPre : PreS s H (va_Pc ((.ref (c' + 1) :: as').map (wv_ bs b)) (pu_ bs b L xs D cA h)) (.ref (bs + c') :: as'.map (wv_ bs b)) := ⟨pu_blind bs b L xs D cA h _, hpu⟩
    rcases hlk with hlk | hlk
    · exact so_cg (va_runI S hM (cwI (y - 1) hts hG rfl rfl rfl (hts _ f2) (by rw [← hyc]; exact hts _ (wa_ml_in hlk)) (hts _ (f8 hk1).1) (f8 hk1).2.1 ⟨f5.1, f5.2, hpn⟩ hRoom) hPre rfl hn hl.1 hstk hwt hd hcs) hp kk
    · obtain ⟨host, hh⟩ := wa_nl_in hlk
      exact so_cg (va_runIN S hM ⟨va_cnB (y - 1) hts hG rfl rfl rfl (by rw [← hyc]; exact hnw _ hh) (hts _ f2) ⟨f5.1, f5.2, hpn⟩ hRoom, (f8 hk1).2.1, hts _ (f8 hk1).1⟩ hPre rfl hn hl.1 hstk hwt hd hcs) hp kk
  · rename_i idx
    simp only [Bool.and_eq_true, beq_iff_eq, decide_eq_true_iff, Bool.or_eq_true] at hc
    obtain ⟨hk1, hnp, hw1, hlk⟩ := hc
    rw [hnp] at hpn
    have hn : (((st.take y).reverse).map (wv_ bs b)).length = y := by rw [List.length_map]; exact hlen
    have hPre : PreS s H (va_Pc (((st.take y).reverse).map (wv_ bs b)) (pu_ bs b L xs D cA h)) (((st.take y).reverse).map (wv_ bs b)) := ⟨pu_blind bs b L xs D cA h _, hpu⟩
    rcases hlk with hlk | hlk
    · exact so_cg (va_runS S hM ⟨callB_of y hts hG rfl rfl rfl (hts _ f2) (by rw [← hyc]; exact hts _ (wa_ml_in hlk)) ⟨f5.1, f5.2, hpn⟩ hRoom, hts _ (f6 hk1)⟩ hPre rfl hn hl.1 hst hwt hd hcs) hp kk
    · obtain ⟨host, hh⟩ := wa_nl_in hlk
      exact so_cg (va_runSN S hM ⟨va_cnB y hts hG rfl rfl rfl (by rw [← hyc]; exact hnw _ hh) (hts _ f2) ⟨f5.1, f5.2, hpn⟩ hRoom, hts _ (f6 hk1), trivial⟩ hPre rfl hn hl.1 hst hwt hd hcs) hp kk
  · cases hc
end SC
