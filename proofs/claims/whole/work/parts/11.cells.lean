
theorem cl_ok {ci : Nat} {q : vw_C} (hq : vwCl[ci]? = some q) : nf_ ci = q.2.2 ∧ (∀ w ∈ u_ws q.1 q.2.1 q.2.2, w ∈ ww_) ∧ (∀ k, k < q.2.2 → parseFieldDescriptor (q.2.1 k).2.2.1 = some (tyc_ ci k)) ∧ (∀ a, a < q.2.2 → ∀ b, b < q.2.2 → a ≠ b → (q.2.1 a).2.1 ≠ (q.2.1 b).2.1) ∧ (Jvm.Cond.instantiable q.1 q.2.2 ∈ ww_ ∧ Jvm.Cond.initialized q.1 ∈ ww_) ∧ (∀ j, j < q.2.2 → defaultValue (tyc_ ci j) = if fk_ ci j = 2 then .null else .int 0) ∧ (∀ j, j < q.2.2 → (q.2.1 j).1 = cn_ ci) ∧ q.1 = cn_ ci := by
  match ci, hq with
  | 0, hq => cases hq; exact ⟨rfl, wc_0, tyX0_ok, nmX0, ik_0, by decide +kernel, dc_0, rfl⟩
  | 1, hq => cases hq; exact ⟨rfl, wc_1, tyX1_ok, nmX1, ik_1, by decide +kernel, dc_1, rfl⟩
  | 2, hq => cases hq; exact ⟨rfl, wc_2, tyX2_ok, nmX2, ik_2, by decide +kernel, dc_2, rfl⟩
  | 3, hq => cases hq; exact ⟨rfl, wc_3, tyX3_ok, nmX3, ik_3, by decide +kernel, dc_3, rfl⟩
  | 4, hq => cases hq; exact ⟨rfl, wc_4, tyX4_ok, nmX4, ik_4, by decide +kernel, dc_4, rfl⟩
  | 5, hq => cases hq; exact ⟨rfl, wc_5, tyX5_ok, nmX5, ik_5, by decide +kernel, dc_5, rfl⟩
  | 6, hq => cases hq; exact ⟨rfl, wc_6, tyX6_ok, nmX6, ik_6, by decide +kernel, dc_6, rfl⟩
  | 7, hq => cases hq; exact ⟨rfl, wc_7, tyX7_ok, nmX7, ik_7, by decide +kernel, dc_7, rfl⟩
  | 8, hq => cases hq; exact ⟨rfl, wc_8, tyX8_ok, nmX8, ik_8, by decide +kernel, dc_8, rfl⟩
  | 9, hq => cases hq; exact ⟨rfl, wc_9, tyX9_ok, nmX9, ik_9, by decide +kernel, dc_9, rfl⟩
  | ci + 10, hq => cases hq
theorem ce_obj {bs : Nat} {cA : Nat → ClassId} {h : hp_} {c x : Nat} (ht : hp_T h c = x) (hx : 10 ≤ x) : ce_ bs cA h c = .inr (x - 10, fs_ bs h (x - 10) c) := by
  unfold ce_
  rw [ht]
  match x, hx with
  | n + 10, _ => rfl
theorem ce_1 {bs : Nat} {cA : Nat → ClassId} {h : hp_} {c : Nat} (ht : hp_T h c = 1) : ce_ bs cA h c = .inl (cA 0, hp_N h c, .inl (hp_I h c)) := by unfold ce_; rw [ht]; rfl
theorem ce_2 {bs : Nat} {cA : Nat → ClassId} {h : hp_} {c : Nat} (ht : hp_T h c = 2) : ce_ bs cA h c = .inl (cA 1, hp_N h c, .inl (hp_I h c)) := by unfold ce_; rw [ht]; rfl
theorem ce_3 {bs : Nat} {cA : Nat → ClassId} {h : hp_} {c : Nat} (ht : hp_T h c = 3) : ce_ bs cA h c = .inl (cA 2, hp_N h c, .inl (hp_I h c)) := by unfold ce_; rw [ht]; rfl
theorem ce_4 {bs : Nat} {cA : Nat → ClassId} {h : hp_} {c : Nat} (ht : hp_T h c = 4) : ce_ bs cA h c = .inl (cA 3, hp_N h c, .inr (.inl (hp_L h c))) := by unfold ce_; rw [ht]; rfl
theorem ce_5 {bs : Nat} {cA : Nat → ClassId} {h : hp_} {c : Nat} (ht : hp_T h c = 5) : ce_ bs cA h c = .inl (cA 4, hp_N h c, .inr (.inr (.inr (.inr (fun i => rv_ bs (hp_R h c i)))))) := by unfold ce_; rw [ht]; rfl
theorem fs_at {bs : Nat} {h : hp_} {ci c k : Nat} (hk : k < nf_ ci) : (fs_ bs h ci c)[k]? = some (fv_ bs h ci c k) := by
  unfold fs_
  rw [List.getElem?_map, List.getElem?_range hk]
  rfl
theorem fs_len (bs : Nat) (h : hp_) (ci c : Nat) : (fs_ bs h ci c).length = nf_ ci := by
  unfold fs_
  rw [List.length_map, List.length_range]
theorem fs_put {bs : Nat} {h h' : hp_} {ci c k : Nat} {v : Value} (hv : fv_ bs h' ci c k = v) (ho : ∀ j, j ≠ k → fv_ bs h' ci c j = fv_ bs h ci c j) : (fs_ bs h ci c).set k v = fs_ bs h' ci c := by
  apply List.ext_getElem?
  intro j
  by_cases hj : j < nf_ ci
  · rw [fs_at hj]
    by_cases e : j = k
    · subst e
      rw [List.getElem?_set_self (by rw [fs_len]; exact hj), hv]
    · rw [List.getElem?_set_ne (fun q => e q.symm), fs_at hj, ho j e]
  · rw [List.getElem?_eq_none (by rw [List.length_set, fs_len]; omega), List.getElem?_eq_none (by rw [fs_len]; omega)]
theorem wf_c {h : hp_} (hw : wf_ h) {c x : Nat} (ht : hp_T h c = x) (hx : x ≠ 0) : ∃ c', c = c' + 1 ∧ c' < hp_z h := by
  obtain ⟨h1, h2⟩ := hw c (by rw [ht]; exact hx)
  exact ⟨c - 1, by omega, by omega⟩
theorem na_bool {n : Int32} (h : n = 0 ∨ n = 1) : narrow .boolean (.int n) = .int n ∧ fits .boolean (.int n) = true := by
  rcases h with rfl | rfl <;> exact ⟨rfl, rfl⟩
section SH
variable {p : Program} {l : Launch} {e : Env} {R : Room} {s : State} {m : MethodId} {args : Array Value} {below : List Frame} {meth : Method} {c : Code} {Q : State → Prop}
variable {bs b L nL z0 s0 : Nat} {xs : Nat → Int32} {D : va_G} {cA : Nat → ClassId} {o kd : Nat} {cc : ByteArray}
variable {pc ln x y z : Nat} {w : Int} {i : Instr} {ls : lo_} {st : List Value} {h h' : hp_} {a : Nat}
/-- how large the heap is -/
theorem so_sz {H : Heap} {locs : List Loc} {cells slots : Nat} {g : JFrame} (hs0 : s.heap.size = bs + z0) (hp : pt_ s bs D cA h H locs) (hz : cells + z0 = hp_z h) (k : H.size = bs + hp_z h → W p l e R s m args below meth c H locs cells slots Q g) : W p l e R s m args below meth c H locs cells slots Q g := by
  intro T hT X
  have h1 : T.heap.size ≤ s.heap.size + cells := X.heapSize
  rw [hT] at h1
  have h2 : s.heap.size ≤ H.size := hp.2.2.1
  have h3 : bs + hp_z h ≤ H.size := by
    cases hh : hp_z h with
    | zero => omega
    | succ n =>
      have := (hp.2.1 n _ (wl_at (by omega))).lt
      simp only at this
      omega
  exact k (by omega) T hT X
theorem so_13 (C : cx_ p s m args meth c bs b L nL z0 xs D cA o kd cc) (hd : decode cc pc = .ok (i, ln)) (hc : ch_13 o i ln x y z = true) (ht : hp_T h a = x) {v : Value} (hr : mk_gf z h a y none (fun u => some u) = some v) (hk : go_ p l e R s m args below meth c Q bs b nL D cA z0 s0 (pc + ln) ls (v :: st) h) : go_ p l e R s m args below meth c Q bs b nL D cA z0 s0 pc ls (.ref a :: st) h := by
  obtain ⟨hx, hb, hml, hown, hts, hK, -⟩ := C
  intro H locs cells slots la hp hz hs hl
  have k := hk H locs cells slots la hp hz hs hl
  unfold ch_13 at hc
  rw [Bool.and_eq_true, beq_iff_eq] at hc
  obtain ⟨rfl, hc⟩ := hc
  split at hc
  · unfold ch_f at hc
    cases hq : vwCl[x - 10]? with
    | none => rw [hq] at hc; cases hc
    | some q =>
      rw [hq] at hc
      simp only [Bool.and_eq_true, beq_iff_eq, decide_eq_true_iff] at hc
      obtain ⟨h10, hy, hf, hw⟩ := hc
      obtain ⟨hn, hin, -, -⟩ := cl_ok hq
      obtain ⟨a', rfl, ha⟩ := wf_c hp.1 ht (by omega)
      have he := wl_at (bs := bs) (cA := cA) ha
      rw [ce_obj ht h10] at he
      refine va_get (C := q.1) (T := q.2.1) (N := q.2.2) (v := wv_ bs b v) hx hb hts hin hown hK hp.2.1 a' he hq y hy (hts _ (wa_fl_in hq hw)) (fun _ h9 => h9) ?_ hd k
      rw [fs_at (by rw [hn]; exact hy)]
      congr 1
      unfold fv_
      rw [hf]
      match z, hr with
      | 0, hr => cases hr; rfl
      | 1, hr => cases hr; rfl
      | 2, hr =>
        obtain ⟨h0, hr⟩ := iv_f hr
        cases hr
        rw [if_pos rfl]
        generalize hp_R h (a' + 1) y = rr at h0 ⊢
        cases rr with
        | zero => exact absurd rfl h0
        | succ n => rfl
      | z + 3, hr => cases hr
  · cases hc
theorem so_14 (C : cx_ p s m args meth c bs b L nL z0 xs D cA o kd cc) (hd : decode cc pc = .ok (i, ln)) (hc : ch_14 o kd i ln x y z w = true) (ht : hp_T h a = x) {v : Value} (hr : mk_pf z w h a y v none (fun u => some u) = some h') (hk : go_ p l e R s m args below meth c Q bs b nL D cA z0 s0 (pc + ln) ls st h') : go_ p l e R s m args below meth c Q bs b nL D cA z0 s0 pc ls (v :: .ref a :: st) h := by
  obtain ⟨hx, hb, hml, hown, hts, hK, -, -, -, -, -, hnm⟩ := C
  intro H locs cells slots la hp hz hs hl
  unfold ch_14 at hc
  rw [Bool.and_eq_true, beq_iff_eq] at hc
  obtain ⟨rfl, hc⟩ := hc
  split at hc
  · rw [Bool.and_eq_true, Bool.and_eq_true, Bool.and_eq_true] at hc
    obtain ⟨hc, htz, hfin, hw1⟩ := hc
    unfold ch_f at hc
    unfold ch_fin at hfin
    cases hq : vwCl[x - 10]? with
    | none => rw [hq] at hc; cases hc
    | some q =>
      rw [hq] at hc hfin
      simp only [Bool.and_eq_true, beq_iff_eq, decide_eq_true_iff] at hc
      obtain ⟨h10, hy, hf, hw⟩ := hc
      obtain ⟨hn, hin, hty, hnd, -, -, hdc, -⟩ := cl_ok hq
      obtain ⟨a', rfl, ha⟩ := wf_c hp.1 ht (by omega)
      have he := wl_at (bs := bs) (cA := cA) ha
      rw [ce_obj ht h10] at he
      have key : wf_ h' ∧ hp_z h' = hp_z h ∧ hp_s h' = hp_s h ∧ hp_T h' (a' + 1) = x ∧ (∀ d, d ≠ a' + 1 → ce_ bs cA h' d = ce_ bs cA h d) ∧ (fs_ bs h (x - 10) (a' + 1)).set y (wv_ bs b v) = fs_ bs h' (x - 10) (a' + 1) ∧ narrow (tyc_ (x - 10) y) (wv_ bs b v) = wv_ bs b v ∧ fits (tyc_ (x - 10) y) (wv_ bs b v) = true := by
        match z, hr, hf, htz, hw1 with
        | 0, hr, hf, htz, _ =>
          obtain ⟨n, rfl, hr⟩ := iv_i hr
          cases hr
          have hty0 : tyc_ (x - 10) y = .int := of_decide_eq_true htz
          refine ⟨hp.1, rfl, rfl, ht, fun d hd => ce_sI hd, fs_put ?_ ?_, by rw [hty0]; rfl, by rw [hty0]; rfl⟩
          · unfold fv_; rw [hf, if_neg (by decide)]
            show Value.int (va_up h.2.2.1 (a' + 1) (va_up (h.2.2.1 (a' + 1)) y n) (a' + 1) y) = _
            rw [up_eq, up_eq]; rfl
          · intro j hj
            unfold fv_
            show (if fk_ (x - 10) j = 2 then _ else Value.int (va_up h.2.2.1 (a' + 1) (va_up (h.2.2.1 (a' + 1)) y n) (a' + 1) j)) = _
            rw [up_eq, up_ne hj]; rfl
        | 1, hr, hf, htz, _ =>
          obtain ⟨n, rfl, hr⟩ := iv_i hr
          obtain ⟨hn01, hr⟩ := iv_t hr
          cases hr
          have hty0 : tyc_ (x - 10) y = .boolean := of_decide_eq_true htz
          refine ⟨hp.1, rfl, rfl, ht, fun d hd => ce_sI hd, fs_put ?_ ?_, by rw [hty0]; exact (na_bool hn01).1, by rw [hty0]; exact (na_bool hn01).2⟩
          · unfold fv_; rw [hf, if_neg (by decide)]
            show Value.int (va_up h.2.2.1 (a' + 1) (va_up (h.2.2.1 (a' + 1)) y n) (a' + 1) y) = _
            rw [up_eq, up_eq]; rfl
          · intro j hj
            unfold fv_
            show (if fk_ (x - 10) j = 2 then _ else Value.int (va_up h.2.2.1 (a' + 1) (va_up (h.2.2.1 (a' + 1)) y n) (a' + 1) j)) = _
            rw [up_eq, up_ne hj]; rfl
        | 2, hr, hf, htz, hw1 =>
          obtain ⟨n, rfl, hr⟩ := iv_r hr
          obtain ⟨hn01, hr⟩ := iv_t hr
          cases hr
          have hw2 : 1 ≤ w := by simpa using hw1
          obtain ⟨n', rfl, -⟩ := wf_c hp.1 hn01 (by omega)
          have hty0 : (∃ nm, tyc_ (x - 10) y = .object nm) ∨ ∃ t, tyc_ (x - 10) y = .array t := by
            cases hty1 : tyc_ (x - 10) y <;> rw [hty1] at htz <;> first | exact Or.inl ⟨_, rfl⟩ | exact Or.inr ⟨_, rfl⟩ | exact absurd htz (by decide)
          refine ⟨hp.1, rfl, rfl, ht, fun d hd => ce_sR hd, fs_put ?_ ?_, ?_, ?_⟩
          · unfold fv_; rw [hf, if_pos rfl]
            show va_rf (rv_ bs (va_up h.2.1 (a' + 1) (va_up (h.2.1 (a' + 1)) y (n' + 1)) (a' + 1) y)) = _
            rw [up_eq, up_eq]; rfl
          · intro j hj
            unfold fv_
            show (if fk_ (x - 10) j = 2 then va_rf (rv_ bs (va_up h.2.1 (a' + 1) (va_up (h.2.1 (a' + 1)) y (n' + 1)) (a' + 1) j)) else _) = _
            rw [up_eq, up_ne hj]; rfl
          · rcases hty0 with ⟨nm, e1⟩ | ⟨nm, e1⟩ <;> rw [e1] <;> rfl
          · rcases hty0 with ⟨nm, e1⟩ | ⟨nm, e1⟩ <;> rw [e1] <;> rfl
        | z + 3, hr, hf, htz, _ => cases hr
      obtain ⟨k1, k2, k3, k4, k5, k6, k7, k8⟩ := key
      have kk : ∀ (H1 : Heap) (locs1 : List Loc), va_P D vwCl ((wl_ bs cA h).set a' (bs + a', .inr (x - 10, (fs_ bs h (x - 10) (a' + 1)).set y (wv_ bs b v)))) H1 → va_D (rg_ bs) ((wl_ bs cA h).set a' (bs + a', .inr (x - 10, (fs_ bs h (x - 10) (a' + 1)).set y (wv_ bs b v)))) → va_S (rg_ bs) s.heap H1 locs1 → W p l e R s m args below meth c H1 locs1 cells slots Q (F0 m (pc + 3) la (st.map (wv_ bs b))) := by
        intro H1 locs1 hP _ hS
        rw [k6, ← ce_obj (bs := bs) (cA := cA) k4 h10, wl_set k2 k5] at hP
        exact hk H1 locs1 cells slots la ⟨k1, hP, hS⟩ (hz.trans k2.symm) (hs.trans k3.symm) hl
      cases hfb : (q.2.1 y).2.2.2 with
      | false => exact va_put (C := q.1) (T := q.2.1) (N := q.2.2) hx hb hts hin (tyc_ (x - 10)) hty hnd hown hK hp.2.1 (wl_D bs cA h) hp.2.2 a' he hq y hy (hts _ (wa_fl_in hq hw)) (fun _ h9 => h9) hfb (hty y hy) k7 k8 (by rw [fs_len, hn]; exact hy) hd kk
      | true =>
        have hfin : (!(q.2.1 y).2.2.2 || (x - 10 == o && kd == 2)) = true := hfin
        rw [hfb] at hfin
        simp only [Bool.not_true, Bool.false_or, Bool.and_eq_true, beq_iff_eq] at hfin
        exact va_putF (C := q.1) (T := q.2.1) (N := q.2.2) hx hb hts hin (tyc_ (x - 10)) hty hnd hown hK hp.2.1 (wl_D bs cA h) hp.2.2 a' he hq y hy (hts _ (wa_fl_in hq hw)) (fun _ h9 => h9) hfb (hnm hfin.2) ((hdc y hy).trans (by rw [hfin.1])) (hty y hy) k7 k8 (by rw [fs_len, hn]; exact hy) hd kk
  · cases hc
theorem so_15 (C : cx_ p s m args meth c bs b L nL z0 xs D cA o kd cc) (hd : decode cc pc = .ok (i, ln)) (hc : ch_15 i ln x = true) {j : Int32} {v : Value} (hr : mk_al x h a j none (fun u => some u) = some v) (hk : go_ p l e R s m args below meth c Q bs b nL D cA z0 s0 (pc + ln) ls (v :: st) h) : go_ p l e R s m args below meth c Q bs b nL D cA z0 s0 pc ls (.int j :: .ref a :: st) h := by
  obtain ⟨hx, hb, hml, hown, hts, hK, -⟩ := C
  intro H locs cells slots la hp hz hs hl
  have k := hk H locs cells slots la hp hz hs hl
  obtain ⟨ht, hr⟩ := iv_t hr
  obtain ⟨hj, hr⟩ := iv_f hr
  unfold ch_15 at hc
  rw [Bool.and_eq_true, beq_iff_eq] at hc
  obtain ⟨rfl, hc⟩ := hc
  split at hc
  · rw [beq_iff_eq] at hc
    subst hc
    cases hr
    obtain ⟨a', rfl, ha⟩ := wf_c hp.1 ht (by decide)
    have he := wl_at (bs := bs) (cA := cA) ha
    rw [ce_1 ht] at he
    exact va_iald hx hb hK hp.2.1 a' 0 he rfl hj hd k
  · rw [Bool.or_eq_true, beq_iff_eq, beq_iff_eq] at hc
    rcases hc with rfl | rfl
    · cases hr
      obtain ⟨a', rfl, ha⟩ := wf_c hp.1 ht (by decide)
      have he := wl_at (bs := bs) (cA := cA) ha
      rw [ce_2 ht] at he
      exact va_zald hx hb hK hp.2.1 a' 1 he rfl hj hd k
    · cases hr
      obtain ⟨a', rfl, ha⟩ := wf_c hp.1 ht (by decide)
      have he := wl_at (bs := bs) (cA := cA) ha
      rw [ce_3 ht] at he
      exact va_bald hx hb hK hp.2.1 a' 2 he rfl hj hd k
  · rw [beq_iff_eq] at hc
    subst hc
    cases hr
    obtain ⟨a', rfl, ha⟩ := wf_c hp.1 ht (by decide)
    have he := wl_at (bs := bs) (cA := cA) ha
    rw [ce_4 ht] at he
    exact va_lald hx hb hK hp.2.1 a' 3 he rfl hj hd k
  · rw [beq_iff_eq] at hc
    subst hc
    obtain ⟨h0, hr⟩ := iv_f hr
    cases hr
    obtain ⟨a', rfl, ha⟩ := wf_c hp.1 ht (by decide)
    have he := wl_at (bs := bs) (cA := cA) ha
    rw [ce_5 ht] at he
    refine va_aldq hx hb hK hp.2.1 a' 4 he rfl hj hd ?_
    revert k
    generalize hp_R h (a' + 1) j.toNatClampNeg = rr at h0 ⊢
    cases rr with
    | zero => exact absurd rfl h0
    | succ n => exact id
  · cases hc
theorem so_16 (C : cx_ p s m args meth c bs b L nL z0 xs D cA o kd cc) (hd : decode cc pc = .ok (i, ln)) (hc : ch_16 i ln x y = true) {j : Int32} {v : Value} (hr : mk_as x y h v a j none (fun u => some u) = some h') (hk : go_ p l e R s m args below meth c Q bs b nL D cA z0 s0 (pc + ln) ls st h') : go_ p l e R s m args below meth c Q bs b nL D cA z0 s0 pc ls (v :: .int j :: .ref a :: st) h := by
  obtain ⟨hx, hb, hml, hown, hts, hK, -⟩ := C
  intro H locs cells slots la hp hz hs hl
  obtain ⟨ht, hr⟩ := iv_t hr
  obtain ⟨hj, hr⟩ := iv_f hr
  unfold ch_16 at hc
  rw [Bool.and_eq_true, beq_iff_eq] at hc
  obtain ⟨rfl, hc⟩ := hc
  split at hc
  · rw [beq_iff_eq] at hc
    subst hc
    obtain ⟨n, rfl, hr⟩ := iv_i hr
    cases hr
    obtain ⟨a', rfl, ha⟩ := wf_c hp.1 ht (by decide)
    have he := wl_at (bs := bs) (cA := cA) ha
    rw [ce_1 ht] at he
    refine va_iast hx hb hK hp.2.1 (wl_D bs cA h) hp.2.2 a' 0 he rfl hj hd fun H1 locs1 hP _ hS => ?_
    refine hk H1 locs1 cells slots la ⟨hp.1, ?_, hS⟩ hz hs hl
    rw [← wl_set (h := h) (h' := hp_sI h (a' + 1) j.toNatClampNeg n) (c := a') rfl (fun d hd => ce_sI hd), ce_1 (h := hp_sI h (a' + 1) j.toNatClampNeg n) ht]
    show va_P D vwCl ((wl_ bs cA h).set a' (bs + a', .inl (cA 0, hp_N h (a' + 1), .inl (va_up h.2.2.1 (a' + 1) (va_up (h.2.2.1 (a' + 1)) j.toNatClampNeg n) (a' + 1))))) H1
    rw [up_eq]
    exact hP
  · rw [Bool.or_eq_true, beq_iff_eq, beq_iff_eq] at hc
    rcases hc with rfl | rfl
    · obtain ⟨n, rfl, hr⟩ := iv_i hr
      cases hr
      obtain ⟨a', rfl, ha⟩ := wf_c hp.1 ht (by decide)
      have he := wl_at (bs := bs) (cA := cA) ha
      rw [ce_2 ht] at he
      refine va_zast hx hb hK hp.2.1 (wl_D bs cA h) hp.2.2 a' 1 he rfl hj hd fun H1 locs1 hP _ hS => ?_
      refine hk H1 locs1 cells slots la ⟨hp.1, ?_, hS⟩ hz hs hl
      rw [← wl_set (h := h) (h' := hp_sI h (a' + 1) j.toNatClampNeg (vp_nar .boolean n)) (c := a') rfl (fun d hd => ce_sI hd), ce_2 (h := hp_sI h (a' + 1) j.toNatClampNeg (vp_nar .boolean n)) ht]
      show va_P D vwCl ((wl_ bs cA h).set a' (bs + a', .inl (cA 1, hp_N h (a' + 1), .inl (va_up h.2.2.1 (a' + 1) (va_up (h.2.2.1 (a' + 1)) j.toNatClampNeg (vp_nar .boolean n)) (a' + 1))))) H1
      rw [up_eq]
      exact hP
    · obtain ⟨n, rfl, hr⟩ := iv_i hr
      cases hr
      obtain ⟨a', rfl, ha⟩ := wf_c hp.1 ht (by decide)
      have he := wl_at (bs := bs) (cA := cA) ha
      rw [ce_3 ht] at he
      refine va_bast hx hb hK hp.2.1 (wl_D bs cA h) hp.2.2 a' 2 he rfl hj hd fun H1 locs1 hP _ hS => ?_
      refine hk H1 locs1 cells slots la ⟨hp.1, ?_, hS⟩ hz hs hl
      rw [← wl_set (h := h) (h' := hp_sI h (a' + 1) j.toNatClampNeg (vp_nar .byte n)) (c := a') rfl (fun d hd => ce_sI hd), ce_3 (h := hp_sI h (a' + 1) j.toNatClampNeg (vp_nar .byte n)) ht]
      show va_P D vwCl ((wl_ bs cA h).set a' (bs + a', .inl (cA 2, hp_N h (a' + 1), .inl (va_up h.2.2.1 (a' + 1) (va_up (h.2.2.1 (a' + 1)) j.toNatClampNeg (vp_nar .byte n)) (a' + 1))))) H1
      rw [up_eq]
      exact hP
  · rw [beq_iff_eq] at hc
    subst hc
    obtain ⟨n, rfl, hr⟩ := iv_l hr
    cases hr
    obtain ⟨a', rfl, ha⟩ := wf_c hp.1 ht (by decide)
    have he := wl_at (bs := bs) (cA := cA) ha
    rw [ce_4 ht] at he
    refine va_last hx hb hK hp.2.1 (wl_D bs cA h) hp.2.2 a' 3 he rfl hj hd fun H1 locs1 hP _ hS => ?_
    refine hk H1 locs1 cells slots la ⟨hp.1, ?_, hS⟩ hz hs hl
    rw [← wl_set (h := h) (h' := hp_sL h (a' + 1) j.toNatClampNeg n) (c := a') rfl (fun d hd => ce_sL hd), ce_4 (h := hp_sL h (a' + 1) j.toNatClampNeg n) ht]
    show va_P D vwCl ((wl_ bs cA h).set a' (bs + a', .inl (cA 3, hp_N h (a' + 1), .inr (.inl (va_up h.2.2.2.1 (a' + 1) (va_up (h.2.2.2.1 (a' + 1)) j.toNatClampNeg n) (a' + 1)))))) H1
    rw [up_eq]
    exact hP
  · simp only [Bool.and_eq_true, beq_iff_eq] at hc
    obtain ⟨rfl, rfl⟩ := hc
    obtain ⟨n, rfl, hr⟩ := iv_r hr
    obtain ⟨hn, hr⟩ := iv_t hr
    cases hr
    obtain ⟨a', rfl, ha⟩ := wf_c hp.1 ht (by decide)
    obtain ⟨n', rfl, hn'⟩ := wf_c hp.1 hn (by decide)
    have he := wl_at (bs := bs) (cA := cA) ha
    rw [ce_5 ht] at he
    have hv := wl_at (bs := bs) (cA := cA) hn'
    rw [ce_obj hn (by decide)] at hv
    refine va_astq (r := (RX1, TX1, 5)) hx hb hK hp.2.1 (wl_D bs cA h) hp.2.2 a' 4 n' 1 he rfl hv rfl hj hd fun H1 locs1 hP _ hS => ?_
    refine hk H1 locs1 cells slots la ⟨hp.1, ?_, hS⟩ hz hs hl
    rw [← wl_set (h := h) (h' := hp_sR h (a' + 1) j.toNatClampNeg (n' + 1)) (c := a') rfl (fun d hd => ce_sR hd), ce_5 (h := hp_sR h (a' + 1) j.toNatClampNeg (n' + 1)) ht]
    show va_P D vwCl ((wl_ bs cA h).set a' (bs + a', .inl (cA 4, hp_N h (a' + 1), .inr (.inr (.inr (.inr (fun i => rv_ bs (va_up h.2.1 (a' + 1) (va_up (h.2.1 (a' + 1)) j.toNatClampNeg (n' + 1)) (a' + 1) i)))))))) H1
    rw [up_eq]
    have e9 : (fun i => rv_ bs (va_up (h.2.1 (a' + 1)) j.toNatClampNeg (n' + 1) i)) = va_up (fun i => rv_ bs (hp_R h (a' + 1) i)) j.toNatClampNeg (some (bs + n')) := by
      funext i
      by_cases hi : i = j.toNatClampNeg
      · subst hi; rw [up_eq, up_eq]; rfl
      · rw [up_ne hi, up_ne hi]; rfl
    rw [e9]
    exact hP
  · cases hc
theorem so_17 (C : cx_ p s m args meth c bs b L nL z0 xs D cA o kd cc) (hd : decode cc pc = .ok (i, ln)) (hc : ch_17 i ln x = true) (ht : hp_T h a = x) (hk : go_ p l e R s m args below meth c Q bs b nL D cA z0 s0 (pc + ln) ls (.int (Int32.ofNat (hp_N h a)) :: st) h) : go_ p l e R s m args below meth c Q bs b nL D cA z0 s0 pc ls (.ref a :: st) h := by
  obtain ⟨hx, hb, hml, hown, hts, hK, -⟩ := C
  intro H locs cells slots la hp hz hs hl
  have k := hk H locs cells slots la hp hz hs hl
  simp only [ch_17, Bool.and_eq_true, beq_iff_eq, decide_eq_true_iff] at hc
  obtain ⟨rfl, rfl, h1, h5⟩ := hc
  obtain ⟨a', rfl, ha⟩ := wf_c hp.1 ht (by omega)
  have he := wl_at (bs := bs) (cA := cA) ha
  have hx5 : x = 1 ∨ x = 2 ∨ x = 3 ∨ x = 4 ∨ x = 5 := by omega
  rcases hx5 with rfl | rfl | rfl | rfl | rfl
  · rw [ce_1 ht] at he; exact va_alen hx hb hK hp.2.1 a' 0 he rfl rfl hd k
  · rw [ce_2 ht] at he; exact va_alen hx hb hK hp.2.1 a' 1 he rfl rfl hd k
  · rw [ce_3 ht] at he; exact va_alen hx hb hK hp.2.1 a' 2 he rfl rfl hd k
  · rw [ce_4 ht] at he; exact va_alen hx hb hK hp.2.1 a' 3 he rfl rfl hd k
  · rw [ce_5 ht] at he; exact va_alen hx hb hK hp.2.1 a' 4 he rfl rfl hd k
end SH
