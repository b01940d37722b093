
/-- what holds in a method's body of the machine, the tables, the script -/
def cx_ (p : Program) (s : State) (m : MethodId) (args : Array Value) (meth : Method) (c : Code) (bs b L nL z0 : Nat) (xs : Nat → Int32) (D : va_G) (cA : Nat → ClassId) (o kd : Nat) (cc : ByteArray) : Prop :=
  p.tables.exec = Jvm.exec ∧ c.code = cc ∧ c.maxLocals = nL ∧ s.vm.findClass (cn_ o) = some m.cls ∧ (∀ w ∈ ww_, w.before args s = true) ∧ va_K D vwCl (tl_ cA) s ∧ (∀ w ∈ nw_, va_Nw w s) ∧ va_AO "StateShop$Machine" s ∧ va_X b L xs s s.heap ∧ b < bs ∧ s.heap.size = bs + z0 ∧ (kd = 2 → meth.name = "<init>")
/-- the machine comes to Q from this point, wherever it stands in the heap -/
def go_ (p : Program) (l : Launch) (e : Env) (R : Room) (s : State) (m : MethodId) (args : Array Value) (below : List Frame) (meth : Method) (c : Code) (Q : State → Prop) (bs b nL : Nat) (D : va_G) (cA : Nat → ClassId) (z0 s0 pc : Nat) (ls : lo_) (st : List Value) (h : hp_) : Prop :=
  ∀ (H : Heap) (locs : List Loc) (cells slots : Nat) (la : Array Slot), pt_ s bs D cA h H locs → cells + z0 = hp_z h → slots + s0 = hp_s h → lv_has la nL (ls.map (wq_ bs b)) → W p l e R s m args below meth c H locs cells slots Q (F0 m pc la (st.map (wv_ bs b)))
section SO
variable {p : Program} {l : Launch} {e : Env} {R : Room} {s : State} {m : MethodId} {args : Array Value} {below : List Frame} {meth : Method} {c : Code} {Q : State → Prop}
variable {bs b L nL z0 s0 : Nat} {xs : Nat → Int32} {D : va_G} {cA : Nat → ClassId} {o kd : Nat} {cc : ByteArray}
variable {pc ln x y z : Nat} {w : Int} {i : Instr} {ls : lo_} {st : List Value} {h : hp_}
theorem so_0 (C : cx_ p s m args meth c bs b L nL z0 xs D cA o kd cc) (hd : decode cc pc = .ok (i, ln)) (hc : ch_0 o i ln w = true) (hk : go_ p l e R s m args below meth c Q bs b nL D cA z0 s0 (pc + ln) ls (.int (Int32.ofInt w) :: st) h) : go_ p l e R s m args below meth c Q bs b nL D cA z0 s0 pc ls st h := by
  obtain ⟨hx, hb, hml, hown, hts, -⟩ := C
  intro H locs cells slots la hp hz hs hl
  have k := hk H locs cells slots la hp hz hs hl
  unfold ch_0 at hc
  split at hc
  · simp only [Bool.and_eq_true, beq_iff_eq] at hc
    obtain ⟨rfl, hv⟩ := hc
    exact lv_iconst hx hb hd hv k
  · simp only [Bool.and_eq_true, beq_iff_eq] at hc
    obtain ⟨rfl, hv⟩ := hc
    exact lv_bipush hx hb hd hv k
  · simp only [Bool.and_eq_true, beq_iff_eq] at hc
    obtain ⟨rfl, hv⟩ := hc
    exact lv_sipush hx hb hd hv k
  · simp only [Bool.and_eq_true, beq_iff_eq] at hc
    obtain ⟨rfl, hv⟩ := hc
    exact lv_ldc hx hb hown (hts _ (wa_ci_in hv)) hd k
  · cases hc
theorem so_1 (C : cx_ p s m args meth c bs b L nL z0 xs D cA o kd cc) (hd : decode cc pc = .ok (i, ln)) (hc : ch_1 o i ln w = true) (hk : go_ p l e R s m args below meth c Q bs b nL D cA z0 s0 (pc + ln) ls (.long (Int64.ofInt w) :: st) h) : go_ p l e R s m args below meth c Q bs b nL D cA z0 s0 pc ls st h := by
  obtain ⟨hx, hb, hml, hown, hts, -⟩ := C
  intro H locs cells slots la hp hz hs hl
  have k := hk H locs cells slots la hp hz hs hl
  unfold ch_1 at hc
  split at hc
  · simp only [Bool.and_eq_true, beq_iff_eq] at hc
    obtain ⟨rfl, hv⟩ := hc
    exact lv_lconst hx hb hd hv k
  · simp only [Bool.and_eq_true, beq_iff_eq] at hc
    obtain ⟨rfl, hv⟩ := hc
    exact lv_ldc2 hx hb hown (hts _ (wa_cl_in hv)) hd k
  · cases hc
theorem wv_ref (bs b n : Nat) : ∃ a, wv_ bs b (.ref n) = .ref a := by
  cases n with
  | zero => exact ⟨b, rfl⟩
  | succ n => exact ⟨bs + n, rfl⟩
theorem so_2 (C : cx_ p s m args meth c bs b L nL z0 xs D cA o kd cc) (hd : decode cc pc = .ok (i, ln)) (hc : ch_2 i ln x y = true) {v v' : Value} (hv : mk_lk ls x = some v) (ht : mk_ty y v none (fun u => some u) = some v') (hk : go_ p l e R s m args below meth c Q bs b nL D cA z0 s0 (pc + ln) ls (v' :: st) h) : go_ p l e R s m args below meth c Q bs b nL D cA z0 s0 pc ls st h := by
  obtain ⟨hx, hb, hml, hown, hts, -⟩ := C
  intro H locs cells slots la hp hz hs hl
  have k := hk H locs cells slots la hp hz hs hl
  have hla := lk_has hl hv
  unfold ch_2 at hc
  split at hc
  all_goals first | (cases hc; done) | (simp only [Bool.and_eq_true, beq_iff_eq] at hc; obtain ⟨rfl, rfl, rfl⟩ := hc)
  · obtain ⟨u, rfl, e⟩ := iv_i ht; cases e; exact lv_iload_n hx hb hd rfl hla k
  · obtain ⟨u, rfl, e⟩ := iv_i ht; cases e; exact lv_iload hx hb hd hla k
  · obtain ⟨u, rfl, e⟩ := iv_l ht; cases e; exact lv_lload_n hx hb hd rfl hla k
  · obtain ⟨u, rfl, e⟩ := iv_l ht; cases e; exact lv_lload hx hb hd hla k
  · obtain ⟨u, rfl, e⟩ := iv_r ht
    cases e
    obtain ⟨a, ea⟩ := wv_ref bs b u
    rw [List.map_cons, ea] at k
    rw [ea] at hla
    exact lv_aload_n hx hb hd rfl hla k
  · obtain ⟨u, rfl, e⟩ := iv_r ht
    cases e
    obtain ⟨a, ea⟩ := wv_ref bs b u
    rw [List.map_cons, ea] at k
    rw [ea] at hla
    exact lv_aload hx hb hd hla k
theorem so_3 (C : cx_ p s m args meth c bs b L nL z0 xs D cA o kd cc) (hd : decode cc pc = .ok (i, ln)) (hc : ch_3 nL i ln x y = true) {v v' : Value} (ht : mk_ty y v none (fun u => some u) = some v') (hk : go_ p l e R s m args below meth c Q bs b nL D cA z0 s0 (pc + ln) (mk_put ls x v') st h) : go_ p l e R s m args below meth c Q bs b nL D cA z0 s0 pc ls (v :: st) h := by
  obtain ⟨hx, hb, hml, hown, hts, -⟩ := C
  intro H locs cells slots la hp hz hs hl
  have k := fun la' hl' => hk H locs cells slots la' hp hz hs hl'
  unfold ch_3 at hc
  rw [Bool.and_eq_true, decide_eq_true_iff] at hc
  obtain ⟨hn, hc⟩ := hc
  split at hc
  all_goals first | (cases hc; done) | (simp only [Bool.and_eq_true, beq_iff_eq] at hc; obtain ⟨rfl, rfl, rfl⟩ := hc)
  · obtain ⟨u, rfl, e⟩ := iv_i ht; cases e; exact lv_istore_n hx hb hd rfl hl (by omega) (put_1 (v := .int u) (show ¬ (1 : Nat) = 2 by decide)) k
  · obtain ⟨u, rfl, e⟩ := iv_i ht; cases e; exact lv_istore hx hb hd hl (by omega) (put_1 (v := .int u) (show ¬ (1 : Nat) = 2 by decide)) k
  · obtain ⟨u, rfl, e⟩ := iv_l ht; cases e; exact lv_lstore_n hx hb hd rfl hl (by omega) (put_2 (v := .long u) rfl) k
  · obtain ⟨u, rfl, e⟩ := iv_l ht; cases e; exact lv_lstore hx hb hd hl (by omega) (put_2 (v := .long u) rfl) k
  · obtain ⟨u, rfl, e⟩ := iv_r ht
    cases e
    have e1 := fun i => put_1 (bs := bs) (b := b) (ls := ls) (i := i) (v := .ref u) (show ¬ (1 : Nat) = 2 by decide)
    obtain ⟨a, ea⟩ := wv_ref bs b u
    rw [List.map_cons, ea]
    exact lv_astore_n hx hb hd rfl hl (by omega) (by rw [← ea]; exact e1 _) k
  · obtain ⟨u, rfl, e⟩ := iv_r ht
    cases e
    have e1 := fun i => put_1 (bs := bs) (b := b) (ls := ls) (i := i) (v := .ref u) (show ¬ (1 : Nat) = 2 by decide)
    obtain ⟨a, ea⟩ := wv_ref bs b u
    rw [List.map_cons, ea]
    exact lv_astore hx hb hd hl (by omega) (by rw [← ea]; exact e1 _) k
theorem so_4 (C : cx_ p s m args meth c bs b L nL z0 xs D cA o kd cc) (hd : decode cc pc = .ok (i, ln)) (hc : ch_4 nL i ln x w = true) {a : Int32} (hv : mk_lk ls x = some (.int a)) (hk : go_ p l e R s m args below meth c Q bs b nL D cA z0 s0 (pc + ln) (mk_put ls x (.int (a + Int32.ofInt w))) st h) : go_ p l e R s m args below meth c Q bs b nL D cA z0 s0 pc ls st h := by
  obtain ⟨hx, hb, hml, hown, hts, -⟩ := C
  intro H locs cells slots la hp hz hs hl
  have k := fun la' hl' => hk H locs cells slots la' hp hz hs hl'
  obtain ⟨j, hj⟩ := lk_at (bs := bs) (b := b) hv
  unfold ch_4 at hc
  split at hc
  · simp only [Bool.and_eq_true, beq_iff_eq, decide_eq_true_iff] at hc
    obtain ⟨rfl, rfl, rfl, hn⟩ := hc
    exact lv_iinc hx hb hd hl hj rfl hn (put_1 (v := .int _) (show ¬ (1 : Nat) = 2 by decide)) k
  · cases hc
theorem so_5 (C : cx_ p s m args meth c bs b L nL z0 xs D cA o kd cc) (hd : decode cc pc = .ok (i, ln)) (hc : ch_5 i ln x = true) {a b' r : Int32} (hr : mk_ib x a b' none (fun u => some u) = some r) (hk : go_ p l e R s m args below meth c Q bs b nL D cA z0 s0 (pc + ln) ls (.int r :: st) h) : go_ p l e R s m args below meth c Q bs b nL D cA z0 s0 pc ls (.int b' :: .int a :: st) h := by
  obtain ⟨hx, hb, hml, hown, hts, -⟩ := C
  intro H locs cells slots la hp hz hs hl
  have k := hk H locs cells slots la hp hz hs hl
  unfold ch_5 at hc
  rw [Bool.and_eq_true, beq_iff_eq] at hc
  obtain ⟨rfl, hc⟩ := hc
  split at hc
  all_goals first | (cases hc; done) | (rw [beq_iff_eq] at hc; subst hc)
  · cases hr; exact lv_iadd hx hb hd k
  · cases hr; exact lv_isub hx hb hd k
  · cases hr; exact lv_imul hx hb hd k
  · cases hr; exact lv_iand hx hb hd k
  · cases hr; exact lv_ior hx hb hd k
  · cases hr; exact lv_ishl hx hb hd k
  · cases hr; exact lv_ishr hx hb hd k
  · cases hr; exact lv_iushr hx hb hd rfl k
  · obtain ⟨hn, e⟩ := iv_f hr; cases e; exact lv_idiv hx hb hd hn k
  · obtain ⟨hn, e⟩ := iv_f hr; cases e; exact lv_irem hx hb hd hn k
theorem so_6 (C : cx_ p s m args meth c bs b L nL z0 xs D cA o kd cc) (hd : decode cc pc = .ok (i, ln)) (hc : ch_6 i ln x = true) {a b' r : Int64} (hr : mk_lb x a b' none (fun u => some u) = some r) (hk : go_ p l e R s m args below meth c Q bs b nL D cA z0 s0 (pc + ln) ls (.long r :: st) h) : go_ p l e R s m args below meth c Q bs b nL D cA z0 s0 pc ls (.long b' :: .long a :: st) h := by
  obtain ⟨hx, hb, hml, hown, hts, -⟩ := C
  intro H locs cells slots la hp hz hs hl
  have k := hk H locs cells slots la hp hz hs hl
  unfold ch_6 at hc
  rw [Bool.and_eq_true, beq_iff_eq] at hc
  obtain ⟨rfl, hc⟩ := hc
  split at hc
  all_goals first | (cases hc; done) | (rw [beq_iff_eq] at hc; subst hc)
  · cases hr; exact lv_ladd hx hb hd k
  · cases hr; exact lv_lsub hx hb hd k
  · cases hr; exact lv_lmul hx hb hd k
  · cases hr; exact lv_land hx hb hd k
  · cases hr; exact lv_lor hx hb hd k
theorem so_7 (C : cx_ p s m args meth c bs b L nL z0 xs D cA o kd cc) (hd : decode cc pc = .ok (i, ln)) (hc : ch_7 i ln x = true) {a r : Int64} {b' : Int32} (hr : mk_ls x a b' none (fun u => some u) = some r) (hk : go_ p l e R s m args below meth c Q bs b nL D cA z0 s0 (pc + ln) ls (.long r :: st) h) : go_ p l e R s m args below meth c Q bs b nL D cA z0 s0 pc ls (.int b' :: .long a :: st) h := by
  obtain ⟨hx, hb, hml, hown, hts, -⟩ := C
  intro H locs cells slots la hp hz hs hl
  have k := hk H locs cells slots la hp hz hs hl
  unfold ch_7 at hc
  rw [Bool.and_eq_true, beq_iff_eq] at hc
  obtain ⟨rfl, hc⟩ := hc
  split at hc
  all_goals first | (cases hc; done) | (rw [beq_iff_eq] at hc; subst hc)
  · cases hr; exact lv_lshl hx hb hd rfl k
  · cases hr; exact lv_lshr hx hb hd rfl k
  · cases hr; exact lv_lushr hx hb hd rfl k
theorem so_8 (C : cx_ p s m args meth c bs b L nL z0 xs D cA o kd cc) (hd : decode cc pc = .ok (i, ln)) (hc : ch_8 i ln x = true) {v r : Value} (hr : mk_cv x v none (fun u => some u) = some r) (hk : go_ p l e R s m args below meth c Q bs b nL D cA z0 s0 (pc + ln) ls (r :: st) h) : go_ p l e R s m args below meth c Q bs b nL D cA z0 s0 pc ls (v :: st) h := by
  obtain ⟨hx, hb, hml, hown, hts, -⟩ := C
  intro H locs cells slots la hp hz hs hl
  have k := hk H locs cells slots la hp hz hs hl
  unfold ch_8 at hc
  rw [Bool.and_eq_true, beq_iff_eq] at hc
  obtain ⟨rfl, hc⟩ := hc
  split at hc
  all_goals first | (cases hc; done) | (rw [beq_iff_eq] at hc; subst hc)
  · obtain ⟨u, rfl, e⟩ := iv_i hr; cases e; exact lv_i2l hx hb hd rfl k
  · obtain ⟨u, rfl, e⟩ := iv_l hr; cases e; exact lv_l2i hx hb hd rfl k
  · obtain ⟨u, rfl, e⟩ := iv_i hr; cases e; exact lv_i2b hx hb hd rfl k
theorem so_9 (C : cx_ p s m args meth c bs b L nL z0 xs D cA o kd cc) (hd : decode cc pc = .ok (i, ln)) (hc : ch_9 i ln = true) {a b' : Int64} (hk : go_ p l e R s m args below meth c Q bs b nL D cA z0 s0 (pc + ln) ls (.int (lg_cmp a b') :: st) h) : go_ p l e R s m args below meth c Q bs b nL D cA z0 s0 pc ls (.long b' :: .long a :: st) h := by
  obtain ⟨hx, hb, hml, hown, hts, -⟩ := C
  intro H locs cells slots la hp hz hs hl
  have k := hk H locs cells slots la hp hz hs hl
  simp only [ch_9, Bool.and_eq_true, beq_iff_eq, decide_eq_true_iff] at hc
  obtain ⟨rfl, rfl⟩ := hc
  exact W.lcmp hx hb hd k
theorem so_10 (C : cx_ p s m args meth c bs b L nL z0 xs D cA o kd cc) (hd : decode cc pc = .ok (i, ln)) (hc : ch_10 pc i ln x y = true) {a : Int32} {α : Type} {r : α} {kt kf : Option α} (hr : mk_cc x a 0 none kt kf = some r) (ht : kt = some r → go_ p l e R s m args below meth c Q bs b nL D cA z0 s0 y ls st h) (hf : kf = some r → go_ p l e R s m args below meth c Q bs b nL D cA z0 s0 (pc + ln) ls st h) : go_ p l e R s m args below meth c Q bs b nL D cA z0 s0 pc ls (.int a :: st) h := by
  obtain ⟨hx, hb, hml, hown, hts, -⟩ := C
  intro H locs cells slots la hp hz hs hl
  have k1 := fun e => ht e H locs cells slots la hp hz hs hl
  have k2 := fun e => hf e H locs cells slots la hp hz hs hl
  unfold ch_10 at hc
  rw [Bool.and_eq_true, beq_iff_eq] at hc
  obtain ⟨rfl, hc⟩ := hc
  split at hc
  · rename_i cd off
    simp only [Bool.and_eq_true, beq_iff_eq] at hc
    obtain ⟨rfl, ho⟩ := hc
    cases cd
    · exact lv_if_eq hx hb hd ho (fun q => k1 (by rw [← hr]; exact (if_pos q).symm)) (fun q => k2 (by rw [← hr]; exact (if_neg q).symm))
    · exact lv_if_ne hx hb hd ho (fun q => k1 (by rw [← hr]; exact (if_pos q).symm)) (fun q => k2 (by rw [← hr]; exact (if_neg (fun n => n q)).symm))
    · exact lv_if_lt hx hb hd ho (fun q => k1 (by rw [← hr]; exact (if_pos q).symm)) (fun q => k2 (by rw [← hr]; exact (if_neg q).symm))
    · exact lv_if_ge hx hb hd ho (fun q => k1 (by rw [← hr]; exact (if_pos q).symm)) (fun q => k2 (by rw [← hr]; exact (if_neg q).symm))
    · exact lv_if_gt hx hb hd ho (fun q => k1 (by rw [← hr]; exact (if_pos q).symm)) (fun q => k2 (by rw [← hr]; exact (if_neg q).symm))
    · exact lv_if_le hx hb hd ho (fun q => k1 (by rw [← hr]; exact (if_pos q).symm)) (fun q => k2 (by rw [← hr]; exact (if_neg q).symm))
  · cases hc
theorem so_11 (C : cx_ p s m args meth c bs b L nL z0 xs D cA o kd cc) (hd : decode cc pc = .ok (i, ln)) (hc : ch_11 pc i ln x y = true) {a b' : Int32} {α : Type} {r : α} {kt kf : Option α} (hr : mk_cc x a b' none kt kf = some r) (ht : kt = some r → go_ p l e R s m args below meth c Q bs b nL D cA z0 s0 y ls st h) (hf : kf = some r → go_ p l e R s m args below meth c Q bs b nL D cA z0 s0 (pc + ln) ls st h) : go_ p l e R s m args below meth c Q bs b nL D cA z0 s0 pc ls (.int b' :: .int a :: st) h := by
  obtain ⟨hx, hb, hml, hown, hts, -⟩ := C
  intro H locs cells slots la hp hz hs hl
  have k1 := fun e => ht e H locs cells slots la hp hz hs hl
  have k2 := fun e => hf e H locs cells slots la hp hz hs hl
  unfold ch_11 at hc
  rw [Bool.and_eq_true, beq_iff_eq] at hc
  obtain ⟨rfl, hc⟩ := hc
  split at hc
  · rename_i cd off
    simp only [Bool.and_eq_true, beq_iff_eq] at hc
    obtain ⟨rfl, ho⟩ := hc
    cases cd
    · exact lv_icmp_eq hx hb hd ho (fun q => k1 (by rw [← hr]; exact (if_pos q).symm)) (fun q => k2 (by rw [← hr]; exact (if_neg q).symm))
    · exact lv_icmp_ne hx hb hd ho (fun q => k1 (by rw [← hr]; exact (if_pos q).symm)) (fun q => k2 (by rw [← hr]; exact (if_neg (fun n => n q)).symm))
    · exact lv_icmp_lt hx hb hd ho (fun q => k1 (by rw [← hr]; exact (if_pos q).symm)) (fun q => k2 (by rw [← hr]; exact (if_neg q).symm))
    · exact lv_icmp_ge hx hb hd ho (fun q => k1 (by rw [← hr]; exact (if_pos q).symm)) (fun q => k2 (by rw [← hr]; exact (if_neg q).symm))
    · exact lv_icmp_gt hx hb hd ho (fun q => k1 (by rw [← hr]; exact (if_pos q).symm)) (fun q => k2 (by rw [← hr]; exact (if_neg q).symm))
    · exact lv_icmp_le hx hb hd ho (fun q => k1 (by rw [← hr]; exact (if_pos q).symm)) (fun q => k2 (by rw [← hr]; exact (if_neg q).symm))
  · cases hc
theorem so_12 (C : cx_ p s m args meth c bs b L nL z0 xs D cA o kd cc) (hd : decode cc pc = .ok (i, ln)) (hc : ch_12 pc i ln y = true) (hk : go_ p l e R s m args below meth c Q bs b nL D cA z0 s0 y ls st h) : go_ p l e R s m args below meth c Q bs b nL D cA z0 s0 pc ls st h := by
  obtain ⟨hx, hb, hml, hown, hts, -⟩ := C
  intro H locs cells slots la hp hz hs hl
  have k := hk H locs cells slots la hp hz hs hl
  unfold ch_12 at hc
  rw [Bool.and_eq_true, beq_iff_eq] at hc
  obtain ⟨rfl, hc⟩ := hc
  split at hc
  · rw [beq_iff_eq] at hc
    exact lv_goto hx hb hd hc k
  · cases hc
theorem so_18 (C : cx_ p s m args meth c bs b L nL z0 xs D cA o kd cc) (hd : decode cc pc = .ok (i, ln)) (hc : (ln == 1 && decide (i = .dup)) = true) {v : Value} (hv : v.category = 1) (hk : go_ p l e R s m args below meth c Q bs b nL D cA z0 s0 (pc + ln) ls (v :: v :: st) h) : go_ p l e R s m args below meth c Q bs b nL D cA z0 s0 pc ls (v :: st) h := by
  obtain ⟨hx, hb, hml, hown, hts, -⟩ := C
  intro H locs cells slots la hp hz hs hl
  have k := hk H locs cells slots la hp hz hs hl
  simp only [Bool.and_eq_true, beq_iff_eq, decide_eq_true_iff] at hc
  obtain ⟨rfl, rfl⟩ := hc
  exact lv_dup hx hb hd (by rw [wv_cat]; exact hv) k
theorem so_19 (C : cx_ p s m args meth c bs b L nL z0 xs D cA o kd cc) (hd : decode cc pc = .ok (i, ln)) (hc : (ln == 1 && decide (i = .pop)) = true) {v : Value} (hv : v.category = 1) (hk : go_ p l e R s m args below meth c Q bs b nL D cA z0 s0 (pc + ln) ls st h) : go_ p l e R s m args below meth c Q bs b nL D cA z0 s0 pc ls (v :: st) h := by
  obtain ⟨hx, hb, hml, hown, hts, -⟩ := C
  intro H locs cells slots la hp hz hs hl
  have k := hk H locs cells slots la hp hz hs hl
  simp only [Bool.and_eq_true, beq_iff_eq, decide_eq_true_iff] at hc
  obtain ⟨rfl, rfl⟩ := hc
  exact lv_pop hx hb hd (by rw [wv_cat]; exact hv) k
theorem so_20 (C : cx_ p s m args meth c bs b L nL z0 xs D cA o kd cc) (hd : decode cc pc = .ok (i, ln)) (hc : (ln == 1 && decide (i = .dup2)) = true) {v u : Value} (hv : v.category = 1) (hu : u.category = 1) (hk : go_ p l e R s m args below meth c Q bs b nL D cA z0 s0 (pc + ln) ls (v :: u :: v :: u :: st) h) : go_ p l e R s m args below meth c Q bs b nL D cA z0 s0 pc ls (v :: u :: st) h := by
  obtain ⟨hx, hb, hml, hown, hts, -⟩ := C
  intro H locs cells slots la hp hz hs hl
  have k := hk H locs cells slots la hp hz hs hl
  simp only [Bool.and_eq_true, beq_iff_eq, decide_eq_true_iff] at hc
  obtain ⟨rfl, rfl⟩ := hc
  exact lv_dup2_11 hx hb hd (by rw [wv_cat]; exact hv) (by rw [wv_cat]; exact hu) k
theorem so_32 (C : cx_ p s m args meth c bs b L nL z0 xs D cA o kd cc) (hd : decode cc pc = .ok (i, ln)) (hc : (ln == 1 && decide (i = .iaload)) = true) {j : Int32} (hj : ¬ (j < 0 ∨ L ≤ j.toNatClampNeg)) (hk : go_ p l e R s m args below meth c Q bs b nL D cA z0 s0 (pc + ln) ls (.int (xs j.toNatClampNeg) :: st) h) : go_ p l e R s m args below meth c Q bs b nL D cA z0 s0 pc ls (.int j :: .ref 0 :: st) h := by
  obtain ⟨hx, hb, hml, hown, hts, -, -, -, hX, hbb, hbs, -⟩ := C
  intro H locs cells slots la hp hz hs hl
  have k := hk H locs cells slots la hp hz hs hl
  simp only [Bool.and_eq_true, beq_iff_eq, decide_eq_true_iff] at hc
  obtain ⟨rfl, rfl⟩ := hc
  exact va_sld hx hb hX (by omega) (Nat.not_le.mpr hbb) hp.2.2 hj hd k
theorem so_33 (C : cx_ p s m args meth c bs b L nL z0 xs D cA o kd cc) (hd : decode cc pc = .ok (i, ln)) (hc : (ln == 1 && decide (i = .arraylength)) = true) (hk : go_ p l e R s m args below meth c Q bs b nL D cA z0 s0 (pc + ln) ls (.int (Int32.ofNat L) :: st) h) : go_ p l e R s m args below meth c Q bs b nL D cA z0 s0 pc ls (.ref 0 :: st) h := by
  obtain ⟨hx, hb, hml, hown, hts, -, -, -, hX, hbb, hbs, -⟩ := C
  intro H locs cells slots la hp hz hs hl
  have k := hk H locs cells slots la hp hz hs hl
  simp only [Bool.and_eq_true, beq_iff_eq, decide_eq_true_iff] at hc
  obtain ⟨rfl, rfl⟩ := hc
  exact va_slen hx hb hX (by omega) (Nat.not_le.mpr hbb) hp.2.2 hd k
end SO
