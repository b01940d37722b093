def wa_fl (o idx ci k : Nat) : Bool := lt_f.any fun q => Nat.beq q.2.1 idx && (Nat.beq q.1 o && (Nat.beq q.2.2.1 ci && Nat.beq q.2.2.2 k))
def wa_ml (o idx x : Nat) : Bool := lt_m.any fun q => Nat.beq q.2.1 idx && (Nat.beq q.1 o && Nat.beq q.2.2 x)
def wa_nl (o idx x : Nat) : Bool := lt_w.any fun q => Nat.beq q.2.1 idx && (Nat.beq q.1 o && Nat.beq q.2.2 x)
def wa_kl (o idx ci : Nat) : Bool := lt_k.any fun q => Nat.beq q.2.1 idx && (Nat.beq q.1 o && Nat.beq q.2.2 ci)
def wa_ci (o idx : Nat) (v : Int32) : Bool := lt_c.any fun q => Nat.beq q.2.1 idx && (Nat.beq q.1 o && q.2.2 == v)
def wa_cl (o idx : Nat) (v : Int64) : Bool := lt_d.any fun q => Nat.beq q.2.1 idx && (Nat.beq q.1 o && q.2.2 == v)
theorem wa_ml_in {o idx x : Nat} (h : wa_ml o idx x = true) : Jvm.Cond.methodLink (cn_ o) idx (yc_ x) ∈ ww_ := by
  obtain ⟨q, hq, h⟩ := List.any_eq_true.mp h
  simp only [Bool.and_eq_true, Nat.beq_eq] at h
  obtain ⟨rfl, rfl, rfl⟩ := h
  exact lt_m_in q hq
theorem wa_nl_in {o idx x : Nat} (h : wa_nl o idx x = true) : ∃ host, Jvm.Cond.methodLinkNest (cn_ o) idx (yc_ x) host ∈ nw_ := by
  obtain ⟨q, hq, h⟩ := List.any_eq_true.mp h
  simp only [Bool.and_eq_true, Nat.beq_eq] at h
  obtain ⟨rfl, rfl, rfl⟩ := h
  exact lt_w_in q hq
theorem wa_kl_in {o idx ci : Nat} (h : wa_kl o idx ci = true) : Jvm.Cond.classLink (cn_ o) idx (cn_ ci) ∈ ww_ := by
  obtain ⟨q, hq, h⟩ := List.any_eq_true.mp h
  simp only [Bool.and_eq_true, Nat.beq_eq] at h
  obtain ⟨rfl, rfl, rfl⟩ := h
  exact lt_k_in q hq
theorem wa_fl_in {o idx ci k : Nat} {q : vw_C} (hq : vwCl[ci]? = some q) (h : wa_fl o idx ci k = true) : Jvm.Cond.fieldLink (cn_ o) idx (q.2.1 k).1 (q.2.1 k).2.1 (q.2.1 k).2.2.1 ∈ ww_ := by
  obtain ⟨r, hr, h⟩ := List.any_eq_true.mp h
  simp only [Bool.and_eq_true, Nat.beq_eq] at h
  obtain ⟨rfl, rfl, rfl, rfl⟩ := h
  exact lt_f_in r hr q hq
theorem wa_ci_in {o idx : Nat} {v : Int32} (h : wa_ci o idx v = true) : Jvm.Cond.constant (cn_ o) idx v ∈ ww_ := by
  obtain ⟨q, hq, h⟩ := List.any_eq_true.mp h
  simp only [Bool.and_eq_true, Nat.beq_eq, beq_iff_eq] at h
  obtain ⟨rfl, rfl, rfl⟩ := h
  exact lt_c_in q hq
theorem wa_cl_in {o idx : Nat} {v : Int64} (h : wa_cl o idx v = true) : Jvm.Cond.constantLong (cn_ o) idx v ∈ ww_ := by
  obtain ⟨q, hq, h⟩ := List.any_eq_true.mp h
  simp only [Bool.and_eq_true, Nat.beq_eq, beq_iff_eq] at h
  obtain ⟨rfl, rfl, rfl⟩ := h
  exact lt_d_in q hq
def ch_0 (o : Nat) (i : Instr) (ln : Nat) (w : Int) : Bool := match i with
  | .iconst n => ln == 1 && Int32.ofInt n == Int32.ofInt w
  | .bipush n => ln == 2 && (Int8.ofInt n).toInt32 == Int32.ofInt w
  | .sipush n => ln == 3 && (Int16.ofInt n).toInt32 == Int32.ofInt w
  | .ldc k => ln == 2 && wa_ci o k (Int32.ofInt w)
  | _ => false
def ch_1 (o : Nat) (i : Instr) (ln : Nat) (w : Int) : Bool := match i with
  | .lconst n => ln == 1 && Int64.ofNat n.val == Int64.ofInt w
  | .ldc2_w k => ln == 3 && wa_cl o k (Int64.ofInt w)
  | _ => false
def ch_2 (i : Instr) (ln x y : Nat) : Bool := match i with
  | .iload_n k => ln == 1 && (k.val == x && y == 0)
  | .iload k => ln == 2 && (k == x && y == 0)
  | .lload_n k => ln == 1 && (k.val == x && y == 1)
  | .lload k => ln == 2 && (k == x && y == 1)
  | .aload_n k => ln == 1 && (k.val == x && y == 2)
  | .aload k => ln == 2 && (k == x && y == 2)
  | _ => false
def ch_3 (nL : Nat) (i : Instr) (ln x y : Nat) : Bool := decide (x + 1 < nL ∨ (x < nL ∧ y ≠ 1)) && match i with
  | .istore_n k => ln == 1 && (k.val == x && y == 0)
  | .istore k => ln == 2 && (k == x && y == 0)
  | .lstore_n k => ln == 1 && (k.val == x && y == 1)
  | .lstore k => ln == 2 && (k == x && y == 1)
  | .astore_n k => ln == 1 && (k.val == x && y == 2)
  | .astore k => ln == 2 && (k == x && y == 2)
  | _ => false
def ch_4 (nL : Nat) (i : Instr) (ln x : Nat) (w : Int) : Bool := match i with
  | .iinc k n => ln == 3 && (k == x && (n == w && decide (x < nL)))
  | _ => false
def ch_5 (i : Instr) (ln x : Nat) : Bool := ln == 1 && match i with
  | .iadd => x == 0
  | .isub => x == 1
  | .imul => x == 2
  | .iand => x == 3
  | .ior => x == 4
  | .ishl => x == 5
  | .ishr => x == 6
  | .iushr => x == 7
  | .idiv => x == 8
  | .irem => x == 9
  | _ => false
def ch_6 (i : Instr) (ln x : Nat) : Bool := ln == 1 && match i with
  | .ladd => x == 0
  | .lsub => x == 1
  | .lmul => x == 2
  | .land => x == 3
  | .lor => x == 4
  | _ => false
def ch_7 (i : Instr) (ln x : Nat) : Bool := ln == 1 && match i with
  | .lshl => x == 0
  | .lshr => x == 1
  | .lushr => x == 2
  | _ => false
def ch_8 (i : Instr) (ln x : Nat) : Bool := ln == 1 && match i with
  | .i2l => x == 0
  | .l2i => x == 1
  | .i2b => x == 2
  | _ => false
def ch_9 (i : Instr) (ln : Nat) : Bool := ln == 1 && decide (i = .lcmp)
def ch_cd (c : ClassFile.Cond) : Nat := match c with
  | .eq => 0
  | .ne => 1
  | .lt => 2
  | .ge => 3
  | .gt => 4
  | .le => 5
def ch_10 (pc : Nat) (i : Instr) (ln x y : Nat) : Bool := ln == 3 && match i with
  | .ifCond c off => ch_cd c == x && (pc : Int) + off == (y : Int)
  | _ => false
def ch_11 (pc : Nat) (i : Instr) (ln x y : Nat) : Bool := ln == 3 && match i with
  | .if_icmp c off => ch_cd c == x && (pc : Int) + off == (y : Int)
  | _ => false
def ch_12 (pc : Nat) (i : Instr) (ln y : Nat) : Bool := ln == 3 && match i with
  | .goto off => (pc : Int) + off == (y : Int)
  | _ => false
def ch_f (o : Nat) (idx x y z : Nat) : Bool := match vwCl[x - 10]? with
  | some q => decide (10 ≤ x) && (decide (y < q.2.2) && (fk_ (x - 10) y == z && wa_fl o idx (x - 10) y))
  | none => false
def ch_13 (o : Nat) (i : Instr) (ln x y z : Nat) : Bool := ln == 3 && match i with
  | .getfield k => ch_f o k x y z
  | _ => false
def ch_tz (t : FieldType) (z : Nat) : Bool := match z with
  | 0 => decide (t = .int)
  | 1 => decide (t = .boolean)
  | 2 => match t with
    | .object _ => true
    | .array _ => true
    | _ => false
  | _ => false
def ch_fin (o kd : Nat) (x y : Nat) : Bool := match vwCl[x - 10]? with
  | some q => !(q.2.1 y).2.2.2 || (x - 10 == o && kd == 2)
  | none => false
def ch_14 (o kd : Nat) (i : Instr) (ln x y z : Nat) (w : Int) : Bool := ln == 3 && match i with
  | .putfield k => ch_f o k x y z && (ch_tz (tyc_ (x - 10) y) z && (ch_fin o kd x y && (z != 2 || decide (1 ≤ w))))
  | _ => false
def ch_15 (i : Instr) (ln x : Nat) : Bool := ln == 1 && match i with
  | .iaload => x == 1
  | .baload => x == 2 || x == 3
  | .laload => x == 4
  | .aaload => x == 5
  | _ => false
def ch_16 (i : Instr) (ln x y : Nat) : Bool := ln == 1 && match i with
  | .iastore => x == 1
  | .bastore => x == 2 || x == 3
  | .lastore => x == 4
  | .aastore => x == 5 && y == 11
  | _ => false
def ch_17 (i : Instr) (ln x : Nat) : Bool := ln == 1 && (decide (i = .arraylength) && (decide (1 ≤ x) && decide (x ≤ 5)))
def ch_21 (o : Nat) (i : Instr) (ln x y : Nat) : Bool := ln == 3 && match i with
  | .new k => match vwCl[x - 10]? with
    | some q => decide (10 ≤ x) && (y == q.2.2 && wa_kl o k (x - 10))
    | none => false
  | _ => false
def ch_22 (o : Nat) (i : Instr) (ln x : Nat) : Bool := match i with
  | .newarray .int => ln == 2 && x == 1
  | .newarray .boolean => ln == 2 && x == 2
  | .newarray .byte => ln == 2 && x == 3
  | .newarray .long => ln == 2 && x == 4
  | .anewarray k => ln == 3 && (x == 5 && wa_kl o k 1)
  | _ => false
def ch_rz (r : Option FieldType) (z : Nat) : Bool := match z with
  | 0 => decide (r = none)
  | 1 => decide (r = some .int) || decide (r = some .boolean)
  | 2 => decide (r = some .long)
  | 3 => match r with
    | some (.object _) => true
    | _ => false
  | _ => false
def ch_24 (o : Nat) (i : Instr) (ln x y z : Nat) (w : Int) : Bool := ln == 3 && (decide (x < 187) && (ch_rz (mi_ x).2.2.2 z && match i with
  | .invokevirtual k => mk_k x == 1 && (np_ x == y - 1 && (decide (1 ≤ y) && (decide (10 ≤ w) && ((w.toNat - 10 == mw_ x && decide (mw_ x < 10)) && (wa_ml o k x || wa_nl o k x)))))
  | .invokespecial k => mk_k x == 2 && (np_ x == y - 1 && (decide (1 ≤ y) && (decide (10 ≤ w) && (wa_ml o k x || wa_nl o k x))))
  | .invokestatic k => mk_k x == 0 && (np_ x == y && (w == -1 && (wa_ml o k x || wa_nl o k x)))
  | _ => false))
def ch_25 (o : Nat) (i : Instr) (ln : Nat) : Bool := ln == 3 && match i with
  | .invokespecial k => wa_ml o k 1000
  | _ => false
def ch_26 (o : Nat) (i : Instr) (ln : Nat) : Bool := ln == 3 && match i with
  | .invokestatic k => wa_ml o k 1001
  | _ => false
def ch_28 (o : Nat) (i : Instr) (ln : Nat) (y : Nat) : Bool := ln == 3 && match i with
  | .invokestatic k => wa_ml o k y
  | _ => false
def ch_27 (rt : Option FieldType) (i : Instr) (ln x : Nat) : Bool := ln == 1 && match i with
  | .ireturn => (x == 0 && decide (rt = some .int)) || (x == 1 && decide (rt = some .boolean))
  | .lreturn => x == 2 && decide (rt = some .long)
  | .areturn => x == 3 && match rt with
    | some (.object _) => true
    | _ => false
  | _ => false
def ch_30 (rt : Option FieldType) (i : Instr) (ln : Nat) : Bool := ln == 1 && (decide (i = .return_) && decide (rt = none))
def ch_31 (sw : Nat → List (Int × Nat)) (pc : Nat) (i : Instr) (x y : Nat) : Bool := match i with
  | .tableswitch d lo hi offs => (pc : Int) + d == (y : Int) && (decide (-2147483648 ≤ lo) && (decide (hi ≤ 2147483647) && (hi - lo + 1 == (offs.size : Int) && (sw x == (List.range offs.size).map (fun (j : Nat) => (lo + (j : Int), ((pc : Int) + offs.getD j 0).toNat)) && offs.toList.all (fun o => decide (0 ≤ (pc : Int) + o))))))
  | .lookupswitch d ps => (pc : Int) + d == (y : Int) && ((ps.toList.zip (ps.toList.drop 1)).all (fun (a, next) => a.1 < next.1) && (sw x == ps.toList.map (fun q => (q.1, ((pc : Int) + q.2).toNat)) && ps.toList.all (fun q => decide (0 ≤ (pc : Int) + q.2) && (decide (-2147483648 ≤ q.1) && decide (q.1 ≤ 2147483647)))))
  | _ => false
def ch_ (o kd : Nat) (rt : Option FieldType) (nL : Nat) (sw : Nat → List (Int × Nat)) (pc : Nat) (i : Instr) (ln : Nat) (e : en_) : Bool := ln == e.2.1 && match e.1 with
  | 0 => ch_0 o i ln e.2.2.2.2.2
  | 1 => ch_1 o i ln e.2.2.2.2.2
  | 2 => ch_2 i ln e.2.2.1 e.2.2.2.1
  | 3 => ch_3 nL i ln e.2.2.1 e.2.2.2.1
  | 4 => ch_4 nL i ln e.2.2.1 e.2.2.2.2.2
  | 5 => ch_5 i ln e.2.2.1
  | 6 => ch_6 i ln e.2.2.1
  | 7 => ch_7 i ln e.2.2.1
  | 8 => ch_8 i ln e.2.2.1
  | 9 => ch_9 i ln
  | 10 => ch_10 pc i ln e.2.2.1 e.2.2.2.1
  | 11 => ch_11 pc i ln e.2.2.1 e.2.2.2.1
  | 12 => ch_12 pc i ln e.2.2.2.1
  | 13 => ch_13 o i ln e.2.2.1 e.2.2.2.1 e.2.2.2.2.1
  | 14 => ch_14 o kd i ln e.2.2.1 e.2.2.2.1 e.2.2.2.2.1 e.2.2.2.2.2
  | 15 => ch_15 i ln e.2.2.1
  | 16 => ch_16 i ln e.2.2.1 e.2.2.2.1
  | 17 => ch_17 i ln e.2.2.1
  | 18 => ln == 1 && decide (i = .dup)
  | 19 => ln == 1 && decide (i = .pop)
  | 20 => ln == 1 && decide (i = .dup2)
  | 21 => ch_21 o i ln e.2.2.1 e.2.2.2.1
  | 22 => ch_22 o i ln e.2.2.1
  | 24 => ch_24 o i ln e.2.2.1 e.2.2.2.1 e.2.2.2.2.1 e.2.2.2.2.2
  | 25 => ch_25 o i ln
  | 26 => ch_26 o i ln
  | 27 => ch_27 rt i ln e.2.2.1
  | 28 => ch_28 o i ln 1002
  | 29 => ch_28 o i ln 1003
  | 30 => ch_30 rt i ln
  | 31 => ch_31 sw pc i e.2.2.1 e.2.2.2.1
  | 32 => ln == 1 && decide (i = .iaload)
  | 33 => ln == 1 && decide (i = .arraylength)
  | _ => false
def ch_at (cc : ByteArray) (o kd : Nat) (rt : Option FieldType) (nL : Nat) (mt : mt_) (pc : Nat) : Bool := (mt.1 pc).1 == 99 || match decode cc pc with
  | .ok q => ch_ o kd rt nL mt.2.2.1 pc q.1 q.2 (mt.1 pc)
  | .error _ => false
