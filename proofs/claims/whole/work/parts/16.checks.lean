theorem ct_ {cc : ByteArray} {o kd : Nat} {rt : Option FieldType} {nL N : Nat} {mt : mt_} (h0 : ∀ pc, N ≤ pc → (mt.1 pc).1 = 99) (h1 : (List.range N).all (ch_at cc o kd rt nL mt) = true) (pc : Nat) : ch_at cc o kd rt nL mt pc = true := by
  by_cases h : pc < N
  · exact List.all_eq_true.mp h1 pc (List.mem_range.mpr h)
  · unfold ch_at
    rw [h0 pc (Nat.not_lt.mp h)]
    rfl
theorem cb_ {α : Type} {N pc : Nat} {a b : α} (h : N ≤ pc) : cond (Nat.ble N pc) a b = a := by
  rw [Nat.ble_eq_true_of_le h]
  rfl
def ca_ (x : Nat) : Prop := ∀ pc, ch_at (mi_ x).2.1 (mw_ x) (mk_k x) (mi_ x).2.2.2 (mi_ x).2.2.1 (mp_ x) pc = true
theorem cg_ {f : Nat → Bool} {lo n : Nat} (h : (List.range' lo n).all f = true) {pc : Nat} (h1 : lo ≤ pc) (h2 : pc < lo + n) : f pc = true := List.all_eq_true.mp h pc (List.mem_range'_1.mpr ⟨h1, h2⟩)
set_option maxRecDepth 100000 in
theorem ck_0 : ca_ 0 := ct_ (N := 41) (fun pc h => congrArg Prod.fst (cb_ h)) (by decide +kernel)
set_option maxRecDepth 100000 in
theorem ck_1 : ca_ 1 := ct_ (N := 130) (fun pc h => congrArg Prod.fst (cb_ h)) (by decide +kernel)
set_option maxRecDepth 100000 in
theorem ck_2 : ca_ 2 := ct_ (N := 66) (fun pc h => congrArg Prod.fst (cb_ h)) (by decide +kernel)
set_option maxRecDepth 100000 in
theorem ck_3 : ca_ 3 := ct_ (N := 124) (fun pc h => congrArg Prod.fst (cb_ h)) (by decide +kernel)
set_option maxRecDepth 100000 in
theorem ck_4 : ca_ 4 := ct_ (N := 115) (fun pc h => congrArg Prod.fst (cb_ h)) (by decide +kernel)
set_option maxRecDepth 100000 in
theorem ck_5 : ca_ 5 := ct_ (N := 39) (fun pc h => congrArg Prod.fst (cb_ h)) (by decide +kernel)
set_option maxRecDepth 100000 in
theorem ck_6 : ca_ 6 := ct_ (N := 42) (fun pc h => congrArg Prod.fst (cb_ h)) (by decide +kernel)
set_option maxRecDepth 100000 in
theorem ck_7 : ca_ 7 := ct_ (N := 18) (fun pc h => congrArg Prod.fst (cb_ h)) (by decide +kernel)
set_option maxRecDepth 100000 in
theorem ck_8 : ca_ 8 := ct_ (N := 18) (fun pc h => congrArg Prod.fst (cb_ h)) (by decide +kernel)
set_option maxRecDepth 100000 in
theorem ck_9 : ca_ 9 := ct_ (N := 14) (fun pc h => congrArg Prod.fst (cb_ h)) (by decide +kernel)
set_option maxRecDepth 100000 in
theorem ck_10 : ca_ 10 := ct_ (N := 15) (fun pc h => congrArg Prod.fst (cb_ h)) (by decide +kernel)
set_option maxRecDepth 100000 in
theorem ck_11 : ca_ 11 := ct_ (N := 24) (fun pc h => congrArg Prod.fst (cb_ h)) (by decide +kernel)
set_option maxRecDepth 100000 in
theorem ck_12 : ca_ 12 := ct_ (N := 32) (fun pc h => congrArg Prod.fst (cb_ h)) (by decide +kernel)
set_option maxRecDepth 100000 in
theorem ck_13 : ca_ 13 := ct_ (N := 35) (fun pc h => congrArg Prod.fst (cb_ h)) (by decide +kernel)
set_option maxRecDepth 100000 in
theorem ck_14 : ca_ 14 := ct_ (N := 88) (fun pc h => congrArg Prod.fst (cb_ h)) (by decide +kernel)
set_option maxRecDepth 100000 in
theorem ck_15 : ca_ 15 := ct_ (N := 61) (fun pc h => congrArg Prod.fst (cb_ h)) (by decide +kernel)
set_option maxRecDepth 100000 in
theorem ck_16 : ca_ 16 := ct_ (N := 145) (fun pc h => congrArg Prod.fst (cb_ h)) (by decide +kernel)
set_option maxRecDepth 100000 in
theorem ck_17 : ca_ 17 := ct_ (N := 12) (fun pc h => congrArg Prod.fst (cb_ h)) (by decide +kernel)
set_option maxRecDepth 100000 in
theorem ck_18 : ca_ 18 := ct_ (N := 123) (fun pc h => congrArg Prod.fst (cb_ h)) (by decide +kernel)
set_option maxRecDepth 100000 in
theorem ck_19 : ca_ 19 := ct_ (N := 41) (fun pc h => congrArg Prod.fst (cb_ h)) (by decide +kernel)
set_option maxRecDepth 100000 in
theorem ck_20 : ca_ 20 := ct_ (N := 38) (fun pc h => congrArg Prod.fst (cb_ h)) (by decide +kernel)
set_option maxRecDepth 100000 in
theorem ck_21 : ca_ 21 := ct_ (N := 82) (fun pc h => congrArg Prod.fst (cb_ h)) (by decide +kernel)
set_option maxRecDepth 100000 in
theorem ck_22 : ca_ 22 := ct_ (N := 70) (fun pc h => congrArg Prod.fst (cb_ h)) (by decide +kernel)
set_option maxRecDepth 100000 in
theorem ck_23 : ca_ 23 := ct_ (N := 100) (fun pc h => congrArg Prod.fst (cb_ h)) (by decide +kernel)
set_option maxRecDepth 100000 in
theorem ck_24 : ca_ 24 := ct_ (N := 28) (fun pc h => congrArg Prod.fst (cb_ h)) (by decide +kernel)
set_option maxRecDepth 100000 in
theorem ck_25 : ca_ 25 := ct_ (N := 92) (fun pc h => congrArg Prod.fst (cb_ h)) (by decide +kernel)
set_option maxRecDepth 100000 in
theorem ck_26 : ca_ 26 := ct_ (N := 57) (fun pc h => congrArg Prod.fst (cb_ h)) (by decide +kernel)
set_option maxRecDepth 100000 in
theorem ck_27 : ca_ 27 := ct_ (N := 53) (fun pc h => congrArg Prod.fst (cb_ h)) (by decide +kernel)
set_option maxRecDepth 100000 in
theorem ck_28 : ca_ 28 := ct_ (N := 7) (fun pc h => congrArg Prod.fst (cb_ h)) (by decide +kernel)
set_option maxRecDepth 100000 in
theorem ck_29 : ca_ 29 := ct_ (N := 99) (fun pc h => congrArg Prod.fst (cb_ h)) (by decide +kernel)
set_option maxRecDepth 100000 in
theorem ck_30 : ca_ 30 := ct_ (N := 53) (fun pc h => congrArg Prod.fst (cb_ h)) (by decide +kernel)
set_option maxRecDepth 100000 in
theorem ck_31 : ca_ 31 := ct_ (N := 53) (fun pc h => congrArg Prod.fst (cb_ h)) (by decide +kernel)
set_option maxRecDepth 100000 in
theorem ck_32 : ca_ 32 := ct_ (N := 53) (fun pc h => congrArg Prod.fst (cb_ h)) (by decide +kernel)
set_option maxRecDepth 100000 in
theorem ck_33 : ca_ 33 := ct_ (N := 99) (fun pc h => congrArg Prod.fst (cb_ h)) (by decide +kernel)
set_option maxRecDepth 100000 in
theorem ck_34 : ca_ 34 := ct_ (N := 155) (fun pc h => congrArg Prod.fst (cb_ h)) (by decide +kernel)
set_option maxRecDepth 100000 in
theorem ck_35 : ca_ 35 := ct_ (N := 44) (fun pc h => congrArg Prod.fst (cb_ h)) (by decide +kernel)
set_option maxRecDepth 100000 in
theorem ck_36 : ca_ 36 := ct_ (N := 49) (fun pc h => congrArg Prod.fst (cb_ h)) (by decide +kernel)
set_option maxRecDepth 100000 in
theorem ck_37 : ca_ 37 := ct_ (N := 54) (fun pc h => congrArg Prod.fst (cb_ h)) (by decide +kernel)
set_option maxRecDepth 100000 in
theorem ck_38 : ca_ 38 := ct_ (N := 17) (fun pc h => congrArg Prod.fst (cb_ h)) (by decide +kernel)
set_option maxRecDepth 100000 in
theorem ck_39 : ca_ 39 := ct_ (N := 31) (fun pc h => congrArg Prod.fst (cb_ h)) (by decide +kernel)
set_option maxRecDepth 100000 in
theorem ck_40 : ca_ 40 := ct_ (N := 29) (fun pc h => congrArg Prod.fst (cb_ h)) (by decide +kernel)
set_option maxRecDepth 100000 in
theorem ck_41 : ca_ 41 := ct_ (N := 28) (fun pc h => congrArg Prod.fst (cb_ h)) (by decide +kernel)
set_option maxRecDepth 100000 in
theorem ck_42 : ca_ 42 := ct_ (N := 118) (fun pc h => congrArg Prod.fst (cb_ h)) (by decide +kernel)
set_option maxRecDepth 100000 in
theorem ck_43 : ca_ 43 := ct_ (N := 53) (fun pc h => congrArg Prod.fst (cb_ h)) (by decide +kernel)
set_option maxRecDepth 100000 in
theorem ck_44 : ca_ 44 := ct_ (N := 80) (fun pc h => congrArg Prod.fst (cb_ h)) (by decide +kernel)
set_option maxRecDepth 100000 in
theorem ck_45 : ca_ 45 := ct_ (N := 21) (fun pc h => congrArg Prod.fst (cb_ h)) (by decide +kernel)
set_option maxRecDepth 100000 in
theorem ck_46 : ca_ 46 := ct_ (N := 41) (fun pc h => congrArg Prod.fst (cb_ h)) (by decide +kernel)
set_option maxRecDepth 100000 in
theorem ck_47 : ca_ 47 := ct_ (N := 14) (fun pc h => congrArg Prod.fst (cb_ h)) (by decide +kernel)
set_option maxRecDepth 100000 in
theorem ck_48 : ca_ 48 := ct_ (N := 156) (fun pc h => congrArg Prod.fst (cb_ h)) (by decide +kernel)
set_option maxRecDepth 100000 in
theorem ck_49 : ca_ 49 := ct_ (N := 14) (fun pc h => congrArg Prod.fst (cb_ h)) (by decide +kernel)
set_option maxRecDepth 100000 in
theorem ck_50 : ca_ 50 := ct_ (N := 50) (fun pc h => congrArg Prod.fst (cb_ h)) (by decide +kernel)
set_option maxRecDepth 100000 in
theorem ck_51 : ca_ 51 := ct_ (N := 22) (fun pc h => congrArg Prod.fst (cb_ h)) (by decide +kernel)
set_option maxRecDepth 100000 in
theorem ck_52 : ca_ 52 := ct_ (N := 10) (fun pc h => congrArg Prod.fst (cb_ h)) (by decide +kernel)
set_option maxRecDepth 100000 in
theorem ck_53 : ca_ 53 := ct_ (N := 32) (fun pc h => congrArg Prod.fst (cb_ h)) (by decide +kernel)
set_option maxRecDepth 100000 in
theorem ck_54 : ca_ 54 := ct_ (N := 34) (fun pc h => congrArg Prod.fst (cb_ h)) (by decide +kernel)
set_option maxRecDepth 100000 in
theorem ck_55 : ca_ 55 := ct_ (N := 14) (fun pc h => congrArg Prod.fst (cb_ h)) (by decide +kernel)
set_option maxRecDepth 100000 in
theorem ck_56 : ca_ 56 := ct_ (N := 29) (fun pc h => congrArg Prod.fst (cb_ h)) (by decide +kernel)
set_option maxRecDepth 100000 in
theorem ck_57 : ca_ 57 := ct_ (N := 69) (fun pc h => congrArg Prod.fst (cb_ h)) (by decide +kernel)
set_option maxRecDepth 100000 in
theorem ck_58 : ca_ 58 := ct_ (N := 133) (fun pc h => congrArg Prod.fst (cb_ h)) (by decide +kernel)
set_option maxRecDepth 100000 in
theorem ck_59 : ca_ 59 := ct_ (N := 124) (fun pc h => congrArg Prod.fst (cb_ h)) (by decide +kernel)
set_option maxRecDepth 100000 in
theorem ck_60 : ca_ 60 := ct_ (N := 12) (fun pc h => congrArg Prod.fst (cb_ h)) (by decide +kernel)
set_option maxRecDepth 100000 in
theorem ck_61 : ca_ 61 := ct_ (N := 52) (fun pc h => congrArg Prod.fst (cb_ h)) (by decide +kernel)
set_option maxRecDepth 100000 in
theorem ck_62 : ca_ 62 := ct_ (N := 43) (fun pc h => congrArg Prod.fst (cb_ h)) (by decide +kernel)
set_option maxRecDepth 100000 in
theorem ck_63 : ca_ 63 := ct_ (N := 140) (fun pc h => congrArg Prod.fst (cb_ h)) (by decide +kernel)
set_option maxRecDepth 100000 in
theorem ck_64 : ca_ 64 := ct_ (N := 16) (fun pc h => congrArg Prod.fst (cb_ h)) (by decide +kernel)
set_option maxRecDepth 100000 in
theorem ck_65 : ca_ 65 := ct_ (N := 19) (fun pc h => congrArg Prod.fst (cb_ h)) (by decide +kernel)
set_option maxRecDepth 100000 in
theorem ck_66 : ca_ 66 := ct_ (N := 71) (fun pc h => congrArg Prod.fst (cb_ h)) (by decide +kernel)
set_option maxRecDepth 100000 in
theorem ck_67 : ca_ 67 := ct_ (N := 12) (fun pc h => congrArg Prod.fst (cb_ h)) (by decide +kernel)
set_option maxRecDepth 100000 in
theorem ck_68 : ca_ 68 := ct_ (N := 46) (fun pc h => congrArg Prod.fst (cb_ h)) (by decide +kernel)
set_option maxRecDepth 100000 in
theorem ck_69 : ca_ 69 := ct_ (N := 76) (fun pc h => congrArg Prod.fst (cb_ h)) (by decide +kernel)
set_option maxRecDepth 100000 in
theorem ck_70 : ca_ 70 := ct_ (N := 56) (fun pc h => congrArg Prod.fst (cb_ h)) (by decide +kernel)
set_option maxRecDepth 100000 in
theorem ck_71 : ca_ 71 := ct_ (N := 85) (fun pc h => congrArg Prod.fst (cb_ h)) (by decide +kernel)
set_option maxRecDepth 100000 in
theorem ck_72 : ca_ 72 := ct_ (N := 204) (fun pc h => congrArg Prod.fst (cb_ h)) (by decide +kernel)
set_option maxRecDepth 100000 in
theorem ck_73 : ca_ 73 := ct_ (N := 42) (fun pc h => congrArg Prod.fst (cb_ h)) (by decide +kernel)
set_option maxRecDepth 100000 in
theorem ck_74 : ca_ 74 := ct_ (N := 82) (fun pc h => congrArg Prod.fst (cb_ h)) (by decide +kernel)
set_option maxRecDepth 100000 in
theorem ck_75 : ca_ 75 := ct_ (N := 81) (fun pc h => congrArg Prod.fst (cb_ h)) (by decide +kernel)
set_option maxRecDepth 100000 in
theorem ck_76 : ca_ 76 := ct_ (N := 244) (fun pc h => congrArg Prod.fst (cb_ h)) (by decide +kernel)
set_option maxRecDepth 100000 in
theorem ck_77 : ca_ 77 := ct_ (N := 75) (fun pc h => congrArg Prod.fst (cb_ h)) (by decide +kernel)
set_option maxRecDepth 100000 in
theorem ck_78 : ca_ 78 := ct_ (N := 187) (fun pc h => congrArg Prod.fst (cb_ h)) (by decide +kernel)
set_option maxRecDepth 100000 in
theorem ck_79 : ca_ 79 := ct_ (N := 75) (fun pc h => congrArg Prod.fst (cb_ h)) (by decide +kernel)
set_option maxRecDepth 100000 in
theorem ck_80 : ca_ 80 := ct_ (N := 75) (fun pc h => congrArg Prod.fst (cb_ h)) (by decide +kernel)
set_option maxRecDepth 100000 in
theorem ck_81 : ca_ 81 := ct_ (N := 106) (fun pc h => congrArg Prod.fst (cb_ h)) (by decide +kernel)
set_option maxRecDepth 100000 in
theorem ck_82 : ca_ 82 := ct_ (N := 41) (fun pc h => congrArg Prod.fst (cb_ h)) (by decide +kernel)
set_option maxRecDepth 100000 in
theorem ck_83 : ca_ 83 := ct_ (N := 64) (fun pc h => congrArg Prod.fst (cb_ h)) (by decide +kernel)
set_option maxRecDepth 100000 in
theorem ck_84 : ca_ 84 := ct_ (N := 43) (fun pc h => congrArg Prod.fst (cb_ h)) (by decide +kernel)
set_option maxRecDepth 100000 in
theorem ck_85 : ca_ 85 := ct_ (N := 34) (fun pc h => congrArg Prod.fst (cb_ h)) (by decide +kernel)
set_option maxRecDepth 100000 in
theorem ck_86 : ca_ 86 := ct_ (N := 83) (fun pc h => congrArg Prod.fst (cb_ h)) (by decide +kernel)
set_option maxRecDepth 100000 in
theorem ck_87 : ca_ 87 := ct_ (N := 62) (fun pc h => congrArg Prod.fst (cb_ h)) (by decide +kernel)
set_option maxRecDepth 100000 in
theorem ck_88 : ca_ 88 := ct_ (N := 49) (fun pc h => congrArg Prod.fst (cb_ h)) (by decide +kernel)
set_option maxRecDepth 100000 in
theorem ck_89 : ca_ 89 := ct_ (N := 34) (fun pc h => congrArg Prod.fst (cb_ h)) (by decide +kernel)
set_option maxRecDepth 100000 in
theorem ck_90 : ca_ 90 := ct_ (N := 106) (fun pc h => congrArg Prod.fst (cb_ h)) (by decide +kernel)
set_option maxRecDepth 100000 in
theorem ck_91 : ca_ 91 := ct_ (N := 69) (fun pc h => congrArg Prod.fst (cb_ h)) (by decide +kernel)
set_option maxRecDepth 100000 in
theorem ck_92 : ca_ 92 := ct_ (N := 28) (fun pc h => congrArg Prod.fst (cb_ h)) (by decide +kernel)
set_option maxRecDepth 100000 in
theorem ck_93 : ca_ 93 := ct_ (N := 56) (fun pc h => congrArg Prod.fst (cb_ h)) (by decide +kernel)
set_option maxRecDepth 100000 in
theorem ck_94 : ca_ 94 := ct_ (N := 53) (fun pc h => congrArg Prod.fst (cb_ h)) (by decide +kernel)
set_option maxRecDepth 100000 in
theorem ck_95 : ca_ 95 := ct_ (N := 63) (fun pc h => congrArg Prod.fst (cb_ h)) (by decide +kernel)
set_option maxRecDepth 100000 in
theorem ck_96 : ca_ 96 := ct_ (N := 61) (fun pc h => congrArg Prod.fst (cb_ h)) (by decide +kernel)
set_option maxRecDepth 100000 in
theorem ck_97 : ca_ 97 := ct_ (N := 36) (fun pc h => congrArg Prod.fst (cb_ h)) (by decide +kernel)
set_option maxRecDepth 100000 in
theorem ck_98 : ca_ 98 := ct_ (N := 35) (fun pc h => congrArg Prod.fst (cb_ h)) (by decide +kernel)
set_option maxRecDepth 100000 in
theorem ck_99 : ca_ 99 := ct_ (N := 87) (fun pc h => congrArg Prod.fst (cb_ h)) (by decide +kernel)
set_option maxRecDepth 100000 in
theorem ck_100 : ca_ 100 := ct_ (N := 29) (fun pc h => congrArg Prod.fst (cb_ h)) (by decide +kernel)
set_option maxRecDepth 100000 in
theorem ck_101 : ca_ 101 := ct_ (N := 8) (fun pc h => congrArg Prod.fst (cb_ h)) (by decide +kernel)
set_option maxRecDepth 100000 in
theorem ck_102 : ca_ 102 := ct_ (N := 38) (fun pc h => congrArg Prod.fst (cb_ h)) (by decide +kernel)
set_option maxRecDepth 100000 in
theorem ck_103 : ca_ 103 := ct_ (N := 42) (fun pc h => congrArg Prod.fst (cb_ h)) (by decide +kernel)
set_option maxRecDepth 100000 in
theorem ck_104 : ca_ 104 := ct_ (N := 113) (fun pc h => congrArg Prod.fst (cb_ h)) (by decide +kernel)
set_option maxRecDepth 100000 in
theorem ck_105 : ca_ 105 := ct_ (N := 10) (fun pc h => congrArg Prod.fst (cb_ h)) (by decide +kernel)
set_option maxRecDepth 100000 in
theorem ck_106 : ca_ 106 := ct_ (N := 16) (fun pc h => congrArg Prod.fst (cb_ h)) (by decide +kernel)
set_option maxRecDepth 100000 in
theorem ck_107 : ca_ 107 := ct_ (N := 16) (fun pc h => congrArg Prod.fst (cb_ h)) (by decide +kernel)
set_option maxRecDepth 100000 in
theorem ck_108 : ca_ 108 := ct_ (N := 26) (fun pc h => congrArg Prod.fst (cb_ h)) (by decide +kernel)
set_option maxRecDepth 100000 in
theorem ck_109 : ca_ 109 := ct_ (N := 45) (fun pc h => congrArg Prod.fst (cb_ h)) (by decide +kernel)
set_option maxRecDepth 100000 in
theorem ck_110 : ca_ 110 := ct_ (N := 329) (fun pc h => congrArg Prod.fst (cb_ h)) (by decide +kernel)
set_option maxRecDepth 100000 in
theorem ck_111 : ca_ 111 := ct_ (N := 19) (fun pc h => congrArg Prod.fst (cb_ h)) (by decide +kernel)
set_option maxRecDepth 100000 in
theorem ck_112 : ca_ 112 := ct_ (N := 16) (fun pc h => congrArg Prod.fst (cb_ h)) (by decide +kernel)
set_option maxRecDepth 100000 in
theorem ck_113 : ca_ 113 := ct_ (N := 12) (fun pc h => congrArg Prod.fst (cb_ h)) (by decide +kernel)
set_option maxRecDepth 100000 in
theorem ck_114 : ca_ 114 := ct_ (N := 10) (fun pc h => congrArg Prod.fst (cb_ h)) (by decide +kernel)
set_option maxRecDepth 100000 in
theorem ck_115 : ca_ 115 := ct_ (N := 124) (fun pc h => congrArg Prod.fst (cb_ h)) (by decide +kernel)
set_option maxRecDepth 100000 in
theorem ck_116 : ca_ 116 := ct_ (N := 31) (fun pc h => congrArg Prod.fst (cb_ h)) (by decide +kernel)
set_option maxRecDepth 100000 in
theorem ck_117 : ca_ 117 := ct_ (N := 74) (fun pc h => congrArg Prod.fst (cb_ h)) (by decide +kernel)
set_option maxRecDepth 100000 in
theorem ck_118 : ca_ 118 := ct_ (N := 48) (fun pc h => congrArg Prod.fst (cb_ h)) (by decide +kernel)
set_option maxRecDepth 100000 in
theorem ck_119 : ca_ 119 := ct_ (N := 33) (fun pc h => congrArg Prod.fst (cb_ h)) (by decide +kernel)
set_option maxRecDepth 100000 in
theorem ck_120 : ca_ 120 := ct_ (N := 110) (fun pc h => congrArg Prod.fst (cb_ h)) (by decide +kernel)
set_option maxRecDepth 100000 in
theorem ck_121 : ca_ 121 := ct_ (N := 67) (fun pc h => congrArg Prod.fst (cb_ h)) (by decide +kernel)
set_option maxRecDepth 100000 in
theorem ck_122 : ca_ 122 := ct_ (N := 188) (fun pc h => congrArg Prod.fst (cb_ h)) (by decide +kernel)
set_option maxRecDepth 100000 in
theorem ck_123 : ca_ 123 := ct_ (N := 114) (fun pc h => congrArg Prod.fst (cb_ h)) (by decide +kernel)
set_option maxRecDepth 100000 in
theorem ck_124 : ca_ 124 := ct_ (N := 104) (fun pc h => congrArg Prod.fst (cb_ h)) (by decide +kernel)
set_option maxRecDepth 100000 in
theorem ck_125 : ca_ 125 := ct_ (N := 28) (fun pc h => congrArg Prod.fst (cb_ h)) (by decide +kernel)
set_option maxRecDepth 100000 in
theorem ck_126 : ca_ 126 := ct_ (N := 184) (fun pc h => congrArg Prod.fst (cb_ h)) (by decide +kernel)
set_option maxRecDepth 100000 in
theorem ck_127 : ca_ 127 := ct_ (N := 240) (fun pc h => congrArg Prod.fst (cb_ h)) (by decide +kernel)
set_option maxRecDepth 100000 in
theorem ck_128 : ca_ 128 := ct_ (N := 33) (fun pc h => congrArg Prod.fst (cb_ h)) (by decide +kernel)
set_option maxRecDepth 100000 in
theorem ck_129 : ca_ 129 := ct_ (N := 86) (fun pc h => congrArg Prod.fst (cb_ h)) (by decide +kernel)
set_option maxRecDepth 100000 in
theorem ck_130 : ca_ 130 := ct_ (N := 262) (fun pc h => congrArg Prod.fst (cb_ h)) (by decide +kernel)
set_option maxRecDepth 100000 in
theorem ck_131 : ca_ 131 := ct_ (N := 31) (fun pc h => congrArg Prod.fst (cb_ h)) (by decide +kernel)
set_option maxRecDepth 100000 in
theorem ck_132 : ca_ 132 := ct_ (N := 57) (fun pc h => congrArg Prod.fst (cb_ h)) (by decide +kernel)
set_option maxRecDepth 100000 in
theorem ck_133 : ca_ 133 := ct_ (N := 278) (fun pc h => congrArg Prod.fst (cb_ h)) (by decide +kernel)
set_option maxRecDepth 100000 in
theorem ck_134 : ca_ 134 := ct_ (N := 252) (fun pc h => congrArg Prod.fst (cb_ h)) (by decide +kernel)
set_option maxRecDepth 100000 in
theorem ck_135 : ca_ 135 := ct_ (N := 93) (fun pc h => congrArg Prod.fst (cb_ h)) (by decide +kernel)
set_option maxRecDepth 100000 in
theorem ck_136 : ca_ 136 := ct_ (N := 238) (fun pc h => congrArg Prod.fst (cb_ h)) (by decide +kernel)
set_option maxRecDepth 100000 in
theorem ck_137 : ca_ 137 := ct_ (N := 100) (fun pc h => congrArg Prod.fst (cb_ h)) (by decide +kernel)
set_option maxRecDepth 100000 in
theorem ck_138 : ca_ 138 := ct_ (N := 73) (fun pc h => congrArg Prod.fst (cb_ h)) (by decide +kernel)
set_option maxRecDepth 100000 in
theorem ck_139 : ca_ 139 := ct_ (N := 246) (fun pc h => congrArg Prod.fst (cb_ h)) (by decide +kernel)
set_option maxRecDepth 100000 in
theorem ck_140 : ca_ 140 := ct_ (N := 58) (fun pc h => congrArg Prod.fst (cb_ h)) (by decide +kernel)
set_option maxRecDepth 100000 in
theorem ck_141 : ca_ 141 := ct_ (N := 59) (fun pc h => congrArg Prod.fst (cb_ h)) (by decide +kernel)
set_option maxRecDepth 100000 in
theorem ck_142 : ca_ 142 := ct_ (N := 200) (fun pc h => congrArg Prod.fst (cb_ h)) (by decide +kernel)
set_option maxRecDepth 100000 in
theorem ck_143 : ca_ 143 := ct_ (N := 183) (fun pc h => congrArg Prod.fst (cb_ h)) (by decide +kernel)
set_option maxRecDepth 100000 in
theorem ck_144 : ca_ 144 := ct_ (N := 129) (fun pc h => congrArg Prod.fst (cb_ h)) (by decide +kernel)
set_option maxRecDepth 100000 in
theorem ck_145 : ca_ 145 := ct_ (N := 95) (fun pc h => congrArg Prod.fst (cb_ h)) (by decide +kernel)
set_option maxRecDepth 100000 in
theorem ck_146 : ca_ 146 := ct_ (N := 123) (fun pc h => congrArg Prod.fst (cb_ h)) (by decide +kernel)
set_option maxRecDepth 100000 in
theorem ck_147 : ca_ 147 := ct_ (N := 29) (fun pc h => congrArg Prod.fst (cb_ h)) (by decide +kernel)
set_option maxRecDepth 100000 in
theorem ck_148 : ca_ 148 := ct_ (N := 23) (fun pc h => congrArg Prod.fst (cb_ h)) (by decide +kernel)
set_option maxRecDepth 100000 in
theorem ck_149 : ca_ 149 := ct_ (N := 24) (fun pc h => congrArg Prod.fst (cb_ h)) (by decide +kernel)
set_option maxRecDepth 100000 in
theorem ck_150 : ca_ 150 := ct_ (N := 36) (fun pc h => congrArg Prod.fst (cb_ h)) (by decide +kernel)
set_option maxRecDepth 100000 in
theorem ck_151 : ca_ 151 := ct_ (N := 203) (fun pc h => congrArg Prod.fst (cb_ h)) (by decide +kernel)
set_option maxRecDepth 100000 in
theorem ck_152 : ca_ 152 := ct_ (N := 25) (fun pc h => congrArg Prod.fst (cb_ h)) (by decide +kernel)
set_option maxRecDepth 100000 in
theorem ck_153 : ca_ 153 := ct_ (N := 7) (fun pc h => congrArg Prod.fst (cb_ h)) (by decide +kernel)
set_option maxRecDepth 100000 in
theorem ck_154 : ca_ 154 := ct_ (N := 112) (fun pc h => congrArg Prod.fst (cb_ h)) (by decide +kernel)
set_option maxRecDepth 100000 in
theorem ck_155 : ca_ 155 := ct_ (N := 29) (fun pc h => congrArg Prod.fst (cb_ h)) (by decide +kernel)
set_option maxRecDepth 100000 in
theorem ck_156 : ca_ 156 := ct_ (N := 151) (fun pc h => congrArg Prod.fst (cb_ h)) (by decide +kernel)
set_option maxRecDepth 100000 in
theorem ck_157 : ca_ 157 := ct_ (N := 64) (fun pc h => congrArg Prod.fst (cb_ h)) (by decide +kernel)
set_option maxRecDepth 100000 in
theorem ck_158 : ca_ 158 := ct_ (N := 102) (fun pc h => congrArg Prod.fst (cb_ h)) (by decide +kernel)
set_option maxRecDepth 100000 in
theorem ck_159 : ca_ 159 := ct_ (N := 81) (fun pc h => congrArg Prod.fst (cb_ h)) (by decide +kernel)
set_option maxRecDepth 100000 in
theorem ck_160 : ca_ 160 := ct_ (N := 61) (fun pc h => congrArg Prod.fst (cb_ h)) (by decide +kernel)
set_option maxRecDepth 100000 in
theorem ck_161 : ca_ 161 := ct_ (N := 38) (fun pc h => congrArg Prod.fst (cb_ h)) (by decide +kernel)
set_option maxRecDepth 100000 in
theorem ck_162 : ca_ 162 := ct_ (N := 227) (fun pc h => congrArg Prod.fst (cb_ h)) (by decide +kernel)
set_option maxRecDepth 100000 in
theorem ck_163 : ca_ 163 := ct_ (N := 161) (fun pc h => congrArg Prod.fst (cb_ h)) (by decide +kernel)
set_option maxRecDepth 100000 in
theorem ck_164 : ca_ 164 := ct_ (N := 72) (fun pc h => congrArg Prod.fst (cb_ h)) (by decide +kernel)
set_option maxRecDepth 100000 in
theorem ck_165 : ca_ 165 := ct_ (N := 47) (fun pc h => congrArg Prod.fst (cb_ h)) (by decide +kernel)
set_option maxRecDepth 100000 in
theorem ck_166 : ca_ 166 := ct_ (N := 220) (fun pc h => congrArg Prod.fst (cb_ h)) (by decide +kernel)
set_option maxRecDepth 100000 in
theorem ck_167 : ca_ 167 := ct_ (N := 84) (fun pc h => congrArg Prod.fst (cb_ h)) (by decide +kernel)
set_option maxRecDepth 100000 in
theorem ck_168 : ca_ 168 := ct_ (N := 68) (fun pc h => congrArg Prod.fst (cb_ h)) (by decide +kernel)
set_option maxRecDepth 100000 in
theorem ck_169 : ca_ 169 := ct_ (N := 35) (fun pc h => congrArg Prod.fst (cb_ h)) (by decide +kernel)
set_option maxRecDepth 100000 in
theorem ck_170 : ca_ 170 := ct_ (N := 119) (fun pc h => congrArg Prod.fst (cb_ h)) (by decide +kernel)
set_option maxRecDepth 100000 in
theorem ck_171 : ca_ 171 := ct_ (N := 50) (fun pc h => congrArg Prod.fst (cb_ h)) (by decide +kernel)
set_option maxRecDepth 100000 in
theorem ck_172 : ca_ 172 := ct_ (N := 226) (fun pc h => congrArg Prod.fst (cb_ h)) (by decide +kernel)
set_option maxRecDepth 100000 in
theorem ck_173 : ca_ 173 := ct_ (N := 190) (fun pc h => congrArg Prod.fst (cb_ h)) (by decide +kernel)
set_option maxRecDepth 100000 in
theorem ck_174 : ca_ 174 := ct_ (N := 36) (fun pc h => congrArg Prod.fst (cb_ h)) (by decide +kernel)
set_option maxRecDepth 100000 in
theorem ck_175 : ca_ 175 := ct_ (N := 10) (fun pc h => congrArg Prod.fst (cb_ h)) (by decide +kernel)
set_option maxRecDepth 100000 in
theorem ck_176 : ca_ 176 := ct_ (N := 59) (fun pc h => congrArg Prod.fst (cb_ h)) (by decide +kernel)
set_option maxRecDepth 100000 in
theorem ck_177 : ca_ 177 := ct_ (N := 304) (fun pc h => congrArg Prod.fst (cb_ h)) (by decide +kernel)
set_option maxRecDepth 100000 in
theorem ck_178 : ca_ 178 := ct_ (N := 54) (fun pc h => congrArg Prod.fst (cb_ h)) (by decide +kernel)
set_option maxRecDepth 100000 in
theorem ck_179 : ca_ 179 := ct_ (N := 60) (fun pc h => congrArg Prod.fst (cb_ h)) (by decide +kernel)
set_option maxRecDepth 100000 in
theorem ck_180 : ca_ 180 := ct_ (N := 80) (fun pc h => congrArg Prod.fst (cb_ h)) (by decide +kernel)
set_option maxRecDepth 100000 in
theorem ck_181 : ca_ 181 := ct_ (N := 111) (fun pc h => congrArg Prod.fst (cb_ h)) (by decide +kernel)
set_option maxRecDepth 100000 in
theorem ck_182 : ca_ 182 := ct_ (N := 62) (fun pc h => congrArg Prod.fst (cb_ h)) (by decide +kernel)
set_option maxRecDepth 100000 in
theorem ck_183 : ca_ 183 := ct_ (N := 186) (fun pc h => congrArg Prod.fst (cb_ h)) (by decide +kernel)
set_option maxRecDepth 100000 in
theorem ck_184 : ca_ 184 := ct_ (N := 61) (fun pc h => congrArg Prod.fst (cb_ h)) (by decide +kernel)
set_option maxRecDepth 100000 in
theorem ck_185 : ca_ 185 := ct_ (N := 23) (fun pc h => congrArg Prod.fst (cb_ h)) (by decide +kernel)
set_option maxRecDepth 100000 in
theorem ck_186 : ca_ 186 := ct_ (N := 21) (fun pc h => congrArg Prod.fst (cb_ h)) (by decide +kernel)
set_option maxRecDepth 100000 in
theorem cj_187_0 : (List.range' 0 100).all (ch_at (mi_ 187).2.1 (mw_ 187) (mk_k 187) (mi_ 187).2.2.2 (mi_ 187).2.2.1 (mp_ 187)) = true := by decide +kernel
set_option maxRecDepth 100000 in
theorem cj_187_100 : (List.range' 100 100).all (ch_at (mi_ 187).2.1 (mw_ 187) (mk_k 187) (mi_ 187).2.2.2 (mi_ 187).2.2.1 (mp_ 187)) = true := by decide +kernel
set_option maxRecDepth 100000 in
theorem cj_187_200 : (List.range' 200 100).all (ch_at (mi_ 187).2.1 (mw_ 187) (mk_k 187) (mi_ 187).2.2.2 (mi_ 187).2.2.1 (mp_ 187)) = true := by decide +kernel
set_option maxRecDepth 100000 in
theorem cj_187_300 : (List.range' 300 100).all (ch_at (mi_ 187).2.1 (mw_ 187) (mk_k 187) (mi_ 187).2.2.2 (mi_ 187).2.2.1 (mp_ 187)) = true := by decide +kernel
set_option maxRecDepth 100000 in
theorem cj_187_400 : (List.range' 400 100).all (ch_at (mi_ 187).2.1 (mw_ 187) (mk_k 187) (mi_ 187).2.2.2 (mi_ 187).2.2.1 (mp_ 187)) = true := by decide +kernel
set_option maxRecDepth 100000 in
theorem cj_187_500 : (List.range' 500 100).all (ch_at (mi_ 187).2.1 (mw_ 187) (mk_k 187) (mi_ 187).2.2.2 (mi_ 187).2.2.1 (mp_ 187)) = true := by decide +kernel
set_option maxRecDepth 100000 in
theorem cj_187_600 : (List.range' 600 100).all (ch_at (mi_ 187).2.1 (mw_ 187) (mk_k 187) (mi_ 187).2.2.2 (mi_ 187).2.2.1 (mp_ 187)) = true := by decide +kernel
set_option maxRecDepth 100000 in
theorem cj_187_700 : (List.range' 700 100).all (ch_at (mi_ 187).2.1 (mw_ 187) (mk_k 187) (mi_ 187).2.2.2 (mi_ 187).2.2.1 (mp_ 187)) = true := by decide +kernel
set_option maxRecDepth 100000 in
theorem cj_187_800 : (List.range' 800 100).all (ch_at (mi_ 187).2.1 (mw_ 187) (mk_k 187) (mi_ 187).2.2.2 (mi_ 187).2.2.1 (mp_ 187)) = true := by decide +kernel
set_option maxRecDepth 100000 in
theorem cj_187_900 : (List.range' 900 75).all (ch_at (mi_ 187).2.1 (mw_ 187) (mk_k 187) (mi_ 187).2.2.2 (mi_ 187).2.2.1 (mp_ 187)) = true := by decide +kernel
theorem ck_187 : ca_ 187 := by
  intro pc
  by_cases h : pc < 975
  · rcases (show (0 ≤ pc ∧ pc < 0 + 100) ∨ (100 ≤ pc ∧ pc < 100 + 100) ∨ (200 ≤ pc ∧ pc < 200 + 100) ∨ (300 ≤ pc ∧ pc < 300 + 100) ∨ (400 ≤ pc ∧ pc < 400 + 100) ∨ (500 ≤ pc ∧ pc < 500 + 100) ∨ (600 ≤ pc ∧ pc < 600 + 100) ∨ (700 ≤ pc ∧ pc < 700 + 100) ∨ (800 ≤ pc ∧ pc < 800 + 100) ∨ (900 ≤ pc ∧ pc < 900 + 75) by omega) with h | h | h | h | h | h | h | h | h | h
    · exact cg_ cj_187_0 h.1 h.2
    · exact cg_ cj_187_100 h.1 h.2
    · exact cg_ cj_187_200 h.1 h.2
    · exact cg_ cj_187_300 h.1 h.2
    · exact cg_ cj_187_400 h.1 h.2
    · exact cg_ cj_187_500 h.1 h.2
    · exact cg_ cj_187_600 h.1 h.2
    · exact cg_ cj_187_700 h.1 h.2
    · exact cg_ cj_187_800 h.1 h.2
    · exact cg_ cj_187_900 h.1 h.2
  · unfold ch_at
    rw [show ((mp_ 187).1 pc).1 = 99 from congrArg Prod.fst (cb_ (Nat.not_lt.mp h))]
    rfl
theorem cl_0 : ∀ x ∈ ([0, 1, 2, 3, 4, 5, 6, 7, 8, 9, 10, 11, 12, 13, 14, 15, 16, 17, 18, 19, 20] : List Nat), ca_ x := List.forall_mem_cons.mpr ⟨ck_0, List.forall_mem_cons.mpr ⟨ck_1, List.forall_mem_cons.mpr ⟨ck_2, List.forall_mem_cons.mpr ⟨ck_3, List.forall_mem_cons.mpr ⟨ck_4, List.forall_mem_cons.mpr ⟨ck_5, List.forall_mem_cons.mpr ⟨ck_6, List.forall_mem_cons.mpr ⟨ck_7, List.forall_mem_cons.mpr ⟨ck_8, List.forall_mem_cons.mpr ⟨ck_9, List.forall_mem_cons.mpr ⟨ck_10, List.forall_mem_cons.mpr ⟨ck_11, List.forall_mem_cons.mpr ⟨ck_12, List.forall_mem_cons.mpr ⟨ck_13, List.forall_mem_cons.mpr ⟨ck_14, List.forall_mem_cons.mpr ⟨ck_15, List.forall_mem_cons.mpr ⟨ck_16, List.forall_mem_cons.mpr ⟨ck_17, List.forall_mem_cons.mpr ⟨ck_18, List.forall_mem_cons.mpr ⟨ck_19, List.forall_mem_cons.mpr ⟨ck_20, fun _ h => absurd h List.not_mem_nil⟩⟩⟩⟩⟩⟩⟩⟩⟩⟩⟩⟩⟩⟩⟩⟩⟩⟩⟩⟩⟩
theorem cl_21 : ∀ x ∈ ([21, 22, 23, 24, 25, 26, 27, 28, 29, 30, 31, 32, 33, 34, 35, 36, 37, 38, 39, 40, 41] : List Nat), ca_ x := List.forall_mem_cons.mpr ⟨ck_21, List.forall_mem_cons.mpr ⟨ck_22, List.forall_mem_cons.mpr ⟨ck_23, List.forall_mem_cons.mpr ⟨ck_24, List.forall_mem_cons.mpr ⟨ck_25, List.forall_mem_cons.mpr ⟨ck_26, List.forall_mem_cons.mpr ⟨ck_27, List.forall_mem_cons.mpr ⟨ck_28, List.forall_mem_cons.mpr ⟨ck_29, List.forall_mem_cons.mpr ⟨ck_30, List.forall_mem_cons.mpr ⟨ck_31, List.forall_mem_cons.mpr ⟨ck_32, List.forall_mem_cons.mpr ⟨ck_33, List.forall_mem_cons.mpr ⟨ck_34, List.forall_mem_cons.mpr ⟨ck_35, List.forall_mem_cons.mpr ⟨ck_36, List.forall_mem_cons.mpr ⟨ck_37, List.forall_mem_cons.mpr ⟨ck_38, List.forall_mem_cons.mpr ⟨ck_39, List.forall_mem_cons.mpr ⟨ck_40, List.forall_mem_cons.mpr ⟨ck_41, fun _ h => absurd h List.not_mem_nil⟩⟩⟩⟩⟩⟩⟩⟩⟩⟩⟩⟩⟩⟩⟩⟩⟩⟩⟩⟩⟩
theorem cl_42 : ∀ x ∈ ([42, 43, 44, 45, 46, 47, 48, 49, 50, 51, 52, 53, 54, 55, 56, 57, 58, 59, 60, 61, 62] : List Nat), ca_ x := List.forall_mem_cons.mpr ⟨ck_42, List.forall_mem_cons.mpr ⟨ck_43, List.forall_mem_cons.mpr ⟨ck_44, List.forall_mem_cons.mpr ⟨ck_45, List.forall_mem_cons.mpr ⟨ck_46, List.forall_mem_cons.mpr ⟨ck_47, List.forall_mem_cons.mpr ⟨ck_48, List.forall_mem_cons.mpr ⟨ck_49, List.forall_mem_cons.mpr ⟨ck_50, List.forall_mem_cons.mpr ⟨ck_51, List.forall_mem_cons.mpr ⟨ck_52, List.forall_mem_cons.mpr ⟨ck_53, List.forall_mem_cons.mpr ⟨ck_54, List.forall_mem_cons.mpr ⟨ck_55, List.forall_mem_cons.mpr ⟨ck_56, List.forall_mem_cons.mpr ⟨ck_57, List.forall_mem_cons.mpr ⟨ck_58, List.forall_mem_cons.mpr ⟨ck_59, List.forall_mem_cons.mpr ⟨ck_60, List.forall_mem_cons.mpr ⟨ck_61, List.forall_mem_cons.mpr ⟨ck_62, fun _ h => absurd h List.not_mem_nil⟩⟩⟩⟩⟩⟩⟩⟩⟩⟩⟩⟩⟩⟩⟩⟩⟩⟩⟩⟩⟩
theorem cl_63 : ∀ x ∈ ([63, 64, 65, 66, 67, 68, 69, 70, 71, 72, 73, 74, 75, 76, 77, 78, 79, 80, 81, 82, 83] : List Nat), ca_ x := List.forall_mem_cons.mpr ⟨ck_63, List.forall_mem_cons.mpr ⟨ck_64, List.forall_mem_cons.mpr ⟨ck_65, List.forall_mem_cons.mpr ⟨ck_66, List.forall_mem_cons.mpr ⟨ck_67, List.forall_mem_cons.mpr ⟨ck_68, List.forall_mem_cons.mpr ⟨ck_69, List.forall_mem_cons.mpr ⟨ck_70, List.forall_mem_cons.mpr ⟨ck_71, List.forall_mem_cons.mpr ⟨ck_72, List.forall_mem_cons.mpr ⟨ck_73, List.forall_mem_cons.mpr ⟨ck_74, List.forall_mem_cons.mpr ⟨ck_75, List.forall_mem_cons.mpr ⟨ck_76, List.forall_mem_cons.mpr ⟨ck_77, List.forall_mem_cons.mpr ⟨ck_78, List.forall_mem_cons.mpr ⟨ck_79, List.forall_mem_cons.mpr ⟨ck_80, List.forall_mem_cons.mpr ⟨ck_81, List.forall_mem_cons.mpr ⟨ck_82, List.forall_mem_cons.mpr ⟨ck_83, fun _ h => absurd h List.not_mem_nil⟩⟩⟩⟩⟩⟩⟩⟩⟩⟩⟩⟩⟩⟩⟩⟩⟩⟩⟩⟩⟩
theorem cl_84 : ∀ x ∈ ([84, 85, 86, 87, 88, 89, 90, 91, 92, 93, 94, 95, 96, 97, 98, 99, 100, 101, 102, 103, 104] : List Nat), ca_ x := List.forall_mem_cons.mpr ⟨ck_84, List.forall_mem_cons.mpr ⟨ck_85, List.forall_mem_cons.mpr ⟨ck_86, List.forall_mem_cons.mpr ⟨ck_87, List.forall_mem_cons.mpr ⟨ck_88, List.forall_mem_cons.mpr ⟨ck_89, List.forall_mem_cons.mpr ⟨ck_90, List.forall_mem_cons.mpr ⟨ck_91, List.forall_mem_cons.mpr ⟨ck_92, List.forall_mem_cons.mpr ⟨ck_93, List.forall_mem_cons.mpr ⟨ck_94, List.forall_mem_cons.mpr ⟨ck_95, List.forall_mem_cons.mpr ⟨ck_96, List.forall_mem_cons.mpr ⟨ck_97, List.forall_mem_cons.mpr ⟨ck_98, List.forall_mem_cons.mpr ⟨ck_99, List.forall_mem_cons.mpr ⟨ck_100, List.forall_mem_cons.mpr ⟨ck_101, List.forall_mem_cons.mpr ⟨ck_102, List.forall_mem_cons.mpr ⟨ck_103, List.forall_mem_cons.mpr ⟨ck_104, fun _ h => absurd h List.not_mem_nil⟩⟩⟩⟩⟩⟩⟩⟩⟩⟩⟩⟩⟩⟩⟩⟩⟩⟩⟩⟩⟩
theorem cl_105 : ∀ x ∈ ([105, 106, 107, 108, 109, 110, 111, 112, 113, 114, 115, 116, 117, 118, 119, 120, 121, 122, 123, 124, 125] : List Nat), ca_ x := List.forall_mem_cons.mpr ⟨ck_105, List.forall_mem_cons.mpr ⟨ck_106, List.forall_mem_cons.mpr ⟨ck_107, List.forall_mem_cons.mpr ⟨ck_108, List.forall_mem_cons.mpr ⟨ck_109, List.forall_mem_cons.mpr ⟨ck_110, List.forall_mem_cons.mpr ⟨ck_111, List.forall_mem_cons.mpr ⟨ck_112, List.forall_mem_cons.mpr ⟨ck_113, List.forall_mem_cons.mpr ⟨ck_114, List.forall_mem_cons.mpr ⟨ck_115, List.forall_mem_cons.mpr ⟨ck_116, List.forall_mem_cons.mpr ⟨ck_117, List.forall_mem_cons.mpr ⟨ck_118, List.forall_mem_cons.mpr ⟨ck_119, List.forall_mem_cons.mpr ⟨ck_120, List.forall_mem_cons.mpr ⟨ck_121, List.forall_mem_cons.mpr ⟨ck_122, List.forall_mem_cons.mpr ⟨ck_123, List.forall_mem_cons.mpr ⟨ck_124, List.forall_mem_cons.mpr ⟨ck_125, fun _ h => absurd h List.not_mem_nil⟩⟩⟩⟩⟩⟩⟩⟩⟩⟩⟩⟩⟩⟩⟩⟩⟩⟩⟩⟩⟩
theorem cl_126 : ∀ x ∈ ([126, 127, 128, 129, 130, 131, 132, 133, 134, 135, 136, 137, 138, 139, 140, 141, 142, 143, 144, 145, 146] : List Nat), ca_ x := List.forall_mem_cons.mpr ⟨ck_126, List.forall_mem_cons.mpr ⟨ck_127, List.forall_mem_cons.mpr ⟨ck_128, List.forall_mem_cons.mpr ⟨ck_129, List.forall_mem_cons.mpr ⟨ck_130, List.forall_mem_cons.mpr ⟨ck_131, List.forall_mem_cons.mpr ⟨ck_132, List.forall_mem_cons.mpr ⟨ck_133, List.forall_mem_cons.mpr ⟨ck_134, List.forall_mem_cons.mpr ⟨ck_135, List.forall_mem_cons.mpr ⟨ck_136, List.forall_mem_cons.mpr ⟨ck_137, List.forall_mem_cons.mpr ⟨ck_138, List.forall_mem_cons.mpr ⟨ck_139, List.forall_mem_cons.mpr ⟨ck_140, List.forall_mem_cons.mpr ⟨ck_141, List.forall_mem_cons.mpr ⟨ck_142, List.forall_mem_cons.mpr ⟨ck_143, List.forall_mem_cons.mpr ⟨ck_144, List.forall_mem_cons.mpr ⟨ck_145, List.forall_mem_cons.mpr ⟨ck_146, fun _ h => absurd h List.not_mem_nil⟩⟩⟩⟩⟩⟩⟩⟩⟩⟩⟩⟩⟩⟩⟩⟩⟩⟩⟩⟩⟩
theorem cl_147 : ∀ x ∈ ([147, 148, 149, 150, 151, 152, 153, 154, 155, 156, 157, 158, 159, 160, 161, 162, 163, 164, 165, 166, 167] : List Nat), ca_ x := List.forall_mem_cons.mpr ⟨ck_147, List.forall_mem_cons.mpr ⟨ck_148, List.forall_mem_cons.mpr ⟨ck_149, List.forall_mem_cons.mpr ⟨ck_150, List.forall_mem_cons.mpr ⟨ck_151, List.forall_mem_cons.mpr ⟨ck_152, List.forall_mem_cons.mpr ⟨ck_153, List.forall_mem_cons.mpr ⟨ck_154, List.forall_mem_cons.mpr ⟨ck_155, List.forall_mem_cons.mpr ⟨ck_156, List.forall_mem_cons.mpr ⟨ck_157, List.forall_mem_cons.mpr ⟨ck_158, List.forall_mem_cons.mpr ⟨ck_159, List.forall_mem_cons.mpr ⟨ck_160, List.forall_mem_cons.mpr ⟨ck_161, List.forall_mem_cons.mpr ⟨ck_162, List.forall_mem_cons.mpr ⟨ck_163, List.forall_mem_cons.mpr ⟨ck_164, List.forall_mem_cons.mpr ⟨ck_165, List.forall_mem_cons.mpr ⟨ck_166, List.forall_mem_cons.mpr ⟨ck_167, fun _ h => absurd h List.not_mem_nil⟩⟩⟩⟩⟩⟩⟩⟩⟩⟩⟩⟩⟩⟩⟩⟩⟩⟩⟩⟩⟩
theorem cl_168 : ∀ x ∈ ([168, 169, 170, 171, 172, 173, 174, 175, 176, 177, 178, 179, 180, 181, 182, 183, 184, 185, 186, 187] : List Nat), ca_ x := List.forall_mem_cons.mpr ⟨ck_168, List.forall_mem_cons.mpr ⟨ck_169, List.forall_mem_cons.mpr ⟨ck_170, List.forall_mem_cons.mpr ⟨ck_171, List.forall_mem_cons.mpr ⟨ck_172, List.forall_mem_cons.mpr ⟨ck_173, List.forall_mem_cons.mpr ⟨ck_174, List.forall_mem_cons.mpr ⟨ck_175, List.forall_mem_cons.mpr ⟨ck_176, List.forall_mem_cons.mpr ⟨ck_177, List.forall_mem_cons.mpr ⟨ck_178, List.forall_mem_cons.mpr ⟨ck_179, List.forall_mem_cons.mpr ⟨ck_180, List.forall_mem_cons.mpr ⟨ck_181, List.forall_mem_cons.mpr ⟨ck_182, List.forall_mem_cons.mpr ⟨ck_183, List.forall_mem_cons.mpr ⟨ck_184, List.forall_mem_cons.mpr ⟨ck_185, List.forall_mem_cons.mpr ⟨ck_186, List.forall_mem_cons.mpr ⟨ck_187, fun _ h => absurd h List.not_mem_nil⟩⟩⟩⟩⟩⟩⟩⟩⟩⟩⟩⟩⟩⟩⟩⟩⟩⟩⟩⟩
theorem cl_all : ∀ x ∈ ([0, 1, 2, 3, 4, 5, 6, 7, 8, 9, 10, 11, 12, 13, 14, 15, 16, 17, 18, 19, 20] : List Nat) ++ (([21, 22, 23, 24, 25, 26, 27, 28, 29, 30, 31, 32, 33, 34, 35, 36, 37, 38, 39, 40, 41] : List Nat) ++ (([42, 43, 44, 45, 46, 47, 48, 49, 50, 51, 52, 53, 54, 55, 56, 57, 58, 59, 60, 61, 62] : List Nat) ++ (([63, 64, 65, 66, 67, 68, 69, 70, 71, 72, 73, 74, 75, 76, 77, 78, 79, 80, 81, 82, 83] : List Nat) ++ (([84, 85, 86, 87, 88, 89, 90, 91, 92, 93, 94, 95, 96, 97, 98, 99, 100, 101, 102, 103, 104] : List Nat) ++ (([105, 106, 107, 108, 109, 110, 111, 112, 113, 114, 115, 116, 117, 118, 119, 120, 121, 122, 123, 124, 125] : List Nat) ++ (([126, 127, 128, 129, 130, 131, 132, 133, 134, 135, 136, 137, 138, 139, 140, 141, 142, 143, 144, 145, 146] : List Nat) ++ (([147, 148, 149, 150, 151, 152, 153, 154, 155, 156, 157, 158, 159, 160, 161, 162, 163, 164, 165, 166, 167] : List Nat) ++ (([168, 169, 170, 171, 172, 173, 174, 175, 176, 177, 178, 179, 180, 181, 182, 183, 184, 185, 186, 187] : List Nat))))))))), ca_ x := List.forall_mem_append.mpr ⟨cl_0, List.forall_mem_append.mpr ⟨cl_21, List.forall_mem_append.mpr ⟨cl_42, List.forall_mem_append.mpr ⟨cl_63, List.forall_mem_append.mpr ⟨cl_84, List.forall_mem_append.mpr ⟨cl_105, List.forall_mem_append.mpr ⟨cl_126, List.forall_mem_append.mpr ⟨cl_147, cl_168⟩⟩⟩⟩⟩⟩⟩⟩
theorem ca_all {x : Nat} (hx : x < 188) : ca_ x := cl_all x (by rw [show ([0, 1, 2, 3, 4, 5, 6, 7, 8, 9, 10, 11, 12, 13, 14, 15, 16, 17, 18, 19, 20] : List Nat) ++ (([21, 22, 23, 24, 25, 26, 27, 28, 29, 30, 31, 32, 33, 34, 35, 36, 37, 38, 39, 40, 41] : List Nat) ++ (([42, 43, 44, 45, 46, 47, 48, 49, 50, 51, 52, 53, 54, 55, 56, 57, 58, 59, 60, 61, 62] : List Nat) ++ (([63, 64, 65, 66, 67, 68, 69, 70, 71, 72, 73, 74, 75, 76, 77, 78, 79, 80, 81, 82, 83] : List Nat) ++ (([84, 85, 86, 87, 88, 89, 90, 91, 92, 93, 94, 95, 96, 97, 98, 99, 100, 101, 102, 103, 104] : List Nat) ++ (([105, 106, 107, 108, 109, 110, 111, 112, 113, 114, 115, 116, 117, 118, 119, 120, 121, 122, 123, 124, 125] : List Nat) ++ (([126, 127, 128, 129, 130, 131, 132, 133, 134, 135, 136, 137, 138, 139, 140, 141, 142, 143, 144, 145, 146] : List Nat) ++ (([147, 148, 149, 150, 151, 152, 153, 154, 155, 156, 157, 158, 159, 160, 161, 162, 163, 164, 165, 166, 167] : List Nat) ++ (([168, 169, 170, 171, 172, 173, 174, 175, 176, 177, 178, 179, 180, 181, 182, 183, 184, 185, 186, 187] : List Nat))))))))) = List.range 188 from by decide +kernel]; exact List.mem_range.mpr hx)
theorem mn_all {x : Nat} (hx : x < 188) : (mp_ x).2.2.2 = (mi_ x).2.2.1 := beq_iff_eq.mp (List.all_eq_true.mp (show ((List.range 188).all fun x => (mp_ x).2.2.2 == (mi_ x).2.2.1) = true from by decide +kernel) x (List.mem_range.mpr hx))
