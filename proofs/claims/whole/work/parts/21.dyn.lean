
/-! THE QUIET MACHINE: behind the constructors no cell is made and no reference is written; what moves is ints and longs alone -/
abbrev dy_ : Type := (Nat → Nat → Int32) × (Nat → Nat → Int64)
abbrev rd_ : Type := Option (Option Value × dy_)
/-! a shape: tags and lengths, references, cells, slots -/
abbrev qs_ : Type := (Nat → Nat × Nat) × (Nat → Nat → Nat) × Nat × Nat
def hq_ (q : qs_) (D : dy_) : hp_ := (q.1, q.2.1, D.1, D.2, q.2.2.1, q.2.2.2)
def dn_ (h : hp_) : dy_ := (h.2.2.1, h.2.2.2.1)
theorem dn_hq (q : qs_) (D : dy_) : dn_ (hq_ q D) = D := rfl
def qt_ (e : en_) : Bool := match e.1 with
  | 14 => e.2.2.2.2.1 != 2
  | 16 => e.2.2.1 != 5
  | 21 => false
  | 22 => false
  | _ => true
theorem qg_ {mt : mt_} {N : Nat} (h0 : ∀ pc, N ≤ pc → mt.1 pc = (99, 0, 0, 0, 0, 0)) (h1 : (List.range N).all (fun pc => qt_ (mt.1 pc)) = true) (pc : Nat) : qt_ (mt.1 pc) = true := by
  by_cases h : pc < N
  · exact List.all_eq_true.mp h1 pc (List.mem_range.mpr h)
  · rw [h0 pc (Nat.not_lt.mp h)]
    rfl
set_option maxRecDepth 100000 in
theorem qk_1 : ∀ pc, qt_ ((mp_ 1).1 pc) = true := qg_ (N := 130) (fun pc h => cb_ h) (by decide +kernel)
set_option maxRecDepth 100000 in
theorem qk_2 : ∀ pc, qt_ ((mp_ 2).1 pc) = true := qg_ (N := 66) (fun pc h => cb_ h) (by decide +kernel)
set_option maxRecDepth 100000 in
theorem qk_3 : ∀ pc, qt_ ((mp_ 3).1 pc) = true := qg_ (N := 124) (fun pc h => cb_ h) (by decide +kernel)
set_option maxRecDepth 100000 in
theorem qk_4 : ∀ pc, qt_ ((mp_ 4).1 pc) = true := qg_ (N := 115) (fun pc h => cb_ h) (by decide +kernel)
set_option maxRecDepth 100000 in
theorem qk_6 : ∀ pc, qt_ ((mp_ 6).1 pc) = true := qg_ (N := 42) (fun pc h => cb_ h) (by decide +kernel)
set_option maxRecDepth 100000 in
theorem qk_7 : ∀ pc, qt_ ((mp_ 7).1 pc) = true := qg_ (N := 18) (fun pc h => cb_ h) (by decide +kernel)
set_option maxRecDepth 100000 in
theorem qk_8 : ∀ pc, qt_ ((mp_ 8).1 pc) = true := qg_ (N := 18) (fun pc h => cb_ h) (by decide +kernel)
set_option maxRecDepth 100000 in
theorem qk_9 : ∀ pc, qt_ ((mp_ 9).1 pc) = true := qg_ (N := 14) (fun pc h => cb_ h) (by decide +kernel)
set_option maxRecDepth 100000 in
theorem qk_10 : ∀ pc, qt_ ((mp_ 10).1 pc) = true := qg_ (N := 15) (fun pc h => cb_ h) (by decide +kernel)
set_option maxRecDepth 100000 in
theorem qk_11 : ∀ pc, qt_ ((mp_ 11).1 pc) = true := qg_ (N := 24) (fun pc h => cb_ h) (by decide +kernel)
set_option maxRecDepth 100000 in
theorem qk_12 : ∀ pc, qt_ ((mp_ 12).1 pc) = true := qg_ (N := 32) (fun pc h => cb_ h) (by decide +kernel)
set_option maxRecDepth 100000 in
theorem qk_13 : ∀ pc, qt_ ((mp_ 13).1 pc) = true := qg_ (N := 35) (fun pc h => cb_ h) (by decide +kernel)
set_option maxRecDepth 100000 in
theorem qk_14 : ∀ pc, qt_ ((mp_ 14).1 pc) = true := qg_ (N := 88) (fun pc h => cb_ h) (by decide +kernel)
set_option maxRecDepth 100000 in
theorem qk_16 : ∀ pc, qt_ ((mp_ 16).1 pc) = true := qg_ (N := 145) (fun pc h => cb_ h) (by decide +kernel)
set_option maxRecDepth 100000 in
theorem qk_17 : ∀ pc, qt_ ((mp_ 17).1 pc) = true := qg_ (N := 12) (fun pc h => cb_ h) (by decide +kernel)
set_option maxRecDepth 100000 in
theorem qk_18 : ∀ pc, qt_ ((mp_ 18).1 pc) = true := qg_ (N := 123) (fun pc h => cb_ h) (by decide +kernel)
set_option maxRecDepth 100000 in
theorem qk_19 : ∀ pc, qt_ ((mp_ 19).1 pc) = true := qg_ (N := 41) (fun pc h => cb_ h) (by decide +kernel)
set_option maxRecDepth 100000 in
theorem qk_20 : ∀ pc, qt_ ((mp_ 20).1 pc) = true := qg_ (N := 38) (fun pc h => cb_ h) (by decide +kernel)
set_option maxRecDepth 100000 in
theorem qk_21 : ∀ pc, qt_ ((mp_ 21).1 pc) = true := qg_ (N := 82) (fun pc h => cb_ h) (by decide +kernel)
set_option maxRecDepth 100000 in
theorem qk_22 : ∀ pc, qt_ ((mp_ 22).1 pc) = true := qg_ (N := 70) (fun pc h => cb_ h) (by decide +kernel)
set_option maxRecDepth 100000 in
theorem qk_23 : ∀ pc, qt_ ((mp_ 23).1 pc) = true := qg_ (N := 100) (fun pc h => cb_ h) (by decide +kernel)
set_option maxRecDepth 100000 in
theorem qk_24 : ∀ pc, qt_ ((mp_ 24).1 pc) = true := qg_ (N := 28) (fun pc h => cb_ h) (by decide +kernel)
set_option maxRecDepth 100000 in
theorem qk_25 : ∀ pc, qt_ ((mp_ 25).1 pc) = true := qg_ (N := 92) (fun pc h => cb_ h) (by decide +kernel)
set_option maxRecDepth 100000 in
theorem qk_26 : ∀ pc, qt_ ((mp_ 26).1 pc) = true := qg_ (N := 57) (fun pc h => cb_ h) (by decide +kernel)
set_option maxRecDepth 100000 in
theorem qk_28 : ∀ pc, qt_ ((mp_ 28).1 pc) = true := qg_ (N := 7) (fun pc h => cb_ h) (by decide +kernel)
set_option maxRecDepth 100000 in
theorem qk_29 : ∀ pc, qt_ ((mp_ 29).1 pc) = true := qg_ (N := 99) (fun pc h => cb_ h) (by decide +kernel)
set_option maxRecDepth 100000 in
theorem qk_30 : ∀ pc, qt_ ((mp_ 30).1 pc) = true := qg_ (N := 53) (fun pc h => cb_ h) (by decide +kernel)
set_option maxRecDepth 100000 in
theorem qk_31 : ∀ pc, qt_ ((mp_ 31).1 pc) = true := qg_ (N := 53) (fun pc h => cb_ h) (by decide +kernel)
set_option maxRecDepth 100000 in
theorem qk_32 : ∀ pc, qt_ ((mp_ 32).1 pc) = true := qg_ (N := 53) (fun pc h => cb_ h) (by decide +kernel)
set_option maxRecDepth 100000 in
theorem qk_33 : ∀ pc, qt_ ((mp_ 33).1 pc) = true := qg_ (N := 99) (fun pc h => cb_ h) (by decide +kernel)
set_option maxRecDepth 100000 in
theorem qk_34 : ∀ pc, qt_ ((mp_ 34).1 pc) = true := qg_ (N := 155) (fun pc h => cb_ h) (by decide +kernel)
set_option maxRecDepth 100000 in
theorem qk_35 : ∀ pc, qt_ ((mp_ 35).1 pc) = true := qg_ (N := 44) (fun pc h => cb_ h) (by decide +kernel)
set_option maxRecDepth 100000 in
theorem qk_36 : ∀ pc, qt_ ((mp_ 36).1 pc) = true := qg_ (N := 49) (fun pc h => cb_ h) (by decide +kernel)
set_option maxRecDepth 100000 in
theorem qk_37 : ∀ pc, qt_ ((mp_ 37).1 pc) = true := qg_ (N := 54) (fun pc h => cb_ h) (by decide +kernel)
set_option maxRecDepth 100000 in
theorem qk_38 : ∀ pc, qt_ ((mp_ 38).1 pc) = true := qg_ (N := 17) (fun pc h => cb_ h) (by decide +kernel)
set_option maxRecDepth 100000 in
theorem qk_39 : ∀ pc, qt_ ((mp_ 39).1 pc) = true := qg_ (N := 31) (fun pc h => cb_ h) (by decide +kernel)
set_option maxRecDepth 100000 in
theorem qk_40 : ∀ pc, qt_ ((mp_ 40).1 pc) = true := qg_ (N := 29) (fun pc h => cb_ h) (by decide +kernel)
set_option maxRecDepth 100000 in
theorem qk_41 : ∀ pc, qt_ ((mp_ 41).1 pc) = true := qg_ (N := 28) (fun pc h => cb_ h) (by decide +kernel)
set_option maxRecDepth 100000 in
theorem qk_42 : ∀ pc, qt_ ((mp_ 42).1 pc) = true := qg_ (N := 118) (fun pc h => cb_ h) (by decide +kernel)
set_option maxRecDepth 100000 in
theorem qk_43 : ∀ pc, qt_ ((mp_ 43).1 pc) = true := qg_ (N := 53) (fun pc h => cb_ h) (by decide +kernel)
set_option maxRecDepth 100000 in
theorem qk_44 : ∀ pc, qt_ ((mp_ 44).1 pc) = true := qg_ (N := 80) (fun pc h => cb_ h) (by decide +kernel)
set_option maxRecDepth 100000 in
theorem qk_45 : ∀ pc, qt_ ((mp_ 45).1 pc) = true := qg_ (N := 21) (fun pc h => cb_ h) (by decide +kernel)
set_option maxRecDepth 100000 in
theorem qk_47 : ∀ pc, qt_ ((mp_ 47).1 pc) = true := qg_ (N := 14) (fun pc h => cb_ h) (by decide +kernel)
set_option maxRecDepth 100000 in
theorem qk_48 : ∀ pc, qt_ ((mp_ 48).1 pc) = true := qg_ (N := 156) (fun pc h => cb_ h) (by decide +kernel)
set_option maxRecDepth 100000 in
theorem qk_50 : ∀ pc, qt_ ((mp_ 50).1 pc) = true := qg_ (N := 50) (fun pc h => cb_ h) (by decide +kernel)
set_option maxRecDepth 100000 in
theorem qk_51 : ∀ pc, qt_ ((mp_ 51).1 pc) = true := qg_ (N := 22) (fun pc h => cb_ h) (by decide +kernel)
set_option maxRecDepth 100000 in
theorem qk_52 : ∀ pc, qt_ ((mp_ 52).1 pc) = true := qg_ (N := 10) (fun pc h => cb_ h) (by decide +kernel)
set_option maxRecDepth 100000 in
theorem qk_53 : ∀ pc, qt_ ((mp_ 53).1 pc) = true := qg_ (N := 32) (fun pc h => cb_ h) (by decide +kernel)
set_option maxRecDepth 100000 in
theorem qk_54 : ∀ pc, qt_ ((mp_ 54).1 pc) = true := qg_ (N := 34) (fun pc h => cb_ h) (by decide +kernel)
set_option maxRecDepth 100000 in
theorem qk_56 : ∀ pc, qt_ ((mp_ 56).1 pc) = true := qg_ (N := 29) (fun pc h => cb_ h) (by decide +kernel)
set_option maxRecDepth 100000 in
theorem qk_57 : ∀ pc, qt_ ((mp_ 57).1 pc) = true := qg_ (N := 69) (fun pc h => cb_ h) (by decide +kernel)
set_option maxRecDepth 100000 in
theorem qk_58 : ∀ pc, qt_ ((mp_ 58).1 pc) = true := qg_ (N := 133) (fun pc h => cb_ h) (by decide +kernel)
set_option maxRecDepth 100000 in
theorem qk_59 : ∀ pc, qt_ ((mp_ 59).1 pc) = true := qg_ (N := 124) (fun pc h => cb_ h) (by decide +kernel)
set_option maxRecDepth 100000 in
theorem qk_60 : ∀ pc, qt_ ((mp_ 60).1 pc) = true := qg_ (N := 12) (fun pc h => cb_ h) (by decide +kernel)
set_option maxRecDepth 100000 in
theorem qk_61 : ∀ pc, qt_ ((mp_ 61).1 pc) = true := qg_ (N := 52) (fun pc h => cb_ h) (by decide +kernel)
set_option maxRecDepth 100000 in
theorem qk_62 : ∀ pc, qt_ ((mp_ 62).1 pc) = true := qg_ (N := 43) (fun pc h => cb_ h) (by decide +kernel)
set_option maxRecDepth 100000 in
theorem qk_64 : ∀ pc, qt_ ((mp_ 64).1 pc) = true := qg_ (N := 16) (fun pc h => cb_ h) (by decide +kernel)
set_option maxRecDepth 100000 in
theorem qk_65 : ∀ pc, qt_ ((mp_ 65).1 pc) = true := qg_ (N := 19) (fun pc h => cb_ h) (by decide +kernel)
set_option maxRecDepth 100000 in
theorem qk_66 : ∀ pc, qt_ ((mp_ 66).1 pc) = true := qg_ (N := 71) (fun pc h => cb_ h) (by decide +kernel)
set_option maxRecDepth 100000 in
theorem qk_67 : ∀ pc, qt_ ((mp_ 67).1 pc) = true := qg_ (N := 12) (fun pc h => cb_ h) (by decide +kernel)
set_option maxRecDepth 100000 in
theorem qk_68 : ∀ pc, qt_ ((mp_ 68).1 pc) = true := qg_ (N := 46) (fun pc h => cb_ h) (by decide +kernel)
set_option maxRecDepth 100000 in
theorem qk_69 : ∀ pc, qt_ ((mp_ 69).1 pc) = true := qg_ (N := 76) (fun pc h => cb_ h) (by decide +kernel)
set_option maxRecDepth 100000 in
theorem qk_70 : ∀ pc, qt_ ((mp_ 70).1 pc) = true := qg_ (N := 56) (fun pc h => cb_ h) (by decide +kernel)
set_option maxRecDepth 100000 in
theorem qk_71 : ∀ pc, qt_ ((mp_ 71).1 pc) = true := qg_ (N := 85) (fun pc h => cb_ h) (by decide +kernel)
set_option maxRecDepth 100000 in
theorem qk_72 : ∀ pc, qt_ ((mp_ 72).1 pc) = true := qg_ (N := 204) (fun pc h => cb_ h) (by decide +kernel)
set_option maxRecDepth 100000 in
theorem qk_73 : ∀ pc, qt_ ((mp_ 73).1 pc) = true := qg_ (N := 42) (fun pc h => cb_ h) (by decide +kernel)
set_option maxRecDepth 100000 in
theorem qk_74 : ∀ pc, qt_ ((mp_ 74).1 pc) = true := qg_ (N := 82) (fun pc h => cb_ h) (by decide +kernel)
set_option maxRecDepth 100000 in
theorem qk_75 : ∀ pc, qt_ ((mp_ 75).1 pc) = true := qg_ (N := 81) (fun pc h => cb_ h) (by decide +kernel)
set_option maxRecDepth 100000 in
theorem qk_76 : ∀ pc, qt_ ((mp_ 76).1 pc) = true := qg_ (N := 244) (fun pc h => cb_ h) (by decide +kernel)
set_option maxRecDepth 100000 in
theorem qk_77 : ∀ pc, qt_ ((mp_ 77).1 pc) = true := qg_ (N := 75) (fun pc h => cb_ h) (by decide +kernel)
set_option maxRecDepth 100000 in
theorem qk_78 : ∀ pc, qt_ ((mp_ 78).1 pc) = true := qg_ (N := 187) (fun pc h => cb_ h) (by decide +kernel)
set_option maxRecDepth 100000 in
theorem qk_79 : ∀ pc, qt_ ((mp_ 79).1 pc) = true := qg_ (N := 75) (fun pc h => cb_ h) (by decide +kernel)
set_option maxRecDepth 100000 in
theorem qk_80 : ∀ pc, qt_ ((mp_ 80).1 pc) = true := qg_ (N := 75) (fun pc h => cb_ h) (by decide +kernel)
set_option maxRecDepth 100000 in
theorem qk_82 : ∀ pc, qt_ ((mp_ 82).1 pc) = true := qg_ (N := 41) (fun pc h => cb_ h) (by decide +kernel)
set_option maxRecDepth 100000 in
theorem qk_83 : ∀ pc, qt_ ((mp_ 83).1 pc) = true := qg_ (N := 64) (fun pc h => cb_ h) (by decide +kernel)
set_option maxRecDepth 100000 in
theorem qk_84 : ∀ pc, qt_ ((mp_ 84).1 pc) = true := qg_ (N := 43) (fun pc h => cb_ h) (by decide +kernel)
set_option maxRecDepth 100000 in
theorem qk_85 : ∀ pc, qt_ ((mp_ 85).1 pc) = true := qg_ (N := 34) (fun pc h => cb_ h) (by decide +kernel)
set_option maxRecDepth 100000 in
theorem qk_86 : ∀ pc, qt_ ((mp_ 86).1 pc) = true := qg_ (N := 83) (fun pc h => cb_ h) (by decide +kernel)
set_option maxRecDepth 100000 in
theorem qk_87 : ∀ pc, qt_ ((mp_ 87).1 pc) = true := qg_ (N := 62) (fun pc h => cb_ h) (by decide +kernel)
set_option maxRecDepth 100000 in
theorem qk_88 : ∀ pc, qt_ ((mp_ 88).1 pc) = true := qg_ (N := 49) (fun pc h => cb_ h) (by decide +kernel)
set_option maxRecDepth 100000 in
theorem qk_89 : ∀ pc, qt_ ((mp_ 89).1 pc) = true := qg_ (N := 34) (fun pc h => cb_ h) (by decide +kernel)
set_option maxRecDepth 100000 in
theorem qk_90 : ∀ pc, qt_ ((mp_ 90).1 pc) = true := qg_ (N := 106) (fun pc h => cb_ h) (by decide +kernel)
set_option maxRecDepth 100000 in
theorem qk_91 : ∀ pc, qt_ ((mp_ 91).1 pc) = true := qg_ (N := 69) (fun pc h => cb_ h) (by decide +kernel)
set_option maxRecDepth 100000 in
theorem qk_92 : ∀ pc, qt_ ((mp_ 92).1 pc) = true := qg_ (N := 28) (fun pc h => cb_ h) (by decide +kernel)
set_option maxRecDepth 100000 in
theorem qk_93 : ∀ pc, qt_ ((mp_ 93).1 pc) = true := qg_ (N := 56) (fun pc h => cb_ h) (by decide +kernel)
set_option maxRecDepth 100000 in
theorem qk_94 : ∀ pc, qt_ ((mp_ 94).1 pc) = true := qg_ (N := 53) (fun pc h => cb_ h) (by decide +kernel)
set_option maxRecDepth 100000 in
theorem qk_95 : ∀ pc, qt_ ((mp_ 95).1 pc) = true := qg_ (N := 63) (fun pc h => cb_ h) (by decide +kernel)
set_option maxRecDepth 100000 in
theorem qk_96 : ∀ pc, qt_ ((mp_ 96).1 pc) = true := qg_ (N := 61) (fun pc h => cb_ h) (by decide +kernel)
set_option maxRecDepth 100000 in
theorem qk_97 : ∀ pc, qt_ ((mp_ 97).1 pc) = true := qg_ (N := 36) (fun pc h => cb_ h) (by decide +kernel)
set_option maxRecDepth 100000 in
theorem qk_98 : ∀ pc, qt_ ((mp_ 98).1 pc) = true := qg_ (N := 35) (fun pc h => cb_ h) (by decide +kernel)
set_option maxRecDepth 100000 in
theorem qk_99 : ∀ pc, qt_ ((mp_ 99).1 pc) = true := qg_ (N := 87) (fun pc h => cb_ h) (by decide +kernel)
set_option maxRecDepth 100000 in
theorem qk_100 : ∀ pc, qt_ ((mp_ 100).1 pc) = true := qg_ (N := 29) (fun pc h => cb_ h) (by decide +kernel)
set_option maxRecDepth 100000 in
theorem qk_101 : ∀ pc, qt_ ((mp_ 101).1 pc) = true := qg_ (N := 8) (fun pc h => cb_ h) (by decide +kernel)
set_option maxRecDepth 100000 in
theorem qk_102 : ∀ pc, qt_ ((mp_ 102).1 pc) = true := qg_ (N := 38) (fun pc h => cb_ h) (by decide +kernel)
set_option maxRecDepth 100000 in
theorem qk_103 : ∀ pc, qt_ ((mp_ 103).1 pc) = true := qg_ (N := 42) (fun pc h => cb_ h) (by decide +kernel)
set_option maxRecDepth 100000 in
theorem qk_104 : ∀ pc, qt_ ((mp_ 104).1 pc) = true := qg_ (N := 113) (fun pc h => cb_ h) (by decide +kernel)
set_option maxRecDepth 100000 in
theorem qk_105 : ∀ pc, qt_ ((mp_ 105).1 pc) = true := qg_ (N := 10) (fun pc h => cb_ h) (by decide +kernel)
set_option maxRecDepth 100000 in
theorem qk_106 : ∀ pc, qt_ ((mp_ 106).1 pc) = true := qg_ (N := 16) (fun pc h => cb_ h) (by decide +kernel)
set_option maxRecDepth 100000 in
theorem qk_107 : ∀ pc, qt_ ((mp_ 107).1 pc) = true := qg_ (N := 16) (fun pc h => cb_ h) (by decide +kernel)
set_option maxRecDepth 100000 in
theorem qk_108 : ∀ pc, qt_ ((mp_ 108).1 pc) = true := qg_ (N := 26) (fun pc h => cb_ h) (by decide +kernel)
set_option maxRecDepth 100000 in
theorem qk_109 : ∀ pc, qt_ ((mp_ 109).1 pc) = true := qg_ (N := 45) (fun pc h => cb_ h) (by decide +kernel)
set_option maxRecDepth 100000 in
theorem qk_111 : ∀ pc, qt_ ((mp_ 111).1 pc) = true := qg_ (N := 19) (fun pc h => cb_ h) (by decide +kernel)
set_option maxRecDepth 100000 in
theorem qk_112 : ∀ pc, qt_ ((mp_ 112).1 pc) = true := qg_ (N := 16) (fun pc h => cb_ h) (by decide +kernel)
set_option maxRecDepth 100000 in
theorem qk_113 : ∀ pc, qt_ ((mp_ 113).1 pc) = true := qg_ (N := 12) (fun pc h => cb_ h) (by decide +kernel)
set_option maxRecDepth 100000 in
theorem qk_114 : ∀ pc, qt_ ((mp_ 114).1 pc) = true := qg_ (N := 10) (fun pc h => cb_ h) (by decide +kernel)
set_option maxRecDepth 100000 in
theorem qk_115 : ∀ pc, qt_ ((mp_ 115).1 pc) = true := qg_ (N := 124) (fun pc h => cb_ h) (by decide +kernel)
set_option maxRecDepth 100000 in
theorem qk_116 : ∀ pc, qt_ ((mp_ 116).1 pc) = true := qg_ (N := 31) (fun pc h => cb_ h) (by decide +kernel)
set_option maxRecDepth 100000 in
theorem qk_117 : ∀ pc, qt_ ((mp_ 117).1 pc) = true := qg_ (N := 74) (fun pc h => cb_ h) (by decide +kernel)
set_option maxRecDepth 100000 in
theorem qk_118 : ∀ pc, qt_ ((mp_ 118).1 pc) = true := qg_ (N := 48) (fun pc h => cb_ h) (by decide +kernel)
set_option maxRecDepth 100000 in
theorem qk_119 : ∀ pc, qt_ ((mp_ 119).1 pc) = true := qg_ (N := 33) (fun pc h => cb_ h) (by decide +kernel)
set_option maxRecDepth 100000 in
theorem qk_120 : ∀ pc, qt_ ((mp_ 120).1 pc) = true := qg_ (N := 110) (fun pc h => cb_ h) (by decide +kernel)
set_option maxRecDepth 100000 in
theorem qk_121 : ∀ pc, qt_ ((mp_ 121).1 pc) = true := qg_ (N := 67) (fun pc h => cb_ h) (by decide +kernel)
set_option maxRecDepth 100000 in
theorem qk_122 : ∀ pc, qt_ ((mp_ 122).1 pc) = true := qg_ (N := 188) (fun pc h => cb_ h) (by decide +kernel)
set_option maxRecDepth 100000 in
theorem qk_123 : ∀ pc, qt_ ((mp_ 123).1 pc) = true := qg_ (N := 114) (fun pc h => cb_ h) (by decide +kernel)
set_option maxRecDepth 100000 in
theorem qk_124 : ∀ pc, qt_ ((mp_ 124).1 pc) = true := qg_ (N := 104) (fun pc h => cb_ h) (by decide +kernel)
set_option maxRecDepth 100000 in
theorem qk_125 : ∀ pc, qt_ ((mp_ 125).1 pc) = true := qg_ (N := 28) (fun pc h => cb_ h) (by decide +kernel)
set_option maxRecDepth 100000 in
theorem qk_126 : ∀ pc, qt_ ((mp_ 126).1 pc) = true := qg_ (N := 184) (fun pc h => cb_ h) (by decide +kernel)
set_option maxRecDepth 100000 in
theorem qk_127 : ∀ pc, qt_ ((mp_ 127).1 pc) = true := qg_ (N := 240) (fun pc h => cb_ h) (by decide +kernel)
set_option maxRecDepth 100000 in
theorem qk_128 : ∀ pc, qt_ ((mp_ 128).1 pc) = true := qg_ (N := 33) (fun pc h => cb_ h) (by decide +kernel)
set_option maxRecDepth 100000 in
theorem qk_129 : ∀ pc, qt_ ((mp_ 129).1 pc) = true := qg_ (N := 86) (fun pc h => cb_ h) (by decide +kernel)
set_option maxRecDepth 100000 in
theorem qk_130 : ∀ pc, qt_ ((mp_ 130).1 pc) = true := qg_ (N := 262) (fun pc h => cb_ h) (by decide +kernel)
set_option maxRecDepth 100000 in
theorem qk_131 : ∀ pc, qt_ ((mp_ 131).1 pc) = true := qg_ (N := 31) (fun pc h => cb_ h) (by decide +kernel)
set_option maxRecDepth 100000 in
theorem qk_132 : ∀ pc, qt_ ((mp_ 132).1 pc) = true := qg_ (N := 57) (fun pc h => cb_ h) (by decide +kernel)
set_option maxRecDepth 100000 in
theorem qk_133 : ∀ pc, qt_ ((mp_ 133).1 pc) = true := qg_ (N := 278) (fun pc h => cb_ h) (by decide +kernel)
set_option maxRecDepth 100000 in
theorem qk_134 : ∀ pc, qt_ ((mp_ 134).1 pc) = true := qg_ (N := 252) (fun pc h => cb_ h) (by decide +kernel)
set_option maxRecDepth 100000 in
theorem qk_135 : ∀ pc, qt_ ((mp_ 135).1 pc) = true := qg_ (N := 93) (fun pc h => cb_ h) (by decide +kernel)
set_option maxRecDepth 100000 in
theorem qk_136 : ∀ pc, qt_ ((mp_ 136).1 pc) = true := qg_ (N := 238) (fun pc h => cb_ h) (by decide +kernel)
set_option maxRecDepth 100000 in
theorem qk_137 : ∀ pc, qt_ ((mp_ 137).1 pc) = true := qg_ (N := 100) (fun pc h => cb_ h) (by decide +kernel)
set_option maxRecDepth 100000 in
theorem qk_138 : ∀ pc, qt_ ((mp_ 138).1 pc) = true := qg_ (N := 73) (fun pc h => cb_ h) (by decide +kernel)
set_option maxRecDepth 100000 in
theorem qk_139 : ∀ pc, qt_ ((mp_ 139).1 pc) = true := qg_ (N := 246) (fun pc h => cb_ h) (by decide +kernel)
set_option maxRecDepth 100000 in
theorem qk_140 : ∀ pc, qt_ ((mp_ 140).1 pc) = true := qg_ (N := 58) (fun pc h => cb_ h) (by decide +kernel)
set_option maxRecDepth 100000 in
theorem qk_141 : ∀ pc, qt_ ((mp_ 141).1 pc) = true := qg_ (N := 59) (fun pc h => cb_ h) (by decide +kernel)
set_option maxRecDepth 100000 in
theorem qk_142 : ∀ pc, qt_ ((mp_ 142).1 pc) = true := qg_ (N := 200) (fun pc h => cb_ h) (by decide +kernel)
set_option maxRecDepth 100000 in
theorem qk_143 : ∀ pc, qt_ ((mp_ 143).1 pc) = true := qg_ (N := 183) (fun pc h => cb_ h) (by decide +kernel)
set_option maxRecDepth 100000 in
theorem qk_144 : ∀ pc, qt_ ((mp_ 144).1 pc) = true := qg_ (N := 129) (fun pc h => cb_ h) (by decide +kernel)
set_option maxRecDepth 100000 in
theorem qk_145 : ∀ pc, qt_ ((mp_ 145).1 pc) = true := qg_ (N := 95) (fun pc h => cb_ h) (by decide +kernel)
set_option maxRecDepth 100000 in
theorem qk_146 : ∀ pc, qt_ ((mp_ 146).1 pc) = true := qg_ (N := 123) (fun pc h => cb_ h) (by decide +kernel)
set_option maxRecDepth 100000 in
theorem qk_147 : ∀ pc, qt_ ((mp_ 147).1 pc) = true := qg_ (N := 29) (fun pc h => cb_ h) (by decide +kernel)
set_option maxRecDepth 100000 in
theorem qk_148 : ∀ pc, qt_ ((mp_ 148).1 pc) = true := qg_ (N := 23) (fun pc h => cb_ h) (by decide +kernel)
set_option maxRecDepth 100000 in
theorem qk_149 : ∀ pc, qt_ ((mp_ 149).1 pc) = true := qg_ (N := 24) (fun pc h => cb_ h) (by decide +kernel)
set_option maxRecDepth 100000 in
theorem qk_150 : ∀ pc, qt_ ((mp_ 150).1 pc) = true := qg_ (N := 36) (fun pc h => cb_ h) (by decide +kernel)
set_option maxRecDepth 100000 in
theorem qk_151 : ∀ pc, qt_ ((mp_ 151).1 pc) = true := qg_ (N := 203) (fun pc h => cb_ h) (by decide +kernel)
set_option maxRecDepth 100000 in
theorem qk_152 : ∀ pc, qt_ ((mp_ 152).1 pc) = true := qg_ (N := 25) (fun pc h => cb_ h) (by decide +kernel)
set_option maxRecDepth 100000 in
theorem qk_153 : ∀ pc, qt_ ((mp_ 153).1 pc) = true := qg_ (N := 7) (fun pc h => cb_ h) (by decide +kernel)
set_option maxRecDepth 100000 in
theorem qk_154 : ∀ pc, qt_ ((mp_ 154).1 pc) = true := qg_ (N := 112) (fun pc h => cb_ h) (by decide +kernel)
set_option maxRecDepth 100000 in
theorem qk_155 : ∀ pc, qt_ ((mp_ 155).1 pc) = true := qg_ (N := 29) (fun pc h => cb_ h) (by decide +kernel)
set_option maxRecDepth 100000 in
theorem qk_156 : ∀ pc, qt_ ((mp_ 156).1 pc) = true := qg_ (N := 151) (fun pc h => cb_ h) (by decide +kernel)
set_option maxRecDepth 100000 in
theorem qk_157 : ∀ pc, qt_ ((mp_ 157).1 pc) = true := qg_ (N := 64) (fun pc h => cb_ h) (by decide +kernel)
set_option maxRecDepth 100000 in
theorem qk_158 : ∀ pc, qt_ ((mp_ 158).1 pc) = true := qg_ (N := 102) (fun pc h => cb_ h) (by decide +kernel)
set_option maxRecDepth 100000 in
theorem qk_159 : ∀ pc, qt_ ((mp_ 159).1 pc) = true := qg_ (N := 81) (fun pc h => cb_ h) (by decide +kernel)
set_option maxRecDepth 100000 in
theorem qk_160 : ∀ pc, qt_ ((mp_ 160).1 pc) = true := qg_ (N := 61) (fun pc h => cb_ h) (by decide +kernel)
set_option maxRecDepth 100000 in
theorem qk_161 : ∀ pc, qt_ ((mp_ 161).1 pc) = true := qg_ (N := 38) (fun pc h => cb_ h) (by decide +kernel)
set_option maxRecDepth 100000 in
theorem qk_162 : ∀ pc, qt_ ((mp_ 162).1 pc) = true := qg_ (N := 227) (fun pc h => cb_ h) (by decide +kernel)
set_option maxRecDepth 100000 in
theorem qk_163 : ∀ pc, qt_ ((mp_ 163).1 pc) = true := qg_ (N := 161) (fun pc h => cb_ h) (by decide +kernel)
set_option maxRecDepth 100000 in
theorem qk_164 : ∀ pc, qt_ ((mp_ 164).1 pc) = true := qg_ (N := 72) (fun pc h => cb_ h) (by decide +kernel)
set_option maxRecDepth 100000 in
theorem qk_165 : ∀ pc, qt_ ((mp_ 165).1 pc) = true := qg_ (N := 47) (fun pc h => cb_ h) (by decide +kernel)
set_option maxRecDepth 100000 in
theorem qk_166 : ∀ pc, qt_ ((mp_ 166).1 pc) = true := qg_ (N := 220) (fun pc h => cb_ h) (by decide +kernel)
set_option maxRecDepth 100000 in
theorem qk_167 : ∀ pc, qt_ ((mp_ 167).1 pc) = true := qg_ (N := 84) (fun pc h => cb_ h) (by decide +kernel)
set_option maxRecDepth 100000 in
theorem qk_168 : ∀ pc, qt_ ((mp_ 168).1 pc) = true := qg_ (N := 68) (fun pc h => cb_ h) (by decide +kernel)
set_option maxRecDepth 100000 in
theorem qk_169 : ∀ pc, qt_ ((mp_ 169).1 pc) = true := qg_ (N := 35) (fun pc h => cb_ h) (by decide +kernel)
set_option maxRecDepth 100000 in
theorem qk_170 : ∀ pc, qt_ ((mp_ 170).1 pc) = true := qg_ (N := 119) (fun pc h => cb_ h) (by decide +kernel)
set_option maxRecDepth 100000 in
theorem qk_171 : ∀ pc, qt_ ((mp_ 171).1 pc) = true := qg_ (N := 50) (fun pc h => cb_ h) (by decide +kernel)
set_option maxRecDepth 100000 in
theorem qk_172 : ∀ pc, qt_ ((mp_ 172).1 pc) = true := qg_ (N := 226) (fun pc h => cb_ h) (by decide +kernel)
set_option maxRecDepth 100000 in
theorem qk_173 : ∀ pc, qt_ ((mp_ 173).1 pc) = true := qg_ (N := 190) (fun pc h => cb_ h) (by decide +kernel)
set_option maxRecDepth 100000 in
theorem qk_174 : ∀ pc, qt_ ((mp_ 174).1 pc) = true := qg_ (N := 36) (fun pc h => cb_ h) (by decide +kernel)
set_option maxRecDepth 100000 in
theorem qk_175 : ∀ pc, qt_ ((mp_ 175).1 pc) = true := qg_ (N := 10) (fun pc h => cb_ h) (by decide +kernel)
set_option maxRecDepth 100000 in
theorem qk_176 : ∀ pc, qt_ ((mp_ 176).1 pc) = true := qg_ (N := 59) (fun pc h => cb_ h) (by decide +kernel)
set_option maxRecDepth 100000 in
theorem qk_177 : ∀ pc, qt_ ((mp_ 177).1 pc) = true := qg_ (N := 304) (fun pc h => cb_ h) (by decide +kernel)
set_option maxRecDepth 100000 in
theorem qk_178 : ∀ pc, qt_ ((mp_ 178).1 pc) = true := qg_ (N := 54) (fun pc h => cb_ h) (by decide +kernel)
set_option maxRecDepth 100000 in
theorem qk_179 : ∀ pc, qt_ ((mp_ 179).1 pc) = true := qg_ (N := 60) (fun pc h => cb_ h) (by decide +kernel)
set_option maxRecDepth 100000 in
theorem qk_180 : ∀ pc, qt_ ((mp_ 180).1 pc) = true := qg_ (N := 80) (fun pc h => cb_ h) (by decide +kernel)
set_option maxRecDepth 100000 in
theorem qk_181 : ∀ pc, qt_ ((mp_ 181).1 pc) = true := qg_ (N := 111) (fun pc h => cb_ h) (by decide +kernel)
set_option maxRecDepth 100000 in
theorem qk_182 : ∀ pc, qt_ ((mp_ 182).1 pc) = true := qg_ (N := 62) (fun pc h => cb_ h) (by decide +kernel)
set_option maxRecDepth 100000 in
theorem qk_183 : ∀ pc, qt_ ((mp_ 183).1 pc) = true := qg_ (N := 186) (fun pc h => cb_ h) (by decide +kernel)
set_option maxRecDepth 100000 in
theorem qk_184 : ∀ pc, qt_ ((mp_ 184).1 pc) = true := qg_ (N := 61) (fun pc h => cb_ h) (by decide +kernel)
set_option maxRecDepth 100000 in
theorem qk_185 : ∀ pc, qt_ ((mp_ 185).1 pc) = true := qg_ (N := 23) (fun pc h => cb_ h) (by decide +kernel)
set_option maxRecDepth 100000 in
theorem qk_186 : ∀ pc, qt_ ((mp_ 186).1 pc) = true := qg_ (N := 21) (fun pc h => cb_ h) (by decide +kernel)
theorem ql_0 : ∀ x ∈ ([0, 1, 2, 3, 4, 5, 6, 7, 8, 9, 10, 11, 12, 13, 14, 15, 16, 17, 18, 19, 20] : List Nat), mk_k x ≠ 2 → ∀ pc, qt_ ((mp_ x).1 pc) = true := List.forall_mem_cons.mpr ⟨fun h => absurd rfl h, List.forall_mem_cons.mpr ⟨fun _ => qk_1, List.forall_mem_cons.mpr ⟨fun _ => qk_2, List.forall_mem_cons.mpr ⟨fun _ => qk_3, List.forall_mem_cons.mpr ⟨fun _ => qk_4, List.forall_mem_cons.mpr ⟨fun h => absurd rfl h, List.forall_mem_cons.mpr ⟨fun _ => qk_6, List.forall_mem_cons.mpr ⟨fun _ => qk_7, List.forall_mem_cons.mpr ⟨fun _ => qk_8, List.forall_mem_cons.mpr ⟨fun _ => qk_9, List.forall_mem_cons.mpr ⟨fun _ => qk_10, List.forall_mem_cons.mpr ⟨fun _ => qk_11, List.forall_mem_cons.mpr ⟨fun _ => qk_12, List.forall_mem_cons.mpr ⟨fun _ => qk_13, List.forall_mem_cons.mpr ⟨fun _ => qk_14, List.forall_mem_cons.mpr ⟨fun h => absurd rfl h, List.forall_mem_cons.mpr ⟨fun _ => qk_16, List.forall_mem_cons.mpr ⟨fun _ => qk_17, List.forall_mem_cons.mpr ⟨fun _ => qk_18, List.forall_mem_cons.mpr ⟨fun _ => qk_19, List.forall_mem_cons.mpr ⟨fun _ => qk_20, fun _ h => absurd h List.not_mem_nil⟩⟩⟩⟩⟩⟩⟩⟩⟩⟩⟩⟩⟩⟩⟩⟩⟩⟩⟩⟩⟩
theorem ql_21 : ∀ x ∈ ([21, 22, 23, 24, 25, 26, 27, 28, 29, 30, 31, 32, 33, 34, 35, 36, 37, 38, 39, 40, 41] : List Nat), mk_k x ≠ 2 → ∀ pc, qt_ ((mp_ x).1 pc) = true := List.forall_mem_cons.mpr ⟨fun _ => qk_21, List.forall_mem_cons.mpr ⟨fun _ => qk_22, List.forall_mem_cons.mpr ⟨fun _ => qk_23, List.forall_mem_cons.mpr ⟨fun _ => qk_24, List.forall_mem_cons.mpr ⟨fun _ => qk_25, List.forall_mem_cons.mpr ⟨fun _ => qk_26, List.forall_mem_cons.mpr ⟨fun h => absurd rfl h, List.forall_mem_cons.mpr ⟨fun _ => qk_28, List.forall_mem_cons.mpr ⟨fun _ => qk_29, List.forall_mem_cons.mpr ⟨fun _ => qk_30, List.forall_mem_cons.mpr ⟨fun _ => qk_31, List.forall_mem_cons.mpr ⟨fun _ => qk_32, List.forall_mem_cons.mpr ⟨fun _ => qk_33, List.forall_mem_cons.mpr ⟨fun _ => qk_34, List.forall_mem_cons.mpr ⟨fun _ => qk_35, List.forall_mem_cons.mpr ⟨fun _ => qk_36, List.forall_mem_cons.mpr ⟨fun _ => qk_37, List.forall_mem_cons.mpr ⟨fun _ => qk_38, List.forall_mem_cons.mpr ⟨fun _ => qk_39, List.forall_mem_cons.mpr ⟨fun _ => qk_40, List.forall_mem_cons.mpr ⟨fun _ => qk_41, fun _ h => absurd h List.not_mem_nil⟩⟩⟩⟩⟩⟩⟩⟩⟩⟩⟩⟩⟩⟩⟩⟩⟩⟩⟩⟩⟩
theorem ql_42 : ∀ x ∈ ([42, 43, 44, 45, 46, 47, 48, 49, 50, 51, 52, 53, 54, 55, 56, 57, 58, 59, 60, 61, 62] : List Nat), mk_k x ≠ 2 → ∀ pc, qt_ ((mp_ x).1 pc) = true := List.forall_mem_cons.mpr ⟨fun _ => qk_42, List.forall_mem_cons.mpr ⟨fun _ => qk_43, List.forall_mem_cons.mpr ⟨fun _ => qk_44, List.forall_mem_cons.mpr ⟨fun _ => qk_45, List.forall_mem_cons.mpr ⟨fun h => absurd rfl h, List.forall_mem_cons.mpr ⟨fun _ => qk_47, List.forall_mem_cons.mpr ⟨fun _ => qk_48, List.forall_mem_cons.mpr ⟨fun h => absurd rfl h, List.forall_mem_cons.mpr ⟨fun _ => qk_50, List.forall_mem_cons.mpr ⟨fun _ => qk_51, List.forall_mem_cons.mpr ⟨fun _ => qk_52, List.forall_mem_cons.mpr ⟨fun _ => qk_53, List.forall_mem_cons.mpr ⟨fun _ => qk_54, List.forall_mem_cons.mpr ⟨fun h => absurd rfl h, List.forall_mem_cons.mpr ⟨fun _ => qk_56, List.forall_mem_cons.mpr ⟨fun _ => qk_57, List.forall_mem_cons.mpr ⟨fun _ => qk_58, List.forall_mem_cons.mpr ⟨fun _ => qk_59, List.forall_mem_cons.mpr ⟨fun _ => qk_60, List.forall_mem_cons.mpr ⟨fun _ => qk_61, List.forall_mem_cons.mpr ⟨fun _ => qk_62, fun _ h => absurd h List.not_mem_nil⟩⟩⟩⟩⟩⟩⟩⟩⟩⟩⟩⟩⟩⟩⟩⟩⟩⟩⟩⟩⟩
theorem ql_63 : ∀ x ∈ ([63, 64, 65, 66, 67, 68, 69, 70, 71, 72, 73, 74, 75, 76, 77, 78, 79, 80, 81, 82, 83] : List Nat), mk_k x ≠ 2 → ∀ pc, qt_ ((mp_ x).1 pc) = true := List.forall_mem_cons.mpr ⟨fun h => absurd rfl h, List.forall_mem_cons.mpr ⟨fun _ => qk_64, List.forall_mem_cons.mpr ⟨fun _ => qk_65, List.forall_mem_cons.mpr ⟨fun _ => qk_66, List.forall_mem_cons.mpr ⟨fun _ => qk_67, List.forall_mem_cons.mpr ⟨fun _ => qk_68, List.forall_mem_cons.mpr ⟨fun _ => qk_69, List.forall_mem_cons.mpr ⟨fun _ => qk_70, List.forall_mem_cons.mpr ⟨fun _ => qk_71, List.forall_mem_cons.mpr ⟨fun _ => qk_72, List.forall_mem_cons.mpr ⟨fun _ => qk_73, List.forall_mem_cons.mpr ⟨fun _ => qk_74, List.forall_mem_cons.mpr ⟨fun _ => qk_75, List.forall_mem_cons.mpr ⟨fun _ => qk_76, List.forall_mem_cons.mpr ⟨fun _ => qk_77, List.forall_mem_cons.mpr ⟨fun _ => qk_78, List.forall_mem_cons.mpr ⟨fun _ => qk_79, List.forall_mem_cons.mpr ⟨fun _ => qk_80, List.forall_mem_cons.mpr ⟨fun h => absurd rfl h, List.forall_mem_cons.mpr ⟨fun _ => qk_82, List.forall_mem_cons.mpr ⟨fun _ => qk_83, fun _ h => absurd h List.not_mem_nil⟩⟩⟩⟩⟩⟩⟩⟩⟩⟩⟩⟩⟩⟩⟩⟩⟩⟩⟩⟩⟩
theorem ql_84 : ∀ x ∈ ([84, 85, 86, 87, 88, 89, 90, 91, 92, 93, 94, 95, 96, 97, 98, 99, 100, 101, 102, 103, 104] : List Nat), mk_k x ≠ 2 → ∀ pc, qt_ ((mp_ x).1 pc) = true := List.forall_mem_cons.mpr ⟨fun _ => qk_84, List.forall_mem_cons.mpr ⟨fun _ => qk_85, List.forall_mem_cons.mpr ⟨fun _ => qk_86, List.forall_mem_cons.mpr ⟨fun _ => qk_87, List.forall_mem_cons.mpr ⟨fun _ => qk_88, List.forall_mem_cons.mpr ⟨fun _ => qk_89, List.forall_mem_cons.mpr ⟨fun _ => qk_90, List.forall_mem_cons.mpr ⟨fun _ => qk_91, List.forall_mem_cons.mpr ⟨fun _ => qk_92, List.forall_mem_cons.mpr ⟨fun _ => qk_93, List.forall_mem_cons.mpr ⟨fun _ => qk_94, List.forall_mem_cons.mpr ⟨fun _ => qk_95, List.forall_mem_cons.mpr ⟨fun _ => qk_96, List.forall_mem_cons.mpr ⟨fun _ => qk_97, List.forall_mem_cons.mpr ⟨fun _ => qk_98, List.forall_mem_cons.mpr ⟨fun _ => qk_99, List.forall_mem_cons.mpr ⟨fun _ => qk_100, List.forall_mem_cons.mpr ⟨fun _ => qk_101, List.forall_mem_cons.mpr ⟨fun _ => qk_102, List.forall_mem_cons.mpr ⟨fun _ => qk_103, List.forall_mem_cons.mpr ⟨fun _ => qk_104, fun _ h => absurd h List.not_mem_nil⟩⟩⟩⟩⟩⟩⟩⟩⟩⟩⟩⟩⟩⟩⟩⟩⟩⟩⟩⟩⟩
theorem ql_105 : ∀ x ∈ ([105, 106, 107, 108, 109, 110, 111, 112, 113, 114, 115, 116, 117, 118, 119, 120, 121, 122, 123, 124, 125] : List Nat), mk_k x ≠ 2 → ∀ pc, qt_ ((mp_ x).1 pc) = true := List.forall_mem_cons.mpr ⟨fun _ => qk_105, List.forall_mem_cons.mpr ⟨fun _ => qk_106, List.forall_mem_cons.mpr ⟨fun _ => qk_107, List.forall_mem_cons.mpr ⟨fun _ => qk_108, List.forall_mem_cons.mpr ⟨fun _ => qk_109, List.forall_mem_cons.mpr ⟨fun h => absurd rfl h, List.forall_mem_cons.mpr ⟨fun _ => qk_111, List.forall_mem_cons.mpr ⟨fun _ => qk_112, List.forall_mem_cons.mpr ⟨fun _ => qk_113, List.forall_mem_cons.mpr ⟨fun _ => qk_114, List.forall_mem_cons.mpr ⟨fun _ => qk_115, List.forall_mem_cons.mpr ⟨fun _ => qk_116, List.forall_mem_cons.mpr ⟨fun _ => qk_117, List.forall_mem_cons.mpr ⟨fun _ => qk_118, List.forall_mem_cons.mpr ⟨fun _ => qk_119, List.forall_mem_cons.mpr ⟨fun _ => qk_120, List.forall_mem_cons.mpr ⟨fun _ => qk_121, List.forall_mem_cons.mpr ⟨fun _ => qk_122, List.forall_mem_cons.mpr ⟨fun _ => qk_123, List.forall_mem_cons.mpr ⟨fun _ => qk_124, List.forall_mem_cons.mpr ⟨fun _ => qk_125, fun _ h => absurd h List.not_mem_nil⟩⟩⟩⟩⟩⟩⟩⟩⟩⟩⟩⟩⟩⟩⟩⟩⟩⟩⟩⟩⟩
theorem ql_126 : ∀ x ∈ ([126, 127, 128, 129, 130, 131, 132, 133, 134, 135, 136, 137, 138, 139, 140, 141, 142, 143, 144, 145, 146] : List Nat), mk_k x ≠ 2 → ∀ pc, qt_ ((mp_ x).1 pc) = true := List.forall_mem_cons.mpr ⟨fun _ => qk_126, List.forall_mem_cons.mpr ⟨fun _ => qk_127, List.forall_mem_cons.mpr ⟨fun _ => qk_128, List.forall_mem_cons.mpr ⟨fun _ => qk_129, List.forall_mem_cons.mpr ⟨fun _ => qk_130, List.forall_mem_cons.mpr ⟨fun _ => qk_131, List.forall_mem_cons.mpr ⟨fun _ => qk_132, List.forall_mem_cons.mpr ⟨fun _ => qk_133, List.forall_mem_cons.mpr ⟨fun _ => qk_134, List.forall_mem_cons.mpr ⟨fun _ => qk_135, List.forall_mem_cons.mpr ⟨fun _ => qk_136, List.forall_mem_cons.mpr ⟨fun _ => qk_137, List.forall_mem_cons.mpr ⟨fun _ => qk_138, List.forall_mem_cons.mpr ⟨fun _ => qk_139, List.forall_mem_cons.mpr ⟨fun _ => qk_140, List.forall_mem_cons.mpr ⟨fun _ => qk_141, List.forall_mem_cons.mpr ⟨fun _ => qk_142, List.forall_mem_cons.mpr ⟨fun _ => qk_143, List.forall_mem_cons.mpr ⟨fun _ => qk_144, List.forall_mem_cons.mpr ⟨fun _ => qk_145, List.forall_mem_cons.mpr ⟨fun _ => qk_146, fun _ h => absurd h List.not_mem_nil⟩⟩⟩⟩⟩⟩⟩⟩⟩⟩⟩⟩⟩⟩⟩⟩⟩⟩⟩⟩⟩
theorem ql_147 : ∀ x ∈ ([147, 148, 149, 150, 151, 152, 153, 154, 155, 156, 157, 158, 159, 160, 161, 162, 163, 164, 165, 166, 167] : List Nat), mk_k x ≠ 2 → ∀ pc, qt_ ((mp_ x).1 pc) = true := List.forall_mem_cons.mpr ⟨fun _ => qk_147, List.forall_mem_cons.mpr ⟨fun _ => qk_148, List.forall_mem_cons.mpr ⟨fun _ => qk_149, List.forall_mem_cons.mpr ⟨fun _ => qk_150, List.forall_mem_cons.mpr ⟨fun _ => qk_151, List.forall_mem_cons.mpr ⟨fun _ => qk_152, List.forall_mem_cons.mpr ⟨fun _ => qk_153, List.forall_mem_cons.mpr ⟨fun _ => qk_154, List.forall_mem_cons.mpr ⟨fun _ => qk_155, List.forall_mem_cons.mpr ⟨fun _ => qk_156, List.forall_mem_cons.mpr ⟨fun _ => qk_157, List.forall_mem_cons.mpr ⟨fun _ => qk_158, List.forall_mem_cons.mpr ⟨fun _ => qk_159, List.forall_mem_cons.mpr ⟨fun _ => qk_160, List.forall_mem_cons.mpr ⟨fun _ => qk_161, List.forall_mem_cons.mpr ⟨fun _ => qk_162, List.forall_mem_cons.mpr ⟨fun _ => qk_163, List.forall_mem_cons.mpr ⟨fun _ => qk_164, List.forall_mem_cons.mpr ⟨fun _ => qk_165, List.forall_mem_cons.mpr ⟨fun _ => qk_166, List.forall_mem_cons.mpr ⟨fun _ => qk_167, fun _ h => absurd h List.not_mem_nil⟩⟩⟩⟩⟩⟩⟩⟩⟩⟩⟩⟩⟩⟩⟩⟩⟩⟩⟩⟩⟩
theorem ql_168 : ∀ x ∈ ([168, 169, 170, 171, 172, 173, 174, 175, 176, 177, 178, 179, 180, 181, 182, 183, 184, 185, 186] : List Nat), mk_k x ≠ 2 → ∀ pc, qt_ ((mp_ x).1 pc) = true := List.forall_mem_cons.mpr ⟨fun _ => qk_168, List.forall_mem_cons.mpr ⟨fun _ => qk_169, List.forall_mem_cons.mpr ⟨fun _ => qk_170, List.forall_mem_cons.mpr ⟨fun _ => qk_171, List.forall_mem_cons.mpr ⟨fun _ => qk_172, List.forall_mem_cons.mpr ⟨fun _ => qk_173, List.forall_mem_cons.mpr ⟨fun _ => qk_174, List.forall_mem_cons.mpr ⟨fun _ => qk_175, List.forall_mem_cons.mpr ⟨fun _ => qk_176, List.forall_mem_cons.mpr ⟨fun _ => qk_177, List.forall_mem_cons.mpr ⟨fun _ => qk_178, List.forall_mem_cons.mpr ⟨fun _ => qk_179, List.forall_mem_cons.mpr ⟨fun _ => qk_180, List.forall_mem_cons.mpr ⟨fun _ => qk_181, List.forall_mem_cons.mpr ⟨fun _ => qk_182, List.forall_mem_cons.mpr ⟨fun _ => qk_183, List.forall_mem_cons.mpr ⟨fun _ => qk_184, List.forall_mem_cons.mpr ⟨fun _ => qk_185, List.forall_mem_cons.mpr ⟨fun _ => qk_186, fun _ h => absurd h List.not_mem_nil⟩⟩⟩⟩⟩⟩⟩⟩⟩⟩⟩⟩⟩⟩⟩⟩⟩⟩⟩
theorem qk_all {x : Nat} (hx : x < 187) (hk : mk_k x ≠ 2) : ∀ pc, qt_ ((mp_ x).1 pc) = true := (show ∀ x ∈ ([0, 1, 2, 3, 4, 5, 6, 7, 8, 9, 10, 11, 12, 13, 14, 15, 16, 17, 18, 19, 20] : List Nat) ++ (([21, 22, 23, 24, 25, 26, 27, 28, 29, 30, 31, 32, 33, 34, 35, 36, 37, 38, 39, 40, 41] : List Nat) ++ (([42, 43, 44, 45, 46, 47, 48, 49, 50, 51, 52, 53, 54, 55, 56, 57, 58, 59, 60, 61, 62] : List Nat) ++ (([63, 64, 65, 66, 67, 68, 69, 70, 71, 72, 73, 74, 75, 76, 77, 78, 79, 80, 81, 82, 83] : List Nat) ++ (([84, 85, 86, 87, 88, 89, 90, 91, 92, 93, 94, 95, 96, 97, 98, 99, 100, 101, 102, 103, 104] : List Nat) ++ (([105, 106, 107, 108, 109, 110, 111, 112, 113, 114, 115, 116, 117, 118, 119, 120, 121, 122, 123, 124, 125] : List Nat) ++ (([126, 127, 128, 129, 130, 131, 132, 133, 134, 135, 136, 137, 138, 139, 140, 141, 142, 143, 144, 145, 146] : List Nat) ++ (([147, 148, 149, 150, 151, 152, 153, 154, 155, 156, 157, 158, 159, 160, 161, 162, 163, 164, 165, 166, 167] : List Nat) ++ (([168, 169, 170, 171, 172, 173, 174, 175, 176, 177, 178, 179, 180, 181, 182, 183, 184, 185, 186] : List Nat))))))))), mk_k x ≠ 2 → ∀ pc, qt_ ((mp_ x).1 pc) = true from List.forall_mem_append.mpr ⟨ql_0, List.forall_mem_append.mpr ⟨ql_21, List.forall_mem_append.mpr ⟨ql_42, List.forall_mem_append.mpr ⟨ql_63, List.forall_mem_append.mpr ⟨ql_84, List.forall_mem_append.mpr ⟨ql_105, List.forall_mem_append.mpr ⟨ql_126, List.forall_mem_append.mpr ⟨ql_147, ql_168⟩⟩⟩⟩⟩⟩⟩⟩) x (by rw [show ([0, 1, 2, 3, 4, 5, 6, 7, 8, 9, 10, 11, 12, 13, 14, 15, 16, 17, 18, 19, 20] : List Nat) ++ (([21, 22, 23, 24, 25, 26, 27, 28, 29, 30, 31, 32, 33, 34, 35, 36, 37, 38, 39, 40, 41] : List Nat) ++ (([42, 43, 44, 45, 46, 47, 48, 49, 50, 51, 52, 53, 54, 55, 56, 57, 58, 59, 60, 61, 62] : List Nat) ++ (([63, 64, 65, 66, 67, 68, 69, 70, 71, 72, 73, 74, 75, 76, 77, 78, 79, 80, 81, 82, 83] : List Nat) ++ (([84, 85, 86, 87, 88, 89, 90, 91, 92, 93, 94, 95, 96, 97, 98, 99, 100, 101, 102, 103, 104] : List Nat) ++ (([105, 106, 107, 108, 109, 110, 111, 112, 113, 114, 115, 116, 117, 118, 119, 120, 121, 122, 123, 124, 125] : List Nat) ++ (([126, 127, 128, 129, 130, 131, 132, 133, 134, 135, 136, 137, 138, 139, 140, 141, 142, 143, 144, 145, 146] : List Nat) ++ (([147, 148, 149, 150, 151, 152, 153, 154, 155, 156, 157, 158, 159, 160, 161, 162, 163, 164, 165, 166, 167] : List Nat) ++ (([168, 169, 170, 171, 172, 173, 174, 175, 176, 177, 178, 179, 180, 181, 182, 183, 184, 185, 186] : List Nat))))))))) = List.range 187 from by decide +kernel]; exact List.mem_range.mpr hx) hk
/-- a quiet step goes on with quiet stores alone -/
theorem qt_st {q : qs_} {ρ σ : Type} {G : ρ → σ → Prop} {fl : ρ} {fm : σ} (xs : Nat → Int32) (L : Nat) (sw : Nat → List (Int × Nat)) (e : en_) (he : qt_ e = true) (pc : Nat) (ls : lo_) (st : List Value) (D : dy_) {rt : Option Value → hp_ → ρ} {rt' : Option Value → hp_ → σ} {k : Nat → lo_ → List Value → hp_ → ρ} {k' : Nat → lo_ → List Value → hp_ → σ} {iv : Nat → List Value → hp_ → (Option Value → hp_ → ρ) → ρ} {iv' : Nat → List Value → hp_ → (Option Value → hp_ → σ) → σ}
    (h0 : G fl fm) (hr : ∀ v D, G (rt v (hq_ q D)) (rt' v (hq_ q D))) (hk : ∀ pc ls st D, G (k pc ls st (hq_ q D)) (k' pc ls st (hq_ q D))) (hi : ∀ m as D f g, (∀ v D, G (f v (hq_ q D)) (g v (hq_ q D))) → G (iv m as (hq_ q D) f) (iv' m as (hq_ q D) g)) :
    G (st_ xs L sw e pc ls st (hq_ q D) fl rt k iv) (st_ xs L sw e pc ls st (hq_ q D) fm rt' k' iv') := by
  obtain ⟨op, e⟩ := e
  unfold st_
  match op, he with
  | 0, _ | 1, _ | 12, _ => exact hk _ _ _ _
  | 2, _ => exact pa_o _ h0 fun _ => pa_ty _ _ h0 fun _ => hk _ _ _ _
  | 3, _ => exact pa_p _ h0 fun _ _ => pa_ty _ _ h0 fun _ => hk _ _ _ _
  | 4, _ => exact pa_o _ h0 fun _ => pa_i _ h0 fun _ => hk _ _ _ _
  | 5, _ => exact pa_pi _ h0 fun _ _ => pa_pi _ h0 fun _ _ => pa_ib _ _ _ h0 fun _ => hk _ _ _ _
  | 6, _ => exact pa_pl _ h0 fun _ _ => pa_pl _ h0 fun _ _ => pa_lb _ _ _ h0 fun _ => hk _ _ _ _
  | 7, _ => exact pa_pi _ h0 fun _ _ => pa_pl _ h0 fun _ _ => pa_ls _ _ _ h0 fun _ => hk _ _ _ _
  | 8, _ => exact pa_p _ h0 fun _ _ => pa_cv _ _ h0 fun _ => hk _ _ _ _
  | 9, _ => exact pa_pl _ h0 fun _ _ => pa_pl _ h0 fun _ _ => hk _ _ _ _
  | 10, _ => exact pa_pi _ h0 fun _ _ => pa_cc _ _ _ h0 (hk _ _ _ _) (hk _ _ _ _)
  | 11, _ => exact pa_pi _ h0 fun _ _ => pa_pi _ h0 fun _ _ => pa_cc _ _ _ h0 (hk _ _ _ _) (hk _ _ _ _)
  | 13, _ => exact pa_pr _ h0 fun _ _ => pa_if _ (pa_gf _ _ _ _ h0 fun _ => hk _ _ _ _) h0
  | 14, he =>
    refine pa_p _ h0 fun v _ => pa_pr _ h0 fun a _ => pa_if _ ?_ h0
    have he : (e.2.2.2.1 != 2) = true := he
    revert he
    show (e.2.2.2.1 != 2) = true → G (mk_pf e.2.2.2.1 _ _ _ _ _ _ _) (mk_pf e.2.2.2.1 _ _ _ _ _ _ _)
    generalize e.2.2.2.1 = z
    intro he
    match z, he with
    | 0, _ => exact pa_i _ h0 fun n => hk _ _ _ (va_up D.1 a (va_up (D.1 a) e.2.2.1 n), D.2)
    | 1, _ => exact pa_i _ h0 fun n => pa_if _ (hk _ _ _ (va_up D.1 a (va_up (D.1 a) e.2.2.1 n), D.2)) h0
    | z + 3, _ => exact h0
  | 15, _ => exact pa_pi _ h0 fun _ _ => pa_pr _ h0 fun _ _ => pa_al _ _ _ _ h0 fun _ => hk _ _ _ _
  | 16, he =>
    refine pa_p _ h0 fun v _ => pa_pi _ h0 fun i _ => pa_pr _ h0 fun a _ => pa_if _ (pa_if _ h0 ?_) h0
    have he : (e.2.1 != 5) = true := he
    revert he
    generalize e.2.1 = z
    intro he
    match z, he with
    | 0, _ => exact h0
    | 1, _ => exact pa_i _ h0 fun n => hk _ _ _ (va_up D.1 a (va_up (D.1 a) i.toNatClampNeg n), D.2)
    | 2, _ => exact pa_i _ h0 fun n => hk _ _ _ (va_up D.1 a (va_up (D.1 a) i.toNatClampNeg (vp_nar .boolean n)), D.2)
    | 3, _ => exact pa_i _ h0 fun n => hk _ _ _ (va_up D.1 a (va_up (D.1 a) i.toNatClampNeg (vp_nar .byte n)), D.2)
    | 4, _ => exact pa_l _ h0 fun n => hk _ _ _ (D.1, va_up D.2 a (va_up (D.2 a) i.toNatClampNeg n))
    | z + 6, _ => exact h0
  | 17, _ => exact pa_pr _ h0 fun _ _ => pa_if _ (hk _ _ _ _) h0
  | 18, _ | 19, _ => exact pa_p _ h0 fun _ _ => pa_if _ (hk _ _ _ _) h0
  | 20, _ => exact pa_p _ h0 fun _ _ => pa_p _ h0 fun _ _ => pa_if _ (hk _ _ _ _) h0
  | 23, _ => exact h0
  | 24, _ => exact pa_if _ (pa_rc _ _ _ h0 (hi _ _ _ _ _ fun _ _ => pa_rv _ _ _ h0 fun _ => hk _ _ _ _)) h0
  | 25, _ => exact pa_pr _ h0 fun _ _ => pa_if _ (hk _ _ _ _) h0
  | 26, _ => exact pa_pi _ h0 fun n _ => pa_pi _ h0 fun dp _ => pa_pr _ h0 fun a _ => pa_pi _ h0 fun sp _ => pa_pr _ h0 fun a0 _ => pa_if _ (hk _ _ _ (va_up D.1 a (va_cpy (D.1 a0) (D.1 a) sp.toNatClampNeg dp.toNatClampNeg n.toNatClampNeg), D.2)) h0
  | 27, _ => exact pa_p _ h0 fun _ _ => pa_e _ h0 (pa_rt _ _ h0 fun _ => hr _ _)
  | 28, _ | 29, _ => exact pa_pi _ h0 fun _ _ => pa_pi _ h0 fun _ _ => pa_if _ (hk _ _ _ _) h0
  | 30, _ => exact pa_e _ h0 (hr _ _)
  | 31, _ => exact pa_pi _ h0 fun _ _ => pa_sw _ _ _ fun _ => hk _ _ _ _
  | 32, _ => exact pa_pi _ h0 fun _ _ => pa_pr _ h0 fun _ _ => pa_if _ (pa_if _ h0 (hk _ _ _ _)) h0
  | 33, _ => exact pa_pr _ h0 fun _ _ => pa_if _ (hk _ _ _ _) h0
  | _ + 34, _ => exact h0
def sq_ (q : qs_) (xs : Nat → Int32) (L : Nat) (mt : mt_) (ck : Nat → List Value → dy_ → rd_) (kk : Nat → lo_ → List Value → dy_ → rd_) : Nat → Nat → lo_ → List Value → hp_ → rd_
  | 0, _, _, _, _ => none
  | n + 1, pc, ls, st, h => st_ xs L mt.2.2.1 (mt.1 pc) pc ls st h none (fun v h => some (v, dn_ h)) (fun pc ls st h => op_o (mt.2.1 pc) (sq_ q xs L mt ck kk n pc ls st h) fun lv => kk pc (mk_pk lv ls) st (dn_ h)) (fun m as h f => op_o (ck m as (dn_ h)) none fun p => f p.1 (hq_ q p.2))
theorem sq_mono (q : qs_) (xs : Nat → Int32) (L : Nat) (mt : mt_) (ck : Nat → List Value → dy_ → rd_) {k k' : Nat → lo_ → List Value → dy_ → rd_} (hk : ∀ pc ls st h, le_ (k pc ls st h) (k' pc ls st h)) : ∀ n pc ls st h, le_ (sq_ q xs L mt ck k n pc ls st h) (sq_ q xs L mt ck k' n pc ls st h) := by
  intro n
  induction n with
  | zero => exact fun _ _ _ _ => le_r _
  | succ n ih =>
    intro pc ls st h
    exact pa_st (G := le_) xs L mt.2.2.1 _ pc ls st _ (le_r _) (fun _ _ => le_r _) (fun pc ls st h => pa_o (G := le_) _ (ih _ _ _ _) fun _ => hk _ _ _ _) (fun m as h f g hf => pa_o (G := le_) _ (le_r _) fun p => hf _ _)
theorem sq_lim (q : qs_) (xs : Nat → Int32) (L : Nat) (mt : mt_) (ck : Nat → List Value → dy_ → rd_) {k : Nat → Nat → lo_ → List Value → dy_ → rd_} {k' : Nat → lo_ → List Value → dy_ → rd_} (hk : ∀ pc ls st h x, k' pc ls st h = some x → ∃ i, k i pc ls st h = some x) :
    ∀ n pc ls st h x, sq_ q xs L mt ck k' n pc ls st h = some x → ∃ i, sq_ q xs L mt ck (k i) n pc ls st h = some x := by
  intro n
  induction n with
  | zero => exact fun _ _ _ _ _ h => by cases h
  | succ n ih =>
    intro pc ls st h
    have key : (fun (a : rd_) (b : Nat → rd_) => (∀ x, a = some x → ∃ i, b i = some x)) (sq_ q xs L mt ck k' (n + 1) pc ls st h) (fun i => sq_ q xs L mt ck (k i) (n + 1) pc ls st h) := by
      have e : (fun i => sq_ q xs L mt ck (k i) (n + 1) pc ls st h) = st_ xs L mt.2.2.1 (mt.1 pc) pc ls st h (fun _ => none) (fun v h _ => some (v, dn_ h)) (fun pc ls st h i => op_o (mt.2.1 pc) (sq_ q xs L mt ck (k i) n pc ls st h) fun lv => k i pc (mk_pk lv ls) st (dn_ h)) (fun m as h f i => op_o (ck m as (dn_ h)) none fun p => f p.1 (hq_ q p.2) i) := by
        funext i
        refine Eq.symm ?_
        refine pa_st (G := fun (a : Nat → rd_) (b : rd_) => a i = b) (fl := fun _ => none) (fm := none) (rt := fun v h _ => some (v, dn_ h)) (rt' := fun v h => some (v, dn_ h)) (k := fun pc ls st h i => op_o (mt.2.1 pc) (sq_ q xs L mt ck (k i) n pc ls st h) fun lv => k i pc (mk_pk lv ls) st (dn_ h)) (k' := fun pc ls st h => op_o (mt.2.1 pc) (sq_ q xs L mt ck (k i) n pc ls st h) fun lv => k i pc (mk_pk lv ls) st (dn_ h)) (iv := fun m as h f i => op_o (ck m as (dn_ h)) none fun p => f p.1 (hq_ q p.2) i) (iv' := fun m as h f => op_o (ck m as (dn_ h)) none fun p => f p.1 (hq_ q p.2)) xs L mt.2.2.1 (mt.1 pc) pc ls st h rfl (fun _ _ => rfl) (fun _ _ _ _ => rfl) (fun m as h f g hf => ?_)
        show op_o (ck m as (dn_ h)) none (fun p => f p.1 (hq_ q p.2) i) = op_o (ck m as (dn_ h)) none (fun p => g p.1 (hq_ q p.2))
        cases ck m as (dn_ h) with
        | none => rfl
        | some p => exact hf _ _
      rw [e]
      refine pa_st (G := fun (a : rd_) (b : Nat → rd_) => (∀ x, a = some x → ∃ i, b i = some x)) xs L mt.2.2.1 _ pc ls st _ ?_ ?_ ?_ ?_
      · exact fun _ h => by cases h
      · exact fun _ _ x h => ⟨0, h⟩
      · intro pc ls st h x hx
        show ∃ i, op_o (mt.2.1 pc) (sq_ q xs L mt ck (k i) n pc ls st h) (fun lv => k i pc (mk_pk lv ls) st (dn_ h)) = some x
        cases he : mt.2.1 pc with
        | none =>
          rw [he] at hx
          exact ih _ _ _ _ _ hx
        | some lv =>
          rw [he] at hx
          exact hk _ _ _ _ _ hx
      · intro m as h f g hf x hx
        show ∃ i, op_o (ck m as (dn_ h)) none (fun p => g p.1 (hq_ q p.2) i) = some x
        cases he : ck m as (dn_ h) with
        | none => rw [he] at hx; cases hx
        | some p =>
          rw [he] at hx
          exact hf _ _ _ hx
    exact key
def rq_ (q : qs_) (xs : Nat → Int32) (L : Nat) (mt : mt_) (ck : Nat → List Value → dy_ → rd_) : Nat → Nat → lo_ → List Value → dy_ → rd_
  | 0, _, _, _, _ => none
  | n + 1, pc, ls, st, D => sq_ q xs L mt ck (rq_ q xs L mt ck n) mk_B pc ls st (hq_ q D)
theorem rq_mono (q : qs_) (xs : Nat → Int32) (L : Nat) (mt : mt_) (ck : Nat → List Value → dy_ → rd_) : ∀ n pc ls st h, le_ (rq_ q xs L mt ck n pc ls st h) (rq_ q xs L mt ck (n + 1) pc ls st h) := by
  intro n
  induction n with
  | zero => exact fun _ _ _ _ => le_n _
  | succ n ih => exact fun pc ls st h => sq_mono q xs L mt ck ih _ _ _ _ _
/-- the quiet methods: no constructor, not the law -/
def pq_ (m : Nat) : mt_ := cond (Nat.ble 187 m) (fun _ => (99, 0, 0, 0, 0, 0), fun _ => none, fun _ => [], 0) (cond (Nat.beq (mk_k m) 2) (fun _ => (99, 0, 0, 0, 0, 0), fun _ => none, fun _ => [], 0) (mp_ m))
/-- THE QUIET EVALUATOR -/
noncomputable def qv_ (q : qs_) (xs : Nat → Int32) (L : Nat) : Nat → Nat → Nat → lo_ → List Value → dy_ → rd_
  | 0, _, _, _, _, _ => none
  | d + 1, m, pc, ls, st, h => lm_ (fun n => rq_ q xs L (pq_ m) (fun m as h => if mk_ca as ≤ (pq_ m).2.2.2 then qv_ q xs L d m 0 (lv_args 0 as) [] h else none) n pc ls st h)
theorem qv_eq (q : qs_) (xs : Nat → Int32) (L d m pc : Nat) (ls : lo_) (st : List Value) (h : dy_) : qv_ q xs L (d + 1) m pc ls st h = sq_ q xs L (pq_ m) (fun m as h => if mk_ca as ≤ (pq_ m).2.2.2 then qv_ q xs L d m 0 (lv_args 0 as) [] h else none) (fun pc ls st h => qv_ q xs L (d + 1) m pc ls st h) mk_B pc ls st (hq_ q h) := by
  have hmo : ∀ pc ls st h, mo_ (fun n => rq_ q xs L (pq_ m) (fun m as h => if mk_ca as ≤ (pq_ m).2.2.2 then qv_ q xs L d m 0 (lv_args 0 as) [] h else none) n pc ls st h) := fun pc ls st h n => rq_mono _ _ _ _ _ n pc ls st h
  refine le_anti (fun x hx => ?_) (fun x hx => ?_)
  · have hx' : lm_ (fun n => rq_ q xs L (pq_ m) (fun m as h => if mk_ca as ≤ (pq_ m).2.2.2 then qv_ q xs L d m 0 (lv_args 0 as) [] h else none) n pc ls st h) = some x := hx
    obtain ⟨n, hn⟩ := lm_ex hx'
    cases n with
    | zero => cases hn
    | succ n => exact sq_mono _ _ _ _ _ (fun pc ls st h y hy => lm_of (hmo pc ls st h) hy) _ _ _ _ _ _ hn
  · obtain ⟨n, hn⟩ := sq_lim q xs L (pq_ m) (fun m as h => if mk_ca as ≤ (pq_ m).2.2.2 then qv_ q xs L d m 0 (lv_args 0 as) [] h else none) (k := fun n => rq_ q xs L (pq_ m) (fun m as h => if mk_ca as ≤ (pq_ m).2.2.2 then qv_ q xs L d m 0 (lv_args 0 as) [] h else none) n) (fun pc ls st h y hy => lm_ex hy) _ _ _ _ _ _ hx
    exact lm_of (hmo pc ls st h) (n := n + 1) hn
/-! what the quiet machine says, the small machine says -/
def gq_ (q : qs_) (a : rd_) (b : re_) : Prop := ∀ v D, a = some (v, D) → b = some (v, hq_ q D)
theorem sq_ok (q : qs_) (xs : Nat → Int32) (L : Nat) (mt : mt_) (hqt : ∀ pc, qt_ (mt.1 pc) = true) {ck : Nat → List Value → dy_ → rd_} {ck' : Nat → List Value → hp_ → re_} {k : Nat → lo_ → List Value → dy_ → rd_} {k' : Nat → lo_ → List Value → hp_ → re_} (hc : ∀ m as D, gq_ q (ck m as D) (ck' m as (hq_ q D))) (hk : ∀ pc ls st D, gq_ q (k pc ls st D) (k' pc ls st (hq_ q D))) : ∀ n pc ls st D, gq_ q (sq_ q xs L mt ck k n pc ls st (hq_ q D)) (sg_ xs L mt ck' k' n pc ls st (hq_ q D)) := by
  intro n
  induction n with
  | zero => exact fun _ _ _ _ _ _ h9 => by cases h9
  | succ n ih =>
    intro pc ls st D
    refine qt_st (G := gq_ q) xs L mt.2.2.1 _ (hqt pc) pc ls st D (fun _ _ h9 => by cases h9) (fun v D v' D' h9 => by cases h9; rfl) (fun pc ls st D => pa_o (G := gq_ q) _ (ih _ _ _ _) fun _ => hk _ _ _ _) (fun m as D f g hf => ?_)
    intro v D' hx
    obtain ⟨p, hp, hx⟩ := iv_o hx
    have h1 := hc m as D p.1 p.2 hp
    show op_o (ck' m as (hq_ q D)) none (fun p => g p.1 p.2) = _
    rw [h1]
    exact hf _ _ _ _ hx
theorem rq_ok (q : qs_) (xs : Nat → Int32) (L : Nat) (mt : mt_) (hqt : ∀ pc, qt_ (mt.1 pc) = true) {ck : Nat → List Value → dy_ → rd_} {ck' : Nat → List Value → hp_ → re_} (hc : ∀ m as D, gq_ q (ck m as D) (ck' m as (hq_ q D))) : ∀ n pc ls st D, gq_ q (rq_ q xs L mt ck n pc ls st D) (rn_ xs L mt ck' n pc ls st (hq_ q D)) := by
  intro n
  induction n with
  | zero => exact fun _ _ _ _ _ _ h9 => by cases h9
  | succ n ih => exact fun pc ls st D => sq_ok q xs L mt hqt hc ih _ _ _ _ _
theorem pq_ok (m pc : Nat) : qt_ ((pq_ m).1 pc) = true := by
  unfold pq_
  cases h1 : Nat.ble 187 m with
  | true => rfl
  | false =>
    cases h2 : Nat.beq (mk_k m) 2 with
    | true => rfl
    | false =>
      have h3 : m < 187 := Nat.lt_of_not_le fun h => by rw [Nat.ble_eq_true_of_le h] at h1; cases h1
      have h4 : mk_k m ≠ 2 := fun h => by rw [h] at h2; cases h2
      exact qk_all h3 h4 pc
theorem pq_eq {m : Nat} {P : mt_ → Prop} (h : P (pq_ m)) : P (fun _ => (99, 0, 0, 0, 0, 0), fun _ => none, fun _ => [], 0) ∨ P (mp_ m) := by
  unfold pq_ at h
  cases h1 : Nat.ble 187 m with
  | true => rw [h1] at h; exact Or.inl h
  | false =>
    cases h2 : Nat.beq (mk_k m) 2 with
    | true => rw [h1, h2] at h; exact Or.inl h
    | false => rw [h1, h2] at h; exact Or.inr h
theorem rq_dead (q : qs_) (xs : Nat → Int32) (L : Nat) (ck : Nat → List Value → dy_ → rd_) : ∀ n pc ls st D, rq_ q xs L (fun _ => (99, 0, 0, 0, 0, 0), fun _ => none, fun _ => [], 0) ck n pc ls st D = none := by
  intro n pc ls st D
  cases n <;> rfl
/-- THE BRIDGE: a quiet evaluation is one of the small machine -/
theorem qv_ok (q : qs_) (xs : Nat → Int32) (L : Nat) : ∀ d m pc ls st D, gq_ q (qv_ q xs L d m pc ls st D) (ev_ xs L mp_ d m pc ls st (hq_ q D)) := by
  intro d
  induction d with
  | zero => exact fun _ _ _ _ _ _ _ h9 => by cases h9
  | succ d ih =>
    intro m pc ls st D v D' hx
    obtain ⟨n, hn⟩ := lm_ex (f := fun n => rq_ q xs L (pq_ m) (fun m as h => if mk_ca as ≤ (pq_ m).2.2.2 then qv_ q xs L d m 0 (lv_args 0 as) [] h else none) n pc ls st D) hx
    have hq := pq_ok m
    rcases pq_eq (m := m) (P := fun mt => (∀ pc, qt_ (mt.1 pc) = true) ∧ rq_ q xs L mt (fun m as h => if mk_ca as ≤ (pq_ m).2.2.2 then qv_ q xs L d m 0 (lv_args 0 as) [] h else none) n pc ls st D = some (v, D')) ⟨hq, hn⟩ with ⟨-, h1⟩ | ⟨h0, h1⟩
    · rw [rq_dead] at h1
      cases h1
    · have h2 := rq_ok q xs L (mp_ m) h0 (ck' := fun m as h => if mk_ca as ≤ (mp_ m).2.2.2 then ev_ xs L mp_ d m 0 (lv_args 0 as) [] h else none) (fun m as D v D' hx => by
        obtain ⟨hc, hx⟩ := iv_t hx
        show (if mk_ca as ≤ (mp_ m).2.2.2 then ev_ xs L mp_ d m 0 (lv_args 0 as) [] (hq_ q D) else none) = _
        have h9 : mk_ca as ≤ (mp_ m).2.2.2 := by
          cases d with
          | zero => cases hx
          | succ d =>
            obtain ⟨n', hn'⟩ := lm_ex (f := fun n => rq_ q xs L (pq_ m) (fun m as h => if mk_ca as ≤ (pq_ m).2.2.2 then qv_ q xs L d m 0 (lv_args 0 as) [] h else none) n 0 (lv_args 0 as) [] D) hx
            rcases pq_eq (m := m) (P := fun mt => mk_ca as ≤ mt.2.2.2 ∧ rq_ q xs L mt (fun m as h => if mk_ca as ≤ (pq_ m).2.2.2 then qv_ q xs L d m 0 (lv_args 0 as) [] h else none) n' 0 (lv_args 0 as) [] D = some (v, D')) ⟨hc, hn'⟩ with ⟨-, h4⟩ | ⟨h3, -⟩
            · rw [rq_dead] at h4
              cases h4
            · exact h3
        rw [if_pos h9]
        exact ih _ _ _ _ _ _ _ hx) n pc ls st D v D' h1
      exact lm_of (fun n => rn_mono _ _ _ _ n pc ls st _) h2
