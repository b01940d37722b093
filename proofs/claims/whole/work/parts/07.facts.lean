theorem at_ {w : Jvm.Cond} (k : Nat) (h : lw_tbl[k]? = some w) (hg : goodWord w = true) : w ∈ ww_ := ww_in (List.mem_of_getElem? h) hg
/-- what the tables say of a method that is called -/
def mf_ (y : MethodName) (c : ByteArray) (n : Nat) (r : Option FieldType) (k o np : Nat) : Prop := Jvm.Cond.code y c n r ∈ ww_ ∧ Jvm.Cond.initialized y.cls ∈ ww_ ∧ n ≤ 80 ∧ plainName y.cls = true ∧ (y.cls ≠ "java/lang/invoke/MethodHandle" ∧ y.cls ≠ "java/lang/invoke/VarHandle") ∧ (k = 0 → Jvm.Cond.static y ∈ ww_) ∧ (k = 1 → Jvm.Cond.instanceMethod y ∈ ww_ ∧ Jvm.Cond.selects y.cls y y ∈ ww_) ∧ (k = 2 → Jvm.Cond.instanceMethod y ∈ ww_ ∧ y.name = "<init>" ∧ r = none) ∧ y.cls = cn_ o ∧ (parseMethodDescriptor y.desc).map (fun d => d.parameters.length) = some np
set_option maxRecDepth 100000 in
theorem mf_0 : mf_ yX0_init cX0_init 1 none 2 0 0 := ⟨at_ 215 rfl rfl, at_ 91 rfl rfl, by decide, by decide +kernel, by decide +kernel, fun h => absurd h (by decide), fun h => absurd h (by decide), fun _ => ⟨at_ 214 rfl rfl, rfl, rfl⟩, rfl, by decide +kernel⟩
set_option maxRecDepth 100000 in
theorem mf_1 : mf_ yX0_reduce cX0_reduce 5 (some .int) 1 0 2 := ⟨at_ 528 rfl rfl, at_ 91 rfl rfl, by decide, by decide +kernel, by decide +kernel, fun h => absurd h (by decide), fun _ => ⟨at_ 526 rfl rfl, at_ 527 rfl rfl⟩, fun h => absurd h (by decide), rfl, by decide +kernel⟩
set_option maxRecDepth 100000 in
theorem mf_2 : mf_ yX0_begin cX0_begin 3 none 1 0 1 := ⟨at_ 532 rfl rfl, at_ 91 rfl rfl, by decide, by decide +kernel, by decide +kernel, fun h => absurd h (by decide), fun _ => ⟨at_ 531 rfl rfl, at_ 10 rfl rfl⟩, fun h => absurd h (by decide), rfl, by decide +kernel⟩
set_option maxRecDepth 100000 in
theorem mf_3 : mf_ yX0_divideBy cX0_divideBy 6 none 1 0 2 := ⟨at_ 538 rfl rfl, at_ 91 rfl rfl, by decide, by decide +kernel, by decide +kernel, fun h => absurd h (by decide), fun _ => ⟨at_ 537 rfl rfl, at_ 11 rfl rfl⟩, fun h => absurd h (by decide), rfl, by decide +kernel⟩
set_option maxRecDepth 100000 in
theorem mf_4 : mf_ yX0_put cX0_put 6 none 1 0 2 := ⟨at_ 542 rfl rfl, at_ 91 rfl rfl, by decide, by decide +kernel, by decide +kernel, fun h => absurd h (by decide), fun _ => ⟨at_ 541 rfl rfl, at_ 12 rfl rfl⟩, fun h => absurd h (by decide), rfl, by decide +kernel⟩
set_option maxRecDepth 100000 in
theorem mf_5 : mf_ yX1_init cX1_init 2 none 2 1 1 := ⟨at_ 112 rfl rfl, at_ 86 rfl rfl, by decide, by decide +kernel, by decide +kernel, fun h => absurd h (by decide), fun h => absurd h (by decide), fun _ => ⟨at_ 111 rfl rfl, rfl, rfl⟩, rfl, by decide +kernel⟩
set_option maxRecDepth 100000 in
theorem mf_6 : mf_ yX1_reset cX1_reset 4 none 1 1 2 := ⟨at_ 243 rfl rfl, at_ 86 rfl rfl, by decide, by decide +kernel, by decide +kernel, fun h => absurd h (by decide), fun _ => ⟨at_ 241 rfl rfl, at_ 242 rfl rfl⟩, fun h => absurd h (by decide), rfl, by decide +kernel⟩
set_option maxRecDepth 100000 in
theorem mf_7 : mf_ yX1_hasState cX1_hasState 2 (some .boolean) 1 1 1 := ⟨at_ 400 rfl rfl, at_ 86 rfl rfl, by decide, by decide +kernel, by decide +kernel, fun h => absurd h (by decide), fun _ => ⟨at_ 398 rfl rfl, at_ 399 rfl rfl⟩, fun h => absurd h (by decide), rfl, by decide +kernel⟩
set_option maxRecDepth 100000 in
theorem mf_8 : mf_ yX1_hasLetter cX1_hasLetter 2 (some .boolean) 1 1 1 := ⟨at_ 404 rfl rfl, at_ 86 rfl rfl, by decide, by decide +kernel, by decide +kernel, fun h => absurd h (by decide), fun _ => ⟨at_ 402 rfl rfl, at_ 403 rfl rfl⟩, fun h => absurd h (by decide), rfl, by decide +kernel⟩
set_option maxRecDepth 100000 in
theorem mf_9 : mf_ yX1_next cX1_next 3 (some .int) 1 1 2 := ⟨at_ 408 rfl rfl, at_ 86 rfl rfl, by decide, by decide +kernel, by decide +kernel, fun h => absurd h (by decide), fun _ => ⟨at_ 406 rfl rfl, at_ 407 rfl rfl⟩, fun h => absurd h (by decide), rfl, by decide +kernel⟩
set_option maxRecDepth 100000 in
theorem mf_10 : mf_ yX1_lead cX1_lead 4 none 1 1 3 := ⟨at_ 251 rfl rfl, at_ 86 rfl rfl, by decide, by decide +kernel, by decide +kernel, fun h => absurd h (by decide), fun _ => ⟨at_ 249 rfl rfl, at_ 250 rfl rfl⟩, fun h => absurd h (by decide), rfl, by decide +kernel⟩
set_option maxRecDepth 100000 in
theorem mf_11 : mf_ yX1_leadAll cX1_leadAll 4 none 1 1 2 := ⟨at_ 247 rfl rfl, at_ 86 rfl rfl, by decide, by decide +kernel, by decide +kernel, fun h => absurd h (by decide), fun _ => ⟨at_ 245 rfl rfl, at_ 246 rfl rfl⟩, fun h => absurd h (by decide), rfl, by decide +kernel⟩
set_option maxRecDepth 100000 in
theorem mf_12 : mf_ yX1_countEnds cX1_countEnds 3 (some .int) 1 1 0 := ⟨at_ 428 rfl rfl, at_ 86 rfl rfl, by decide, by decide +kernel, by decide +kernel, fun h => absurd h (by decide), fun _ => ⟨at_ 426 rfl rfl, at_ 427 rfl rfl⟩, fun h => absurd h (by decide), rfl, by decide +kernel⟩
set_option maxRecDepth 100000 in
theorem mf_13 : mf_ yX1_endSet cX1_endSet 4 (some .long) 1 1 0 := ⟨at_ 500 rfl rfl, at_ 86 rfl rfl, by decide, by decide +kernel, by decide +kernel, fun h => absurd h (by decide), fun _ => ⟨at_ 498 rfl rfl, at_ 499 rfl rfl⟩, fun h => absurd h (by decide), rfl, by decide +kernel⟩
set_option maxRecDepth 100000 in
theorem mf_14 : mf_ yX1_copyOf cX1_copyOf 3 none 1 1 1 := ⟨at_ 464 rfl rfl, at_ 86 rfl rfl, by decide, by decide +kernel, by decide +kernel, fun h => absurd h (by decide), fun _ => ⟨at_ 462 rfl rfl, at_ 463 rfl rfl⟩, fun h => absurd h (by decide), rfl, by decide +kernel⟩
set_option maxRecDepth 100000 in
theorem mf_15 : mf_ yX2_init cX2_init 1 none 2 2 0 := ⟨at_ 331 rfl rfl, at_ 94 rfl rfl, by decide, by decide +kernel, by decide +kernel, fun h => absurd h (by decide), fun h => absurd h (by decide), fun _ => ⟨at_ 330 rfl rfl, rfl, rfl⟩, rfl, by decide +kernel⟩
set_option maxRecDepth 100000 in
theorem mf_16 : mf_ yX2_findAll cX2_findAll 4 (some .int) 1 2 0 := ⟨at_ 753 rfl rfl, at_ 94 rfl rfl, by decide, by decide +kernel, by decide +kernel, fun h => absurd h (by decide), fun _ => ⟨at_ 751 rfl rfl, at_ 752 rfl rfl⟩, fun h => absurd h (by decide), rfl, by decide +kernel⟩
set_option maxRecDepth 100000 in
theorem mf_17 : mf_ yX2_image cX2_image 3 (some .int) 1 2 2 := ⟨at_ 771 rfl rfl, at_ 94 rfl rfl, by decide, by decide +kernel, by decide +kernel, fun h => absurd h (by decide), fun _ => ⟨at_ 769 rfl rfl, at_ 770 rfl rfl⟩, fun h => absurd h (by decide), rfl, by decide +kernel⟩
set_option maxRecDepth 100000 in
theorem mf_18 : mf_ yX2_keepTrial cX2_keepTrial 4 (some .boolean) 1 2 0 := ⟨at_ 758 rfl rfl, at_ 94 rfl rfl, by decide, by decide +kernel, by decide +kernel, fun h => absurd h (by decide), fun _ => ⟨at_ 757 rfl rfl, at_ 35 rfl rfl⟩, fun h => absurd h (by decide), rfl, by decide +kernel⟩
set_option maxRecDepth 100000 in
theorem mf_19 : mf_ yX2_bucketOfTrial cX2_bucketOfTrial 3 (some .int) 1 2 0 := ⟨at_ 762 rfl rfl, at_ 94 rfl rfl, by decide, by decide +kernel, by decide +kernel, fun h => absurd h (by decide), fun _ => ⟨at_ 761 rfl rfl, at_ 36 rfl rfl⟩, fun h => absurd h (by decide), rfl, by decide +kernel⟩
set_option maxRecDepth 100000 in
theorem mf_20 : mf_ yX2_isTrial cX2_isTrial 3 (some .boolean) 1 2 1 := ⟨at_ 767 rfl rfl, at_ 94 rfl rfl, by decide, by decide +kernel, by decide +kernel, fun h => absurd h (by decide), fun _ => ⟨at_ 766 rfl rfl, at_ 37 rfl rfl⟩, fun h => absurd h (by decide), rfl, by decide +kernel⟩
set_option maxRecDepth 100000 in
theorem mf_21 : mf_ yX2_countIdempotent cX2_countIdempotent 5 (some .int) 1 2 0 := ⟨at_ 786 rfl rfl, at_ 94 rfl rfl, by decide, by decide +kernel, by decide +kernel, fun h => absurd h (by decide), fun _ => ⟨at_ 784 rfl rfl, at_ 785 rfl rfl⟩, fun h => absurd h (by decide), rfl, by decide +kernel⟩
set_option maxRecDepth 100000 in
theorem mf_22 : mf_ yX2_countWithImages cX2_countWithImages 7 (some .int) 1 2 1 := ⟨at_ 806 rfl rfl, at_ 94 rfl rfl, by decide, by decide +kernel, by decide +kernel, fun h => absurd h (by decide), fun _ => ⟨at_ 804 rfl rfl, at_ 805 rfl rfl⟩, fun h => absurd h (by decide), rfl, by decide +kernel⟩
set_option maxRecDepth 100000 in
theorem mf_23 : mf_ yX2_allCommute cX2_allCommute 4 (some .boolean) 1 2 0 := ⟨at_ 802 rfl rfl, at_ 94 rfl rfl, by decide, by decide +kernel, by decide +kernel, fun h => absurd h (by decide), fun _ => ⟨at_ 800 rfl rfl, at_ 801 rfl rfl⟩, fun h => absurd h (by decide), rfl, by decide +kernel⟩
set_option maxRecDepth 100000 in
theorem mf_24 : mf_ yX2_allSettle cX2_allSettle 2 (some .boolean) 1 2 0 := ⟨at_ 790 rfl rfl, at_ 94 rfl rfl, by decide, by decide +kernel, by decide +kernel, fun h => absurd h (by decide), fun _ => ⟨at_ 788 rfl rfl, at_ 789 rfl rfl⟩, fun h => absurd h (by decide), rfl, by decide +kernel⟩
set_option maxRecDepth 100000 in
theorem mf_25 : mf_ yX2_settles cX2_settles 3 (some .boolean) 1 2 1 := ⟨at_ 794 rfl rfl, at_ 94 rfl rfl, by decide, by decide +kernel, by decide +kernel, fun h => absurd h (by decide), fun _ => ⟨at_ 793 rfl rfl, at_ 38 rfl rfl⟩, fun h => absurd h (by decide), rfl, by decide +kernel⟩
set_option maxRecDepth 100000 in
theorem mf_26 : mf_ yX2_squareTrial cX2_squareTrial 2 none 1 2 0 := ⟨at_ 798 rfl rfl, at_ 94 rfl rfl, by decide, by decide +kernel, by decide +kernel, fun h => absurd h (by decide), fun _ => ⟨at_ 797 rfl rfl, at_ 39 rfl rfl⟩, fun h => absurd h (by decide), rfl, by decide +kernel⟩
set_option maxRecDepth 100000 in
theorem mf_27 : mf_ yX3_init cX3_init 4 none 2 3 2 := ⟨at_ 288 rfl rfl, at_ 92 rfl rfl, by decide, by decide +kernel, by decide +kernel, fun h => absurd h (by decide), fun h => absurd h (by decide), fun _ => ⟨at_ 287 rfl rfl, rfl, rfl⟩, rfl, by decide +kernel⟩
set_option maxRecDepth 100000 in
theorem mf_28 : mf_ yX3_result cX3_result 1 (some (.object "StateShop$Machine")) 1 3 0 := ⟨at_ 656 rfl rfl, at_ 92 rfl rfl, by decide, by decide +kernel, by decide +kernel, fun h => absurd h (by decide), fun _ => ⟨at_ 654 rfl rfl, at_ 655 rfl rfl⟩, fun h => absurd h (by decide), rfl, by decide +kernel⟩
set_option maxRecDepth 100000 in
theorem mf_29 : mf_ yX3_evaluate cX3_evaluate 2 (some .int) 1 3 1 := ⟨at_ 579 rfl rfl, at_ 92 rfl rfl, by decide, by decide +kernel, by decide +kernel, fun h => absurd h (by decide), fun _ => ⟨at_ 577 rfl rfl, at_ 578 rfl rfl⟩, fun h => absurd h (by decide), rfl, by decide +kernel⟩
set_option maxRecDepth 100000 in
theorem mf_30 : mf_ yX3_readAny cX3_readAny 3 none 1 3 1 := ⟨at_ 583 rfl rfl, at_ 92 rfl rfl, by decide, by decide +kernel, by decide +kernel, fun h => absurd h (by decide), fun _ => ⟨at_ 582 rfl rfl, at_ 14 rfl rfl⟩, fun h => absurd h (by decide), rfl, by decide +kernel⟩
set_option maxRecDepth 100000 in
theorem mf_31 : mf_ yX3_readAll cX3_readAll 3 none 1 3 1 := ⟨at_ 587 rfl rfl, at_ 92 rfl rfl, by decide, by decide +kernel, by decide +kernel, fun h => absurd h (by decide), fun _ => ⟨at_ 586 rfl rfl, at_ 15 rfl rfl⟩, fun h => absurd h (by decide), rfl, by decide +kernel⟩
set_option maxRecDepth 100000 in
theorem mf_32 : mf_ yX3_readBoth cX3_readBoth 3 none 1 3 1 := ⟨at_ 591 rfl rfl, at_ 92 rfl rfl, by decide, by decide +kernel, by decide +kernel, fun h => absurd h (by decide), fun _ => ⟨at_ 590 rfl rfl, at_ 16 rfl rfl⟩, fun h => absurd h (by decide), rfl, by decide +kernel⟩
set_option maxRecDepth 100000 in
theorem mf_33 : mf_ yX3_readPost cX3_readPost 3 none 1 3 1 := ⟨at_ 621 rfl rfl, at_ 92 rfl rfl, by decide, by decide +kernel, by decide +kernel, fun h => absurd h (by decide), fun _ => ⟨at_ 620 rfl rfl, at_ 22 rfl rfl⟩, fun h => absurd h (by decide), rfl, by decide +kernel⟩
set_option maxRecDepth 100000 in
theorem mf_34 : mf_ yX3_readAtom cX3_readAtom 3 none 1 3 1 := ⟨at_ 625 rfl rfl, at_ 92 rfl rfl, by decide, by decide +kernel, by decide +kernel, fun h => absurd h (by decide), fun _ => ⟨at_ 624 rfl rfl, at_ 23 rfl rfl⟩, fun h => absurd h (by decide), rfl, by decide +kernel⟩
set_option maxRecDepth 100000 in
theorem mf_35 : mf_ yX3_sees cX3_sees 2 (some .boolean) 1 3 1 := ⟨at_ 599 rfl rfl, at_ 92 rfl rfl, by decide, by decide +kernel, by decide +kernel, fun h => absurd h (by decide), fun _ => ⟨at_ 598 rfl rfl, at_ 18 rfl rfl⟩, fun h => absurd h (by decide), rfl, by decide +kernel⟩
set_option maxRecDepth 100000 in
theorem mf_36 : mf_ yX3_seesAtom cX3_seesAtom 1 (some .boolean) 1 3 0 := ⟨at_ 595 rfl rfl, at_ 92 rfl rfl, by decide, by decide +kernel, by decide +kernel, fun h => absurd h (by decide), fun _ => ⟨at_ 594 rfl rfl, at_ 17 rfl rfl⟩, fun h => absurd h (by decide), rfl, by decide +kernel⟩
set_option maxRecDepth 100000 in
theorem mf_37 : mf_ yX3_seesLetter cX3_seesLetter 2 (some .boolean) 1 3 0 := ⟨at_ 603 rfl rfl, at_ 92 rfl rfl, by decide, by decide +kernel, by decide +kernel, fun h => absurd h (by decide), fun _ => ⟨at_ 602 rfl rfl, at_ 19 rfl rfl⟩, fun h => absurd h (by decide), rfl, by decide +kernel⟩
set_option maxRecDepth 100000 in
theorem mf_38 : mf_ yX3_giveUp cX3_giveUp 1 none 1 3 0 := ⟨at_ 629 rfl rfl, at_ 92 rfl rfl, by decide, by decide +kernel, by decide +kernel, fun h => absurd h (by decide), fun _ => ⟨at_ 628 rfl rfl, at_ 24 rfl rfl⟩, fun h => absurd h (by decide), rfl, by decide +kernel⟩
set_option maxRecDepth 100000 in
theorem mf_39 : mf_ yX3_push cX3_push 1 (some (.object "StateShop$Machine")) 1 3 0 := ⟨at_ 615 rfl rfl, at_ 92 rfl rfl, by decide, by decide +kernel, by decide +kernel, fun h => absurd h (by decide), fun _ => ⟨at_ 614 rfl rfl, at_ 21 rfl rfl⟩, fun h => absurd h (by decide), rfl, by decide +kernel⟩
set_option maxRecDepth 100000 in
theorem mf_40 : mf_ yX3_pushCopy cX3_pushCopy 2 none 1 3 0 := ⟨at_ 647 rfl rfl, at_ 92 rfl rfl, by decide, by decide +kernel, by decide +kernel, fun h => absurd h (by decide), fun _ => ⟨at_ 646 rfl rfl, at_ 28 rfl rfl⟩, fun h => absurd h (by decide), rfl, by decide +kernel⟩
set_option maxRecDepth 100000 in
theorem mf_41 : mf_ yX3_pushEmptyWord cX3_pushEmptyWord 2 none 1 3 0 := ⟨at_ 611 rfl rfl, at_ 92 rfl rfl, by decide, by decide +kernel, by decide +kernel, fun h => absurd h (by decide), fun _ => ⟨at_ 610 rfl rfl, at_ 20 rfl rfl⟩, fun h => absurd h (by decide), rfl, by decide +kernel⟩
set_option maxRecDepth 100000 in
theorem mf_42 : mf_ yX3_pushLetters cX3_pushLetters 4 none 1 3 0 := ⟨at_ 642 rfl rfl, at_ 92 rfl rfl, by decide, by decide +kernel, by decide +kernel, fun h => absurd h (by decide), fun _ => ⟨at_ 641 rfl rfl, at_ 27 rfl rfl⟩, fun h => absurd h (by decide), rfl, by decide +kernel⟩
set_option maxRecDepth 100000 in
theorem mf_43 : mf_ yX3_change cX3_change 3 none 1 3 1 := ⟨at_ 633 rfl rfl, at_ 92 rfl rfl, by decide, by decide +kernel, by decide +kernel, fun h => absurd h (by decide), fun _ => ⟨at_ 632 rfl rfl, at_ 25 rfl rfl⟩, fun h => absurd h (by decide), rfl, by decide +kernel⟩
set_option maxRecDepth 100000 in
theorem mf_44 : mf_ yX3_fold cX3_fold 2 none 1 3 1 := ⟨at_ 652 rfl rfl, at_ 92 rfl rfl, by decide, by decide +kernel, by decide +kernel, fun h => absurd h (by decide), fun _ => ⟨at_ 651 rfl rfl, at_ 29 rfl rfl⟩, fun h => absurd h (by decide), rfl, by decide +kernel⟩
set_option maxRecDepth 100000 in
theorem mf_45 : mf_ yX3_isSound cX3_isSound 1 (some .boolean) 1 3 0 := ⟨at_ 637 rfl rfl, at_ 92 rfl rfl, by decide, by decide +kernel, by decide +kernel, fun h => absurd h (by decide), fun _ => ⟨at_ 636 rfl rfl, at_ 26 rfl rfl⟩, fun h => absurd h (by decide), rfl, by decide +kernel⟩
set_option maxRecDepth 100000 in
theorem mf_46 : mf_ yX4_init cX4_init 1 none 2 4 0 := ⟨at_ 189 rfl rfl, at_ 90 rfl rfl, by decide, by decide +kernel, by decide +kernel, fun h => absurd h (by decide), fun h => absurd h (by decide), fun _ => ⟨at_ 188 rfl rfl, rfl, rfl⟩, rfl, by decide +kernel⟩
set_option maxRecDepth 100000 in
theorem mf_47 : mf_ yX4_clear cX4_clear 1 none 1 4 0 := ⟨at_ 489 rfl rfl, at_ 90 rfl rfl, by decide, by decide +kernel, by decide +kernel, fun h => absurd h (by decide), fun _ => ⟨at_ 487 rfl rfl, at_ 488 rfl rfl⟩, fun h => absurd h (by decide), rfl, by decide +kernel⟩
set_option maxRecDepth 100000 in
theorem mf_48 : mf_ yX4_numberOf cX4_numberOf 7 (some .int) 1 4 2 := ⟨at_ 504 rfl rfl, at_ 90 rfl rfl, by decide, by decide +kernel, by decide +kernel, fun h => absurd h (by decide), fun _ => ⟨at_ 502 rfl rfl, at_ 503 rfl rfl⟩, fun h => absurd h (by decide), rfl, by decide +kernel⟩
set_option maxRecDepth 100000 in
theorem mf_49 : mf_ yX5_init cX5_init 1 none 2 5 0 := ⟨at_ 162 rfl rfl, at_ 88 rfl rfl, by decide, by decide +kernel, by decide +kernel, fun h => absurd h (by decide), fun h => absurd h (by decide), fun _ => ⟨at_ 161 rfl rfl, rfl, rfl⟩, rfl, by decide +kernel⟩
set_option maxRecDepth 100000 in
theorem mf_50 : mf_ yX5_addNumber cX5_addNumber 3 none 1 5 1 := ⟨at_ 567 rfl rfl, at_ 88 rfl rfl, by decide, by decide +kernel, by decide +kernel, fun h => absurd h (by decide), fun _ => ⟨at_ 565 rfl rfl, at_ 566 rfl rfl⟩, fun h => absurd h (by decide), rfl, by decide +kernel⟩
set_option maxRecDepth 100000 in
theorem mf_51 : mf_ yX5_setLetter cX5_setLetter 3 none 1 5 2 := ⟨at_ 687 rfl rfl, at_ 88 rfl rfl, by decide, by decide +kernel, by decide +kernel, fun h => absurd h (by decide), fun _ => ⟨at_ 685 rfl rfl, at_ 686 rfl rfl⟩, fun h => absurd h (by decide), rfl, by decide +kernel⟩
set_option maxRecDepth 100000 in
theorem mf_52 : mf_ yX5_letter cX5_letter 2 (some .int) 1 5 1 := ⟨at_ 607 rfl rfl, at_ 88 rfl rfl, by decide, by decide +kernel, by decide +kernel, fun h => absurd h (by decide), fun _ => ⟨at_ 605 rfl rfl, at_ 606 rfl rfl⟩, fun h => absurd h (by decide), rfl, by decide +kernel⟩
set_option maxRecDepth 100000 in
theorem mf_53 : mf_ yX5_isWordOf cX5_isWordOf 3 (some .boolean) 1 5 1 := ⟨at_ 664 rfl rfl, at_ 88 rfl rfl, by decide, by decide +kernel, by decide +kernel, fun h => absurd h (by decide), fun _ => ⟨at_ 662 rfl rfl, at_ 663 rfl rfl⟩, fun h => absurd h (by decide), rfl, by decide +kernel⟩
set_option maxRecDepth 100000 in
theorem mf_54 : mf_ yX5_walk cX5_walk 4 (some .int) 1 5 1 := ⟨at_ 670 rfl rfl, at_ 88 rfl rfl, by decide, by decide +kernel, by decide +kernel, fun h => absurd h (by decide), fun _ => ⟨at_ 668 rfl rfl, at_ 669 rfl rfl⟩, fun h => absurd h (by decide), rfl, by decide +kernel⟩
set_option maxRecDepth 100000 in
theorem mf_55 : mf_ yX6_init cX6_init 1 none 2 6 0 := ⟨at_ 321 rfl rfl, at_ 93 rfl rfl, by decide, by decide +kernel, by decide +kernel, fun h => absurd h (by decide), fun h => absurd h (by decide), fun _ => ⟨at_ 320 rfl rfl, rfl, rfl⟩, rfl, by decide +kernel⟩
set_option maxRecDepth 100000 in
theorem mf_56 : mf_ yX6_ofLength cX6_ofLength 4 (some .long) 1 6 2 := ⟨at_ 700 rfl rfl, at_ 93 rfl rfl, by decide, by decide +kernel, by decide +kernel, fun h => absurd h (by decide), fun _ => ⟨at_ 698 rfl rfl, at_ 699 rfl rfl⟩, fun h => absurd h (by decide), rfl, by decide +kernel⟩
set_option maxRecDepth 100000 in
theorem mf_57 : mf_ yX6_spell cX6_spell 10 (some .int) 1 6 3 := ⟨at_ 722 rfl rfl, at_ 93 rfl rfl, by decide, by decide +kernel, by decide +kernel, fun h => absurd h (by decide), fun _ => ⟨at_ 720 rfl rfl, at_ 721 rfl rfl⟩, fun h => absurd h (by decide), rfl, by decide +kernel⟩
set_option maxRecDepth 100000 in
theorem mf_58 : mf_ yX6_rank cX6_rank 9 (some .long) 1 6 2 := ⟨at_ 735 rfl rfl, at_ 93 rfl rfl, by decide, by decide +kernel, by decide +kernel, fun h => absurd h (by decide), fun _ => ⟨at_ 733 rfl rfl, at_ 734 rfl rfl⟩, fun h => absurd h (by decide), rfl, by decide +kernel⟩
set_option maxRecDepth 100000 in
theorem mf_59 : mf_ yX6_spellOfLength cX6_spellOfLength 13 none 1 6 4 := ⟨at_ 726 rfl rfl, at_ 93 rfl rfl, by decide, by decide +kernel, by decide +kernel, fun h => absurd h (by decide), fun _ => ⟨at_ 725 rfl rfl, at_ 34 rfl rfl⟩, fun h => absurd h (by decide), rfl, by decide +kernel⟩
set_option maxRecDepth 100000 in
theorem mf_60 : mf_ yX6_from cX6_from 3 (some .long) 1 6 2 := ⟨at_ 714 rfl rfl, at_ 93 rfl rfl, by decide, by decide +kernel, by decide +kernel, fun h => absurd h (by decide), fun _ => ⟨at_ 713 rfl rfl, at_ 33 rfl rfl⟩, fun h => absurd h (by decide), rfl, by decide +kernel⟩
set_option maxRecDepth 100000 in
theorem mf_61 : mf_ yX6_countRow cX6_countRow 4 none 1 6 2 := ⟨at_ 704 rfl rfl, at_ 93 rfl rfl, by decide, by decide +kernel, by decide +kernel, fun h => absurd h (by decide), fun _ => ⟨at_ 703 rfl rfl, at_ 31 rfl rfl⟩, fun h => absurd h (by decide), rfl, by decide +kernel⟩
set_option maxRecDepth 100000 in
theorem mf_62 : mf_ yX6_sumAhead cX6_sumAhead 7 (some .long) 1 6 3 := ⟨at_ 709 rfl rfl, at_ 93 rfl rfl, by decide, by decide +kernel, by decide +kernel, fun h => absurd h (by decide), fun _ => ⟨at_ 708 rfl rfl, at_ 32 rfl rfl⟩, fun h => absurd h (by decide), rfl, by decide +kernel⟩
set_option maxRecDepth 100000 in
theorem mf_63 : mf_ yX7_init cX7_init 1 none 2 7 0 := ⟨at_ 181 rfl rfl, at_ 89 rfl rfl, by decide, by decide +kernel, by decide +kernel, fun h => absurd h (by decide), fun h => absurd h (by decide), fun _ => ⟨at_ 180 rfl rfl, rfl, rfl⟩, rfl, by decide +kernel⟩
set_option maxRecDepth 100000 in
theorem mf_64 : mf_ yX7_arrange cX7_arrange 2 none 1 7 1 := ⟨at_ 440 rfl rfl, at_ 89 rfl rfl, by decide, by decide +kernel, by decide +kernel, fun h => absurd h (by decide), fun _ => ⟨at_ 438 rfl rfl, at_ 439 rfl rfl⟩, fun h => absurd h (by decide), rfl, by decide +kernel⟩
set_option maxRecDepth 100000 in
theorem mf_65 : mf_ yX7_makeSmallest cX7_makeSmallest 3 none 1 7 2 := ⟨at_ 524 rfl rfl, at_ 89 rfl rfl, by decide, by decide +kernel, by decide +kernel, fun h => absurd h (by decide), fun _ => ⟨at_ 522 rfl rfl, at_ 523 rfl rfl⟩, fun h => absurd h (by decide), rfl, by decide +kernel⟩
set_option maxRecDepth 100000 in
theorem mf_66 : mf_ yX7_shrink cX7_shrink 4 (some .int) 1 7 2 := ⟨at_ 475 rfl rfl, at_ 89 rfl rfl, by decide, by decide +kernel, by decide +kernel, fun h => absurd h (by decide), fun _ => ⟨at_ 473 rfl rfl, at_ 474 rfl rfl⟩, fun h => absurd h (by decide), rfl, by decide +kernel⟩
set_option maxRecDepth 100000 in
theorem mf_67 : mf_ yX7_countSplitters cX7_countSplitters 1 (some .int) 0 7 1 := ⟨at_ 547 rfl rfl, at_ 89 rfl rfl, by decide, by decide +kernel, by decide +kernel, fun _ => at_ 546 rfl rfl, fun h => absurd h (by decide), fun h => absurd h (by decide), rfl, by decide +kernel⟩
set_option maxRecDepth 100000 in
theorem mf_68 : mf_ yX7_countTurned cX7_countTurned 2 (some .int) 1 7 1 := ⟨at_ 479 rfl rfl, at_ 89 rfl rfl, by decide, by decide +kernel, by decide +kernel, fun h => absurd h (by decide), fun _ => ⟨at_ 478 rfl rfl, at_ 4 rfl rfl⟩, fun h => absurd h (by decide), rfl, by decide +kernel⟩
set_option maxRecDepth 100000 in
theorem mf_69 : mf_ yX7_combine cX7_combine 5 (some .int) 1 7 4 := ⟨at_ 555 rfl rfl, at_ 89 rfl rfl, by decide, by decide +kernel, by decide +kernel, fun h => absurd h (by decide), fun _ => ⟨at_ 553 rfl rfl, at_ 554 rfl rfl⟩, fun h => absurd h (by decide), rfl, by decide +kernel⟩
set_option maxRecDepth 100000 in
theorem mf_70 : mf_ yX7_tellApart cX7_tellApart 7 (some .boolean) 1 7 5 := ⟨at_ 679 rfl rfl, at_ 89 rfl rfl, by decide, by decide +kernel, by decide +kernel, fun h => absurd h (by decide), fun _ => ⟨at_ 677 rfl rfl, at_ 678 rfl rfl⟩, fun h => absurd h (by decide), rfl, by decide +kernel⟩
set_option maxRecDepth 100000 in
theorem mf_71 : mf_ yX7_spellWayTo cX7_spellWayTo 6 none 1 7 2 := ⟨at_ 683 rfl rfl, at_ 89 rfl rfl, by decide, by decide +kernel, by decide +kernel, fun h => absurd h (by decide), fun _ => ⟨at_ 682 rfl rfl, at_ 30 rfl rfl⟩, fun h => absurd h (by decide), rfl, by decide +kernel⟩
set_option maxRecDepth 100000 in
theorem mf_72 : mf_ yX7_pair cX7_pair 11 none 1 7 5 := ⟨at_ 444 rfl rfl, at_ 89 rfl rfl, by decide, by decide +kernel, by decide +kernel, fun h => absurd h (by decide), fun _ => ⟨at_ 443 rfl rfl, at_ 1 rfl rfl⟩, fun h => absurd h (by decide), rfl, by decide +kernel⟩
set_option maxRecDepth 100000 in
theorem mf_73 : mf_ yX7_forgetPairs cX7_forgetPairs 5 none 1 7 2 := ⟨at_ 448 rfl rfl, at_ 89 rfl rfl, by decide, by decide +kernel, by decide +kernel, fun h => absurd h (by decide), fun _ => ⟨at_ 447 rfl rfl, at_ 2 rfl rfl⟩, fun h => absurd h (by decide), rfl, by decide +kernel⟩
set_option maxRecDepth 100000 in
theorem mf_74 : mf_ yX7_meet cX7_meet 3 (some .int) 1 7 2 := ⟨at_ 455 rfl rfl, at_ 89 rfl rfl, by decide, by decide +kernel, by decide +kernel, fun h => absurd h (by decide), fun _ => ⟨at_ 454 rfl rfl, at_ 3 rfl rfl⟩, fun h => absurd h (by decide), rfl, by decide +kernel⟩
set_option maxRecDepth 100000 in
theorem mf_75 : mf_ yX7_accepts cX7_accepts 3 (some .boolean) 0 7 3 := ⟨at_ 458 rfl rfl, at_ 89 rfl rfl, by decide, by decide +kernel, by decide +kernel, fun _ => at_ 457 rfl rfl, fun h => absurd h (by decide), fun h => absurd h (by decide), rfl, by decide +kernel⟩
set_option maxRecDepth 100000 in
theorem mf_76 : mf_ yX7_gather cX7_gather 10 (some .boolean) 1 7 3 := ⟨at_ 485 rfl rfl, at_ 89 rfl rfl, by decide, by decide +kernel, by decide +kernel, fun h => absurd h (by decide), fun _ => ⟨at_ 484 rfl rfl, at_ 5 rfl rfl⟩, fun h => absurd h (by decide), rfl, by decide +kernel⟩
set_option maxRecDepth 100000 in
theorem mf_77 : mf_ yX7_meetFirst cX7_meetFirst 4 none 1 7 3 := ⟨at_ 496 rfl rfl, at_ 89 rfl rfl, by decide, by decide +kernel, by decide +kernel, fun h => absurd h (by decide), fun _ => ⟨at_ 495 rfl rfl, at_ 6 rfl rfl⟩, fun h => absurd h (by decide), rfl, by decide +kernel⟩
set_option maxRecDepth 100000 in
theorem mf_78 : mf_ yX7_lookAhead cX7_lookAhead 8 none 1 7 4 := ⟨at_ 512 rfl rfl, at_ 89 rfl rfl, by decide, by decide +kernel, by decide +kernel, fun h => absurd h (by decide), fun _ => ⟨at_ 511 rfl rfl, at_ 7 rfl rfl⟩, fun h => absurd h (by decide), rfl, by decide +kernel⟩
set_option maxRecDepth 100000 in
theorem mf_79 : mf_ yX7_lookOn cX7_lookOn 6 none 1 7 2 := ⟨at_ 520 rfl rfl, at_ 89 rfl rfl, by decide, by decide +kernel, by decide +kernel, fun h => absurd h (by decide), fun _ => ⟨at_ 519 rfl rfl, at_ 9 rfl rfl⟩, fun h => absurd h (by decide), rfl, by decide +kernel⟩
set_option maxRecDepth 100000 in
theorem mf_80 : mf_ yX7_lookBack cX7_lookBack 6 none 1 7 2 := ⟨at_ 516 rfl rfl, at_ 89 rfl rfl, by decide, by decide +kernel, by decide +kernel, fun h => absurd h (by decide), fun _ => ⟨at_ 515 rfl rfl, at_ 8 rfl rfl⟩, fun h => absurd h (by decide), rfl, by decide +kernel⟩
set_option maxRecDepth 100000 in
theorem mf_81 : mf_ yX8_init cX8_init 2 none 2 8 0 := ⟨at_ 103 rfl rfl, at_ 85 rfl rfl, by decide, by decide +kernel, by decide +kernel, fun h => absurd h (by decide), fun h => absurd h (by decide), fun _ => ⟨at_ 102 rfl rfl, rfl, rfl⟩, rfl, by decide +kernel⟩
set_option maxRecDepth 100000 in
theorem mf_82 : mf_ yX8_make cX8_make 4 (some .int) 1 8 3 := ⟨at_ 381 rfl rfl, at_ 85 rfl rfl, by decide, by decide +kernel, by decide +kernel, fun h => absurd h (by decide), fun _ => ⟨at_ 379 rfl rfl, at_ 380 rfl rfl⟩, fun h => absurd h (by decide), rfl, by decide +kernel⟩
set_option maxRecDepth 100000 in
theorem mf_83 : mf_ yX8_edge cX8_edge 6 (some .int) 1 8 4 := ⟨at_ 392 rfl rfl, at_ 85 rfl rfl, by decide, by decide +kernel, by decide +kernel, fun h => absurd h (by decide), fun _ => ⟨at_ 390 rfl rfl, at_ 391 rfl rfl⟩, fun h => absurd h (by decide), rfl, by decide +kernel⟩
set_option maxRecDepth 100000 in
theorem mf_84 : mf_ yX8_accept cX8_accept 5 (some .int) 1 8 3 := ⟨at_ 413 rfl rfl, at_ 85 rfl rfl, by decide, by decide +kernel, by decide +kernel, fun h => absurd h (by decide), fun _ => ⟨at_ 411 rfl rfl, at_ 412 rfl rfl⟩, fun h => absurd h (by decide), rfl, by decide +kernel⟩
set_option maxRecDepth 100000 in
theorem mf_85 : mf_ yX8_start cX8_start 4 (some .int) 1 8 2 := ⟨at_ 420 rfl rfl, at_ 85 rfl rfl, by decide, by decide +kernel, by decide +kernel, fun h => absurd h (by decide), fun _ => ⟨at_ 418 rfl rfl, at_ 419 rfl rfl⟩, fun h => absurd h (by decide), rfl, by decide +kernel⟩
set_option maxRecDepth 100000 in
theorem mf_86 : mf_ yX8_about cX8_about 3 (some .int) 1 8 2 := ⟨at_ 424 rfl rfl, at_ 85 rfl rfl, by decide, by decide +kernel, by decide +kernel, fun h => absurd h (by decide), fun _ => ⟨at_ 422 rfl rfl, at_ 423 rfl rfl⟩, fun h => absurd h (by decide), rfl, by decide +kernel⟩
set_option maxRecDepth 100000 in
theorem mf_87 : mf_ yX8_to cX8_to 4 (some .int) 1 8 3 := ⟨at_ 432 rfl rfl, at_ 85 rfl rfl, by decide, by decide +kernel, by decide +kernel, fun h => absurd h (by decide), fun _ => ⟨at_ 430 rfl rfl, at_ 431 rfl rfl⟩, fun h => absurd h (by decide), rfl, by decide +kernel⟩
set_option maxRecDepth 100000 in
theorem mf_88 : mf_ yX8_order cX8_order 2 (some .int) 1 8 1 := ⟨at_ 436 rfl rfl, at_ 85 rfl rfl, by decide, by decide +kernel, by decide +kernel, fun h => absurd h (by decide), fun _ => ⟨at_ 434 rfl rfl, at_ 435 rfl rfl⟩, fun h => absurd h (by decide), rfl, by decide +kernel⟩
set_option maxRecDepth 100000 in
theorem mf_89 : mf_ yX8_smaller cX8_smaller 3 (some .int) 1 8 2 := ⟨at_ 471 rfl rfl, at_ 85 rfl rfl, by decide, by decide +kernel, by decide +kernel, fun h => absurd h (by decide), fun _ => ⟨at_ 469 rfl rfl, at_ 470 rfl rfl⟩, fun h => absurd h (by decide), rfl, by decide +kernel⟩
set_option maxRecDepth 100000 in
theorem mf_90 : mf_ yX8_join cX8_join 6 (some .int) 1 8 4 := ⟨at_ 551 rfl rfl, at_ 85 rfl rfl, by decide, by decide +kernel, by decide +kernel, fun h => absurd h (by decide), fun _ => ⟨at_ 549 rfl rfl, at_ 550 rfl rfl⟩, fun h => absurd h (by decide), rfl, by decide +kernel⟩
set_option maxRecDepth 100000 in
theorem mf_91 : mf_ yX8_feed cX8_feed 6 (some .int) 1 8 5 := ⟨at_ 563 rfl rfl, at_ 85 rfl rfl, by decide, by decide +kernel, by decide +kernel, fun h => absurd h (by decide), fun _ => ⟨at_ 561 rfl rfl, at_ 562 rfl rfl⟩, fun h => absurd h (by decide), rfl, by decide +kernel⟩
set_option maxRecDepth 100000 in
theorem mf_92 : mf_ yX8_end cX8_end 2 (some .int) 1 8 1 := ⟨at_ 571 rfl rfl, at_ 85 rfl rfl, by decide, by decide +kernel, by decide +kernel, fun h => absurd h (by decide), fun _ => ⟨at_ 569 rfl rfl, at_ 570 rfl rfl⟩, fun h => absurd h (by decide), rfl, by decide +kernel⟩
set_option maxRecDepth 100000 in
theorem mf_93 : mf_ yX8_read cX8_read 4 (some .int) 1 8 2 := ⟨at_ 575 rfl rfl, at_ 85 rfl rfl, by decide, by decide +kernel, by decide +kernel, fun h => absurd h (by decide), fun _ => ⟨at_ 573 rfl rfl, at_ 574 rfl rfl⟩, fun h => absurd h (by decide), rfl, by decide +kernel⟩
set_option maxRecDepth 100000 in
theorem mf_94 : mf_ yX8_takes cX8_takes 2 (some .int) 1 8 1 := ⟨at_ 660 rfl rfl, at_ 85 rfl rfl, by decide, by decide +kernel, by decide +kernel, fun h => absurd h (by decide), fun _ => ⟨at_ 658 rfl rfl, at_ 659 rfl rfl⟩, fun h => absurd h (by decide), rfl, by decide +kernel⟩
set_option maxRecDepth 100000 in
theorem mf_95 : mf_ yX8_same cX8_same 4 (some .int) 1 8 2 := ⟨at_ 675 rfl rfl, at_ 85 rfl rfl, by decide, by decide +kernel, by decide +kernel, fun h => absurd h (by decide), fun _ => ⟨at_ 673 rfl rfl, at_ 674 rfl rfl⟩, fun h => absurd h (by decide), rfl, by decide +kernel⟩
set_option maxRecDepth 100000 in
theorem mf_96 : mf_ yX8_apart cX8_apart 4 (some .int) 1 8 3 := ⟨at_ 691 rfl rfl, at_ 85 rfl rfl, by decide, by decide +kernel, by decide +kernel, fun h => absurd h (by decide), fun _ => ⟨at_ 689 rfl rfl, at_ 690 rfl rfl⟩, fun h => absurd h (by decide), rfl, by decide +kernel⟩
set_option maxRecDepth 100000 in
theorem mf_97 : mf_ yX8_words cX8_words 3 (some .long) 1 8 2 := ⟨at_ 695 rfl rfl, at_ 85 rfl rfl, by decide, by decide +kernel, by decide +kernel, fun h => absurd h (by decide), fun _ => ⟨at_ 693 rfl rfl, at_ 694 rfl rfl⟩, fun h => absurd h (by decide), rfl, by decide +kernel⟩
set_option maxRecDepth 100000 in
theorem mf_98 : mf_ yX8_word cX8_word 4 (some .int) 1 8 2 := ⟨at_ 718 rfl rfl, at_ 85 rfl rfl, by decide, by decide +kernel, by decide +kernel, fun h => absurd h (by decide), fun _ => ⟨at_ 716 rfl rfl, at_ 717 rfl rfl⟩, fun h => absurd h (by decide), rfl, by decide +kernel⟩
set_option maxRecDepth 100000 in
theorem mf_99 : mf_ yX8_number cX8_number 2 (some .long) 1 8 1 := ⟨at_ 731 rfl rfl, at_ 85 rfl rfl, by decide, by decide +kernel, by decide +kernel, fun h => absurd h (by decide), fun _ => ⟨at_ 729 rfl rfl, at_ 730 rfl rfl⟩, fun h => absurd h (by decide), rfl, by decide +kernel⟩
set_option maxRecDepth 100000 in
theorem mf_100 : mf_ yX8_octet cX8_octet 2 (some .int) 1 8 1 := ⟨at_ 740 rfl rfl, at_ 85 rfl rfl, by decide, by decide +kernel, by decide +kernel, fun h => absurd h (by decide), fun _ => ⟨at_ 738 rfl rfl, at_ 739 rfl rfl⟩, fun h => absurd h (by decide), rfl, by decide +kernel⟩
set_option maxRecDepth 100000 in
theorem mf_101 : mf_ yX8_bytes cX8_bytes 1 (some .int) 1 8 0 := ⟨at_ 744 rfl rfl, at_ 85 rfl rfl, by decide, by decide +kernel, by decide +kernel, fun h => absurd h (by decide), fun _ => ⟨at_ 742 rfl rfl, at_ 743 rfl rfl⟩, fun h => absurd h (by decide), rfl, by decide +kernel⟩
set_option maxRecDepth 100000 in
theorem mf_102 : mf_ yX8_mappings cX8_mappings 2 (some .int) 1 8 1 := ⟨at_ 748 rfl rfl, at_ 85 rfl rfl, by decide, by decide +kernel, by decide +kernel, fun h => absurd h (by decide), fun _ => ⟨at_ 746 rfl rfl, at_ 747 rfl rfl⟩, fun h => absurd h (by decide), rfl, by decide +kernel⟩
set_option maxRecDepth 100000 in
theorem mf_103 : mf_ yX8_maps cX8_maps 3 (some .int) 1 8 2 := ⟨at_ 777 rfl rfl, at_ 85 rfl rfl, by decide, by decide +kernel, by decide +kernel, fun h => absurd h (by decide), fun _ => ⟨at_ 775 rfl rfl, at_ 776 rfl rfl⟩, fun h => absurd h (by decide), rfl, by decide +kernel⟩
set_option maxRecDepth 100000 in
theorem mf_104 : mf_ yX8_mapping cX8_mapping 2 (some .int) 1 8 1 := ⟨at_ 782 rfl rfl, at_ 85 rfl rfl, by decide, by decide +kernel, by decide +kernel, fun h => absurd h (by decide), fun _ => ⟨at_ 780 rfl rfl, at_ 781 rfl rfl⟩, fun h => absurd h (by decide), rfl, by decide +kernel⟩
set_option maxRecDepth 100000 in
theorem mf_105 : mf_ yX8_asNumber cX8_asNumber 1 (some .int) 0 8 1 := ⟨at_ 416 rfl rfl, at_ 85 rfl rfl, by decide, by decide +kernel, by decide +kernel, fun _ => at_ 415 rfl rfl, fun h => absurd h (by decide), fun h => absurd h (by decide), rfl, by decide +kernel⟩
set_option maxRecDepth 100000 in
theorem mf_106 : mf_ yX8_isSlot cX8_isSlot 1 (some .boolean) 0 8 1 := ⟨at_ 384 rfl rfl, at_ 85 rfl rfl, by decide, by decide +kernel, by decide +kernel, fun _ => at_ 383 rfl rfl, fun h => absurd h (by decide), fun h => absurd h (by decide), rfl, by decide +kernel⟩
set_option maxRecDepth 100000 in
theorem mf_107 : mf_ yX8_isAlphabet cX8_isAlphabet 1 (some .boolean) 0 8 1 := ⟨at_ 387 rfl rfl, at_ 85 rfl rfl, by decide, by decide +kernel, by decide +kernel, fun _ => at_ 386 rfl rfl, fun h => absurd h (by decide), fun h => absurd h (by decide), rfl, by decide +kernel⟩
set_option maxRecDepth 100000 in
theorem mf_108 : mf_ yX8_isState cX8_isState 3 (some .boolean) 1 8 2 := ⟨at_ 396 rfl rfl, at_ 85 rfl rfl, by decide, by decide +kernel, by decide +kernel, fun h => absurd h (by decide), fun _ => ⟨at_ 395 rfl rfl, at_ 0 rfl rfl⟩, fun h => absurd h (by decide), rfl, by decide +kernel⟩
set_option maxRecDepth 100000 in
theorem mf_109 : mf_ yX8_pairFault cX8_pairFault 3 (some .int) 1 8 2 := ⟨at_ 559 rfl rfl, at_ 85 rfl rfl, by decide, by decide +kernel, by decide +kernel, fun h => absurd h (by decide), fun _ => ⟨at_ 558 rfl rfl, at_ 13 rfl rfl⟩, fun h => absurd h (by decide), rfl, by decide +kernel⟩
set_option maxRecDepth 100000 in
theorem mf_110 : mf_ yX9_init cX9_init 2 none 2 9 0 := ⟨at_ 817 rfl rfl, at_ 95 rfl rfl, by decide, by decide +kernel, by decide +kernel, fun h => absurd h (by decide), fun h => absurd h (by decide), fun _ => ⟨at_ 816 rfl rfl, rfl, rfl⟩, rfl, by decide +kernel⟩
set_option maxRecDepth 100000 in
theorem mf_111 : mf_ yX9_in cX9_in 6 (some .boolean) 0 9 3 := ⟨at_ 986 rfl rfl, at_ 95 rfl rfl, by decide, by decide +kernel, by decide +kernel, fun _ => at_ 985 rfl rfl, fun h => absurd h (by decide), fun h => absurd h (by decide), rfl, by decide +kernel⟩
set_option maxRecDepth 100000 in
theorem mf_112 : mf_ yX9_go cX9_go 4 (some .int) 1 9 3 := ⟨at_ 1000 rfl rfl, at_ 95 rfl rfl, by decide, by decide +kernel, by decide +kernel, fun h => absurd h (by decide), fun _ => ⟨at_ 999 rfl rfl, at_ 41 rfl rfl⟩, fun h => absurd h (by decide), rfl, by decide +kernel⟩
set_option maxRecDepth 100000 in
theorem mf_113 : mf_ yX9_accepts cX9_accepts 3 (some .boolean) 1 9 2 := ⟨at_ 1008 rfl rfl, at_ 95 rfl rfl, by decide, by decide +kernel, by decide +kernel, fun h => absurd h (by decide), fun _ => ⟨at_ 1007 rfl rfl, at_ 42 rfl rfl⟩, fun h => absurd h (by decide), rfl, by decide +kernel⟩
set_option maxRecDepth 100000 in
theorem mf_114 : mf_ yX9_isSlot cX9_isSlot 1 (some .boolean) 0 9 1 := ⟨at_ 982 rfl rfl, at_ 95 rfl rfl, by decide, by decide +kernel, by decide +kernel, fun _ => at_ 981 rfl rfl, fun h => absurd h (by decide), fun h => absurd h (by decide), rfl, by decide +kernel⟩
set_option maxRecDepth 100000 in
theorem mf_115 : mf_ yX9_make cX9_make 6 (some .int) 1 9 3 := ⟨at_ 979 rfl rfl, at_ 95 rfl rfl, by decide, by decide +kernel, by decide +kernel, fun h => absurd h (by decide), fun _ => ⟨at_ 977 rfl rfl, at_ 978 rfl rfl⟩, fun h => absurd h (by decide), rfl, by decide +kernel⟩
set_option maxRecDepth 100000 in
theorem mf_116 : mf_ yX9_isState cX9_isState 3 (some .boolean) 1 9 2 := ⟨at_ 996 rfl rfl, at_ 95 rfl rfl, by decide, by decide +kernel, by decide +kernel, fun h => absurd h (by decide), fun _ => ⟨at_ 995 rfl rfl, at_ 40 rfl rfl⟩, fun h => absurd h (by decide), rfl, by decide +kernel⟩
set_option maxRecDepth 100000 in
theorem mf_117 : mf_ yX9_edge cX9_edge 6 (some .int) 1 9 4 := ⟨at_ 992 rfl rfl, at_ 95 rfl rfl, by decide, by decide +kernel, by decide +kernel, fun h => absurd h (by decide), fun _ => ⟨at_ 990 rfl rfl, at_ 991 rfl rfl⟩, fun h => absurd h (by decide), rfl, by decide +kernel⟩
set_option maxRecDepth 100000 in
theorem mf_118 : mf_ yX9_accept cX9_accept 5 (some .int) 1 9 3 := ⟨at_ 1004 rfl rfl, at_ 95 rfl rfl, by decide, by decide +kernel, by decide +kernel, fun h => absurd h (by decide), fun _ => ⟨at_ 1002 rfl rfl, at_ 1003 rfl rfl⟩, fun h => absurd h (by decide), rfl, by decide +kernel⟩
set_option maxRecDepth 100000 in
theorem mf_119 : mf_ yX9_start cX9_start 4 (some .int) 1 9 2 := ⟨at_ 1012 rfl rfl, at_ 95 rfl rfl, by decide, by decide +kernel, by decide +kernel, fun h => absurd h (by decide), fun _ => ⟨at_ 1010 rfl rfl, at_ 1011 rfl rfl⟩, fun h => absurd h (by decide), rfl, by decide +kernel⟩
set_option maxRecDepth 100000 in
theorem mf_120 : mf_ yX9_about cX9_about 5 (some .int) 1 9 2 := ⟨at_ 1016 rfl rfl, at_ 95 rfl rfl, by decide, by decide +kernel, by decide +kernel, fun h => absurd h (by decide), fun _ => ⟨at_ 1014 rfl rfl, at_ 1015 rfl rfl⟩, fun h => absurd h (by decide), rfl, by decide +kernel⟩
set_option maxRecDepth 100000 in
theorem mf_121 : mf_ yX9_to cX9_to 4 (some .int) 1 9 3 := ⟨at_ 1021 rfl rfl, at_ 95 rfl rfl, by decide, by decide +kernel, by decide +kernel, fun h => absurd h (by decide), fun _ => ⟨at_ 1019 rfl rfl, at_ 1020 rfl rfl⟩, fun h => absurd h (by decide), rfl, by decide +kernel⟩
set_option maxRecDepth 100000 in
theorem mf_122 : mf_ yX9_lift cX9_lift 5 none 1 9 1 := ⟨at_ 1030 rfl rfl, at_ 95 rfl rfl, by decide, by decide +kernel, by decide +kernel, fun h => absurd h (by decide), fun _ => ⟨at_ 1029 rfl rfl, at_ 43 rfl rfl⟩, fun h => absurd h (by decide), rfl, by decide +kernel⟩
set_option maxRecDepth 100000 in
theorem mf_123 : mf_ yX9_drop cX9_drop 4 (some .boolean) 1 9 1 := ⟨at_ 1034 rfl rfl, at_ 95 rfl rfl, by decide, by decide +kernel, by decide +kernel, fun h => absurd h (by decide), fun _ => ⟨at_ 1033 rfl rfl, at_ 44 rfl rfl⟩, fun h => absurd h (by decide), rfl, by decide +kernel⟩
set_option maxRecDepth 100000 in
theorem mf_124 : mf_ yX9_paired cX9_paired 5 (some .int) 1 9 2 := ⟨at_ 1087 rfl rfl, at_ 95 rfl rfl, by decide, by decide +kernel, by decide +kernel, fun h => absurd h (by decide), fun _ => ⟨at_ 1086 rfl rfl, at_ 56 rfl rfl⟩, fun h => absurd h (by decide), rfl, by decide +kernel⟩
set_option maxRecDepth 100000 in
theorem mf_125 : mf_ yX9_emptyTable cX9_emptyTable 2 none 1 9 0 := ⟨at_ 1083 rfl rfl, at_ 95 rfl rfl, by decide, by decide +kernel, by decide +kernel, fun h => absurd h (by decide), fun _ => ⟨at_ 1082 rfl rfl, at_ 55 rfl rfl⟩, fun h => absurd h (by decide), rfl, by decide +kernel⟩
set_option maxRecDepth 100000 in
theorem mf_126 : mf_ yX9_findClasses cX9_findClasses 5 none 1 9 0 := ⟨at_ 1079 rfl rfl, at_ 95 rfl rfl, by decide, by decide +kernel, by decide +kernel, fun h => absurd h (by decide), fun _ => ⟨at_ 1078 rfl rfl, at_ 54 rfl rfl⟩, fun h => absurd h (by decide), rfl, by decide +kernel⟩
set_option maxRecDepth 100000 in
theorem mf_127 : mf_ yX9_shrink cX9_shrink 5 none 1 9 0 := ⟨at_ 1075 rfl rfl, at_ 95 rfl rfl, by decide, by decide +kernel, by decide +kernel, fun h => absurd h (by decide), fun _ => ⟨at_ 1074 rfl rfl, at_ 53 rfl rfl⟩, fun h => absurd h (by decide), rfl, by decide +kernel⟩
set_option maxRecDepth 100000 in
theorem mf_128 : mf_ yX9_order cX9_order 2 (some .int) 1 9 1 := ⟨at_ 1026 rfl rfl, at_ 95 rfl rfl, by decide, by decide +kernel, by decide +kernel, fun h => absurd h (by decide), fun _ => ⟨at_ 1024 rfl rfl, at_ 1025 rfl rfl⟩, fun h => absurd h (by decide), rfl, by decide +kernel⟩
set_option maxRecDepth 100000 in
theorem mf_129 : mf_ yX9_staysWith cX9_staysWith 5 (some .boolean) 1 9 2 := ⟨at_ 1047 rfl rfl, at_ 95 rfl rfl, by decide, by decide +kernel, by decide +kernel, fun h => absurd h (by decide), fun _ => ⟨at_ 1046 rfl rfl, at_ 46 rfl rfl⟩, fun h => absurd h (by decide), rfl, by decide +kernel⟩
set_option maxRecDepth 100000 in
theorem mf_130 : mf_ yX9_byRounds cX9_byRounds 8 (some .int) 1 9 0 := ⟨at_ 1043 rfl rfl, at_ 95 rfl rfl, by decide, by decide +kernel, by decide +kernel, fun h => absurd h (by decide), fun _ => ⟨at_ 1042 rfl rfl, at_ 45 rfl rfl⟩, fun h => absurd h (by decide), rfl, by decide +kernel⟩
set_option maxRecDepth 100000 in
theorem mf_131 : mf_ yX9_wait cX9_wait 3 none 1 9 2 := ⟨at_ 1055 rfl rfl, at_ 95 rfl rfl, by decide, by decide +kernel, by decide +kernel, fun h => absurd h (by decide), fun _ => ⟨at_ 1054 rfl rfl, at_ 48 rfl rfl⟩, fun h => absurd h (by decide), rfl, by decide +kernel⟩
set_option maxRecDepth 100000 in
theorem mf_132 : mf_ yX9_waits cX9_waits 5 (some .boolean) 1 9 2 := ⟨at_ 1063 rfl rfl, at_ 95 rfl rfl, by decide, by decide +kernel, by decide +kernel, fun h => absurd h (by decide), fun _ => ⟨at_ 1062 rfl rfl, at_ 50 rfl rfl⟩, fun h => absurd h (by decide), rfl, by decide +kernel⟩
set_option maxRecDepth 100000 in
theorem mf_133 : mf_ yX9_bySplitters cX9_bySplitters 5 (some .int) 1 9 0 := ⟨at_ 1051 rfl rfl, at_ 95 rfl rfl, by decide, by decide +kernel, by decide +kernel, fun h => absurd h (by decide), fun _ => ⟨at_ 1050 rfl rfl, at_ 47 rfl rfl⟩, fun h => absurd h (by decide), rfl, by decide +kernel⟩
set_option maxRecDepth 100000 in
theorem mf_134 : mf_ yX9_divide cX9_divide 6 none 1 9 1 := ⟨at_ 1059 rfl rfl, at_ 95 rfl rfl, by decide, by decide +kernel, by decide +kernel, fun h => absurd h (by decide), fun _ => ⟨at_ 1058 rfl rfl, at_ 49 rfl rfl⟩, fun h => absurd h (by decide), rfl, by decide +kernel⟩
set_option maxRecDepth 100000 in
theorem mf_135 : mf_ yX9_meet cX9_meet 5 (some .int) 1 9 2 := ⟨at_ 1071 rfl rfl, at_ 95 rfl rfl, by decide, by decide +kernel, by decide +kernel, fun h => absurd h (by decide), fun _ => ⟨at_ 1070 rfl rfl, at_ 52 rfl rfl⟩, fun h => absurd h (by decide), rfl, by decide +kernel⟩
set_option maxRecDepth 100000 in
theorem mf_136 : mf_ yX9_turn cX9_turn 9 (some .boolean) 1 9 1 := ⟨at_ 1067 rfl rfl, at_ 95 rfl rfl, by decide, by decide +kernel, by decide +kernel, fun h => absurd h (by decide), fun _ => ⟨at_ 1066 rfl rfl, at_ 51 rfl rfl⟩, fun h => absurd h (by decide), rfl, by decide +kernel⟩
set_option maxRecDepth 100000 in
theorem mf_137 : mf_ yX9_smaller cX9_smaller 4 (some .int) 1 9 2 := ⟨at_ 1038 rfl rfl, at_ 95 rfl rfl, by decide, by decide +kernel, by decide +kernel, fun h => absurd h (by decide), fun _ => ⟨at_ 1036 rfl rfl, at_ 1037 rfl rfl⟩, fun h => absurd h (by decide), rfl, by decide +kernel⟩
set_option maxRecDepth 100000 in
theorem mf_138 : mf_ yX9_isIn cX9_isIn 3 (some .boolean) 0 9 3 := ⟨at_ 1104 rfl rfl, at_ 95 rfl rfl, by decide, by decide +kernel, by decide +kernel, fun _ => at_ 1103 rfl rfl, fun h => absurd h (by decide), fun h => absurd h (by decide), rfl, by decide +kernel⟩
set_option maxRecDepth 100000 in
theorem mf_139 : mf_ yX9_pairs cX9_pairs 9 none 1 9 3 := ⟨at_ 1101 rfl rfl, at_ 95 rfl rfl, by decide, by decide +kernel, by decide +kernel, fun h => absurd h (by decide), fun _ => ⟨at_ 1100 rfl rfl, at_ 58 rfl rfl⟩, fun h => absurd h (by decide), rfl, by decide +kernel⟩
set_option maxRecDepth 100000 in
theorem mf_140 : mf_ yX9_step cX9_step 8 (some .long) 1 9 3 := ⟨at_ 1116 rfl rfl, at_ 95 rfl rfl, by decide, by decide +kernel, by decide +kernel, fun h => absurd h (by decide), fun _ => ⟨at_ 1115 rfl rfl, at_ 61 rfl rfl⟩, fun h => absurd h (by decide), rfl, by decide +kernel⟩
set_option maxRecDepth 100000 in
theorem mf_141 : mf_ yX9_hasAccepting cX9_hasAccepting 6 (some .boolean) 1 9 2 := ⟨at_ 1112 rfl rfl, at_ 95 rfl rfl, by decide, by decide +kernel, by decide +kernel, fun h => absurd h (by decide), fun _ => ⟨at_ 1111 rfl rfl, at_ 60 rfl rfl⟩, fun h => absurd h (by decide), rfl, by decide +kernel⟩
set_option maxRecDepth 100000 in
theorem mf_142 : mf_ yX9_behind cX9_behind 9 (some .boolean) 1 9 2 := ⟨at_ 1108 rfl rfl, at_ 95 rfl rfl, by decide, by decide +kernel, by decide +kernel, fun h => absurd h (by decide), fun _ => ⟨at_ 1107 rfl rfl, at_ 59 rfl rfl⟩, fun h => absurd h (by decide), rfl, by decide +kernel⟩
set_option maxRecDepth 100000 in
theorem mf_143 : mf_ yX9_often cX9_often 7 (some .boolean) 1 9 1 := ⟨at_ 1120 rfl rfl, at_ 95 rfl rfl, by decide, by decide +kernel, by decide +kernel, fun h => absurd h (by decide), fun _ => ⟨at_ 1119 rfl rfl, at_ 62 rfl rfl⟩, fun h => absurd h (by decide), rfl, by decide +kernel⟩
set_option maxRecDepth 100000 in
theorem mf_144 : mf_ yX9_joinTo cX9_joinTo 7 (some .boolean) 1 9 4 := ⟨at_ 1097 rfl rfl, at_ 95 rfl rfl, by decide, by decide +kernel, by decide +kernel, fun h => absurd h (by decide), fun _ => ⟨at_ 1096 rfl rfl, at_ 57 rfl rfl⟩, fun h => absurd h (by decide), rfl, by decide +kernel⟩
set_option maxRecDepth 100000 in
theorem mf_145 : mf_ yX9_join cX9_join 5 (some .int) 1 9 4 := ⟨at_ 1092 rfl rfl, at_ 95 rfl rfl, by decide, by decide +kernel, by decide +kernel, fun h => absurd h (by decide), fun _ => ⟨at_ 1090 rfl rfl, at_ 1091 rfl rfl⟩, fun h => absurd h (by decide), rfl, by decide +kernel⟩
set_option maxRecDepth 100000 in
theorem mf_146 : mf_ yX9_feed cX9_feed 8 (some .int) 1 9 5 := ⟨at_ 1124 rfl rfl, at_ 95 rfl rfl, by decide, by decide +kernel, by decide +kernel, fun h => absurd h (by decide), fun _ => ⟨at_ 1122 rfl rfl, at_ 1123 rfl rfl⟩, fun h => absurd h (by decide), rfl, by decide +kernel⟩
set_option maxRecDepth 100000 in
theorem mf_147 : mf_ yX9_end cX9_end 2 (some .int) 1 9 1 := ⟨at_ 1128 rfl rfl, at_ 95 rfl rfl, by decide, by decide +kernel, by decide +kernel, fun h => absurd h (by decide), fun _ => ⟨at_ 1126 rfl rfl, at_ 1127 rfl rfl⟩, fun h => absurd h (by decide), rfl, by decide +kernel⟩
set_option maxRecDepth 100000 in
theorem mf_148 : mf_ yX9_at cX9_at 2 (some .int) 1 9 1 := ⟨at_ 1140 rfl rfl, at_ 95 rfl rfl, by decide, by decide +kernel, by decide +kernel, fun h => absurd h (by decide), fun _ => ⟨at_ 1139 rfl rfl, at_ 64 rfl rfl⟩, fun h => absurd h (by decide), rfl, by decide +kernel⟩
set_option maxRecDepth 100000 in
theorem mf_149 : mf_ yX9_isPost cX9_isPost 1 (some .boolean) 0 9 1 := ⟨at_ 1151 rfl rfl, at_ 95 rfl rfl, by decide, by decide +kernel, by decide +kernel, fun _ => at_ 1150 rfl rfl, fun h => absurd h (by decide), fun h => absurd h (by decide), rfl, by decide +kernel⟩
set_option maxRecDepth 100000 in
theorem mf_150 : mf_ yX9_isPlain cX9_isPlain 2 (some .boolean) 0 9 2 := ⟨at_ 1143 rfl rfl, at_ 95 rfl rfl, by decide, by decide +kernel, by decide +kernel, fun _ => at_ 1142 rfl rfl, fun h => absurd h (by decide), fun h => absurd h (by decide), rfl, by decide +kernel⟩
set_option maxRecDepth 100000 in
theorem mf_151 : mf_ yX9_wrongAt cX9_wrongAt 7 (some .int) 1 9 1 := ⟨at_ 1136 rfl rfl, at_ 95 rfl rfl, by decide, by decide +kernel, by decide +kernel, fun h => absurd h (by decide), fun _ => ⟨at_ 1135 rfl rfl, at_ 63 rfl rfl⟩, fun h => absurd h (by decide), rfl, by decide +kernel⟩
set_option maxRecDepth 100000 in
theorem mf_152 : mf_ yX9_close cX9_close 3 (some .int) 1 9 1 := ⟨at_ 1148 rfl rfl, at_ 95 rfl rfl, by decide, by decide +kernel, by decide +kernel, fun h => absurd h (by decide), fun _ => ⟨at_ 1147 rfl rfl, at_ 65 rfl rfl⟩, fun h => absurd h (by decide), rfl, by decide +kernel⟩
set_option maxRecDepth 100000 in
theorem mf_153 : mf_ yX9_orOf cX9_orOf 1 (some .int) 0 9 1 := ⟨at_ 1170 rfl rfl, at_ 95 rfl rfl, by decide, by decide +kernel, by decide +kernel, fun _ => at_ 1169 rfl rfl, fun h => absurd h (by decide), fun h => absurd h (by decide), rfl, by decide +kernel⟩
set_option maxRecDepth 100000 in
theorem mf_154 : mf_ yX9_copy cX9_copy 4 none 1 9 2 := ⟨at_ 1178 rfl rfl, at_ 95 rfl rfl, by decide, by decide +kernel, by decide +kernel, fun h => absurd h (by decide), fun _ => ⟨at_ 1177 rfl rfl, at_ 71 rfl rfl⟩, fun h => absurd h (by decide), rfl, by decide +kernel⟩
set_option maxRecDepth 100000 in
theorem mf_155 : mf_ yX9_joinIn cX9_joinIn 5 none 1 9 4 := ⟨at_ 1174 rfl rfl, at_ 95 rfl rfl, by decide, by decide +kernel, by decide +kernel, fun h => absurd h (by decide), fun _ => ⟨at_ 1173 rfl rfl, at_ 70 rfl rfl⟩, fun h => absurd h (by decide), rfl, by decide +kernel⟩
set_option maxRecDepth 100000 in
theorem mf_156 : mf_ yX9_simple cX9_simple 5 none 1 9 2 := ⟨at_ 1155 rfl rfl, at_ 95 rfl rfl, by decide, by decide +kernel, by decide +kernel, fun h => absurd h (by decide), fun _ => ⟨at_ 1154 rfl rfl, at_ 66 rfl rfl⟩, fun h => absurd h (by decide), rfl, by decide +kernel⟩
set_option maxRecDepth 100000 in
theorem mf_157 : mf_ yX9_push cX9_push 1 none 1 9 0 := ⟨at_ 1159 rfl rfl, at_ 95 rfl rfl, by decide, by decide +kernel, by decide +kernel, fun h => absurd h (by decide), fun _ => ⟨at_ 1158 rfl rfl, at_ 67 rfl rfl⟩, fun h => absurd h (by decide), rfl, by decide +kernel⟩
set_option maxRecDepth 100000 in
theorem mf_158 : mf_ yX9_flush cX9_flush 2 none 1 9 0 := ⟨at_ 1167 rfl rfl, at_ 95 rfl rfl, by decide, by decide +kernel, by decide +kernel, fun h => absurd h (by decide), fun _ => ⟨at_ 1166 rfl rfl, at_ 69 rfl rfl⟩, fun h => absurd h (by decide), rfl, by decide +kernel⟩
set_option maxRecDepth 100000 in
theorem mf_159 : mf_ yX9_endRow cX9_endRow 4 none 1 9 0 := ⟨at_ 1190 rfl rfl, at_ 95 rfl rfl, by decide, by decide +kernel, by decide +kernel, fun h => absurd h (by decide), fun _ => ⟨at_ 1189 rfl rfl, at_ 74 rfl rfl⟩, fun h => absurd h (by decide), rfl, by decide +kernel⟩
set_option maxRecDepth 100000 in
theorem mf_160 : mf_ yX9_endAnd cX9_endAnd 3 none 1 9 0 := ⟨at_ 1186 rfl rfl, at_ 95 rfl rfl, by decide, by decide +kernel, by decide +kernel, fun h => absurd h (by decide), fun _ => ⟨at_ 1185 rfl rfl, at_ 73 rfl rfl⟩, fun h => absurd h (by decide), rfl, by decide +kernel⟩
set_option maxRecDepth 100000 in
theorem mf_161 : mf_ yX9_atom cX9_atom 1 none 1 9 0 := ⟨at_ 1182 rfl rfl, at_ 95 rfl rfl, by decide, by decide +kernel, by decide +kernel, fun h => absurd h (by decide), fun _ => ⟨at_ 1181 rfl rfl, at_ 72 rfl rfl⟩, fun h => absurd h (by decide), rfl, by decide +kernel⟩
set_option maxRecDepth 100000 in
theorem mf_162 : mf_ yX9_work cX9_work 2 none 1 9 1 := ⟨at_ 1163 rfl rfl, at_ 95 rfl rfl, by decide, by decide +kernel, by decide +kernel, fun h => absurd h (by decide), fun _ => ⟨at_ 1162 rfl rfl, at_ 68 rfl rfl⟩, fun h => absurd h (by decide), rfl, by decide +kernel⟩
set_option maxRecDepth 100000 in
theorem mf_163 : mf_ yX9_read cX9_read 6 (some .int) 1 9 2 := ⟨at_ 1132 rfl rfl, at_ 95 rfl rfl, by decide, by decide +kernel, by decide +kernel, fun h => absurd h (by decide), fun _ => ⟨at_ 1130 rfl rfl, at_ 1131 rfl rfl⟩, fun h => absurd h (by decide), rfl, by decide +kernel⟩
set_option maxRecDepth 100000 in
theorem mf_164 : mf_ yX9_lead cX9_lead 5 (some .int) 1 9 1 := ⟨at_ 1198 rfl rfl, at_ 95 rfl rfl, by decide, by decide +kernel, by decide +kernel, fun h => absurd h (by decide), fun _ => ⟨at_ 1197 rfl rfl, at_ 75 rfl rfl⟩, fun h => absurd h (by decide), rfl, by decide +kernel⟩
set_option maxRecDepth 100000 in
theorem mf_165 : mf_ yX9_takes cX9_takes 3 (some .int) 1 9 1 := ⟨at_ 1194 rfl rfl, at_ 95 rfl rfl, by decide, by decide +kernel, by decide +kernel, fun h => absurd h (by decide), fun _ => ⟨at_ 1192 rfl rfl, at_ 1193 rfl rfl⟩, fun h => absurd h (by decide), rfl, by decide +kernel⟩
set_option maxRecDepth 100000 in
theorem mf_166 : mf_ yX9_tellApart cX9_tellApart 11 (some .int) 1 9 4 := ⟨at_ 1206 rfl rfl, at_ 95 rfl rfl, by decide, by decide +kernel, by decide +kernel, fun h => absurd h (by decide), fun _ => ⟨at_ 1205 rfl rfl, at_ 76 rfl rfl⟩, fun h => absurd h (by decide), rfl, by decide +kernel⟩
set_option maxRecDepth 100000 in
theorem mf_167 : mf_ yX9_layWord cX9_layWord 5 (some .int) 1 9 1 := ⟨at_ 1210 rfl rfl, at_ 95 rfl rfl, by decide, by decide +kernel, by decide +kernel, fun h => absurd h (by decide), fun _ => ⟨at_ 1209 rfl rfl, at_ 77 rfl rfl⟩, fun h => absurd h (by decide), rfl, by decide +kernel⟩
set_option maxRecDepth 100000 in
theorem mf_168 : mf_ yX9_same cX9_same 3 (some .int) 1 9 2 := ⟨at_ 1202 rfl rfl, at_ 95 rfl rfl, by decide, by decide +kernel, by decide +kernel, fun h => absurd h (by decide), fun _ => ⟨at_ 1200 rfl rfl, at_ 1201 rfl rfl⟩, fun h => absurd h (by decide), rfl, by decide +kernel⟩
set_option maxRecDepth 100000 in
theorem mf_169 : mf_ yX9_apart cX9_apart 4 (some .int) 1 9 3 := ⟨at_ 1214 rfl rfl, at_ 95 rfl rfl, by decide, by decide +kernel, by decide +kernel, fun h => absurd h (by decide), fun _ => ⟨at_ 1212 rfl rfl, at_ 1213 rfl rfl⟩, fun h => absurd h (by decide), rfl, by decide +kernel⟩
set_option maxRecDepth 100000 in
theorem mf_170 : mf_ yX9_countAll cX9_countAll 7 none 1 9 1 := ⟨at_ 1223 rfl rfl, at_ 95 rfl rfl, by decide, by decide +kernel, by decide +kernel, fun h => absurd h (by decide), fun _ => ⟨at_ 1222 rfl rfl, at_ 78 rfl rfl⟩, fun h => absurd h (by decide), rfl, by decide +kernel⟩
set_option maxRecDepth 100000 in
theorem mf_171 : mf_ yX9_words cX9_words 3 (some .long) 1 9 2 := ⟨at_ 1218 rfl rfl, at_ 95 rfl rfl, by decide, by decide +kernel, by decide +kernel, fun h => absurd h (by decide), fun _ => ⟨at_ 1216 rfl rfl, at_ 1217 rfl rfl⟩, fun h => absurd h (by decide), rfl, by decide +kernel⟩
set_option maxRecDepth 100000 in
theorem mf_172 : mf_ yX9_word cX9_word 10 (some .int) 1 9 2 := ⟨at_ 1227 rfl rfl, at_ 95 rfl rfl, by decide, by decide +kernel, by decide +kernel, fun h => absurd h (by decide), fun _ => ⟨at_ 1225 rfl rfl, at_ 1226 rfl rfl⟩, fun h => absurd h (by decide), rfl, by decide +kernel⟩
set_option maxRecDepth 100000 in
theorem mf_173 : mf_ yX9_number cX9_number 9 (some .long) 1 9 1 := ⟨at_ 1231 rfl rfl, at_ 95 rfl rfl, by decide, by decide +kernel, by decide +kernel, fun h => absurd h (by decide), fun _ => ⟨at_ 1229 rfl rfl, at_ 1230 rfl rfl⟩, fun h => absurd h (by decide), rfl, by decide +kernel⟩
set_option maxRecDepth 100000 in
theorem mf_174 : mf_ yX9_octet cX9_octet 2 (some .int) 1 9 1 := ⟨at_ 1235 rfl rfl, at_ 95 rfl rfl, by decide, by decide +kernel, by decide +kernel, fun h => absurd h (by decide), fun _ => ⟨at_ 1233 rfl rfl, at_ 1234 rfl rfl⟩, fun h => absurd h (by decide), rfl, by decide +kernel⟩
set_option maxRecDepth 100000 in
theorem mf_175 : mf_ yX9_bytes cX9_bytes 1 (some .int) 1 9 0 := ⟨at_ 1239 rfl rfl, at_ 95 rfl rfl, by decide, by decide +kernel, by decide +kernel, fun h => absurd h (by decide), fun _ => ⟨at_ 1237 rfl rfl, at_ 1238 rfl rfl⟩, fun h => absurd h (by decide), rfl, by decide +kernel⟩
set_option maxRecDepth 100000 in
theorem mf_176 : mf_ yX9_isSame cX9_isSame 5 (some .boolean) 1 9 2 := ⟨at_ 1247 rfl rfl, at_ 95 rfl rfl, by decide, by decide +kernel, by decide +kernel, fun h => absurd h (by decide), fun _ => ⟨at_ 1246 rfl rfl, at_ 79 rfl rfl⟩, fun h => absurd h (by decide), rfl, by decide +kernel⟩
set_option maxRecDepth 100000 in
theorem mf_177 : mf_ yX9_mappings cX9_mappings 6 (some .int) 1 9 1 := ⟨at_ 1243 rfl rfl, at_ 95 rfl rfl, by decide, by decide +kernel, by decide +kernel, fun h => absurd h (by decide), fun _ => ⟨at_ 1241 rfl rfl, at_ 1242 rfl rfl⟩, fun h => absurd h (by decide), rfl, by decide +kernel⟩
set_option maxRecDepth 100000 in
theorem mf_178 : mf_ yX9_maps cX9_maps 3 (some .int) 1 9 2 := ⟨at_ 1251 rfl rfl, at_ 95 rfl rfl, by decide, by decide +kernel, by decide +kernel, fun h => absurd h (by decide), fun _ => ⟨at_ 1249 rfl rfl, at_ 1250 rfl rfl⟩, fun h => absurd h (by decide), rfl, by decide +kernel⟩
set_option maxRecDepth 100000 in
theorem mf_179 : mf_ yX9_isTwiceItself cX9_isTwiceItself 5 (some .boolean) 1 9 1 := ⟨at_ 1263 rfl rfl, at_ 95 rfl rfl, by decide, by decide +kernel, by decide +kernel, fun h => absurd h (by decide), fun _ => ⟨at_ 1262 rfl rfl, at_ 81 rfl rfl⟩, fun h => absurd h (by decide), rfl, by decide +kernel⟩
set_option maxRecDepth 100000 in
theorem mf_180 : mf_ yX9_comesToRest cX9_comesToRest 6 (some .boolean) 1 9 1 := ⟨at_ 1271 rfl rfl, at_ 95 rfl rfl, by decide, by decide +kernel, by decide +kernel, fun h => absurd h (by decide), fun _ => ⟨at_ 1270 rfl rfl, at_ 83 rfl rfl⟩, fun h => absurd h (by decide), rfl, by decide +kernel⟩
set_option maxRecDepth 100000 in
theorem mf_181 : mf_ yX9_isOneInEitherOrder cX9_isOneInEitherOrder 5 (some .boolean) 1 9 0 := ⟨at_ 1259 rfl rfl, at_ 95 rfl rfl, by decide, by decide +kernel, by decide +kernel, fun h => absurd h (by decide), fun _ => ⟨at_ 1258 rfl rfl, at_ 80 rfl rfl⟩, fun h => absurd h (by decide), rfl, by decide +kernel⟩
set_option maxRecDepth 100000 in
theorem mf_182 : mf_ yX9_different cX9_different 8 (some .int) 1 9 1 := ⟨at_ 1267 rfl rfl, at_ 95 rfl rfl, by decide, by decide +kernel, by decide +kernel, fun h => absurd h (by decide), fun _ => ⟨at_ 1266 rfl rfl, at_ 82 rfl rfl⟩, fun h => absurd h (by decide), rfl, by decide +kernel⟩
set_option maxRecDepth 100000 in
theorem mf_183 : mf_ yX9_mapping cX9_mapping 6 (some .int) 1 9 1 := ⟨at_ 1255 rfl rfl, at_ 95 rfl rfl, by decide, by decide +kernel, by decide +kernel, fun h => absurd h (by decide), fun _ => ⟨at_ 1253 rfl rfl, at_ 1254 rfl rfl⟩, fun h => absurd h (by decide), rfl, by decide +kernel⟩
set_option maxRecDepth 100000 in
theorem mf_184 : mf_ yJ13_bitCount_95d88 cJ13_bitCount_95d88 2 (some .int) 0 10 1 := ⟨at_ 809 rfl rfl, at_ 98 rfl rfl, by decide, by decide +kernel, by decide +kernel, fun _ => at_ 808 rfl rfl, fun h => absurd h (by decide), fun h => absurd h (by decide), rfl, by decide +kernel⟩
set_option maxRecDepth 100000 in
theorem mf_185 : mf_ yJ7_fill_d0a16 cJ7_fill_d0a16 5 none 0 11 2 := ⟨at_ 508 rfl rfl, at_ 97 rfl rfl, by decide, by decide +kernel, by decide +kernel, fun _ => at_ 507 rfl rfl, fun h => absurd h (by decide), fun h => absurd h (by decide), rfl, by decide +kernel⟩
set_option maxRecDepth 100000 in
theorem mf_186 : mf_ yJ7_fill_53178 cJ7_fill_53178 4 none 0 11 2 := ⟨at_ 492 rfl rfl, at_ 97 rfl rfl, by decide, by decide +kernel, by decide +kernel, fun _ => at_ 491 rfl rfl, fun h => absurd h (by decide), fun h => absurd h (by decide), rfl, by decide +kernel⟩
set_option maxRecDepth 100000 in
theorem wc_0 : ∀ w ∈ u_ws RX0 TX0 7, w ∈ ww_ := by
  intro w hw
  obtain ⟨k, hk, rfl⟩ := List.mem_map.mp hw
  have hk := List.mem_range.mp hk
  match k, hk with
  | 0, _ => exact at_ 225 rfl rfl
  | 1, _ => exact at_ 227 rfl rfl
  | 2, _ => exact at_ 229 rfl rfl
  | 3, _ => exact at_ 231 rfl rfl
  | 4, _ => exact at_ 233 rfl rfl
  | 5, _ => exact at_ 235 rfl rfl
  | 6, _ => exact at_ 237 rfl rfl
  | k + 7, hk => exact absurd hk (by omega)
set_option maxRecDepth 100000 in
theorem wc_1 : ∀ w ∈ u_ws RX1 TX1 5, w ∈ ww_ := by
  intro w hw
  obtain ⟨k, hk, rfl⟩ := List.mem_map.mp hw
  have hk := List.mem_range.mp hk
  match k, hk with
  | 0, _ => exact at_ 145 rfl rfl
  | 1, _ => exact at_ 147 rfl rfl
  | 2, _ => exact at_ 149 rfl rfl
  | 3, _ => exact at_ 151 rfl rfl
  | 4, _ => exact at_ 153 rfl rfl
  | k + 5, hk => exact absurd hk (by omega)
set_option maxRecDepth 100000 in
theorem wc_2 : ∀ w ∈ u_ws RX2 TX2 7, w ∈ ww_ := by
  intro w hw
  obtain ⟨k, hk, rfl⟩ := List.mem_map.mp hw
  have hk := List.mem_range.mp hk
  match k, hk with
  | 0, _ => exact at_ 344 rfl rfl
  | 1, _ => exact at_ 346 rfl rfl
  | 2, _ => exact at_ 348 rfl rfl
  | 3, _ => exact at_ 350 rfl rfl
  | 4, _ => exact at_ 352 rfl rfl
  | 5, _ => exact at_ 354 rfl rfl
  | 6, _ => exact at_ 356 rfl rfl
  | k + 7, hk => exact absurd hk (by omega)
set_option maxRecDepth 100000 in
theorem wc_3 : ∀ w ∈ u_ws RX3 TX3 8, w ∈ ww_ := by
  intro w hw
  obtain ⟨k, hk, rfl⟩ := List.mem_map.mp hw
  have hk := List.mem_range.mp hk
  match k, hk with
  | 0, _ => exact at_ 300 rfl rfl
  | 1, _ => exact at_ 302 rfl rfl
  | 2, _ => exact at_ 304 rfl rfl
  | 3, _ => exact at_ 306 rfl rfl
  | 4, _ => exact at_ 308 rfl rfl
  | 5, _ => exact at_ 310 rfl rfl
  | 6, _ => exact at_ 312 rfl rfl
  | 7, _ => exact at_ 314 rfl rfl
  | k + 8, hk => exact absurd hk (by omega)
set_option maxRecDepth 100000 in
theorem wc_4 : ∀ w ∈ u_ws RX4 TX4 5, w ∈ ww_ := by
  intro w hw
  obtain ⟨k, hk, rfl⟩ := List.mem_map.mp hw
  have hk := List.mem_range.mp hk
  match k, hk with
  | 0, _ => exact at_ 199 rfl rfl
  | 1, _ => exact at_ 201 rfl rfl
  | 2, _ => exact at_ 203 rfl rfl
  | 3, _ => exact at_ 205 rfl rfl
  | 4, _ => exact at_ 207 rfl rfl
  | k + 5, hk => exact absurd hk (by omega)
set_option maxRecDepth 100000 in
theorem wc_5 : ∀ w ∈ u_ws RX5 TX5 2, w ∈ ww_ := by
  intro w hw
  obtain ⟨k, hk, rfl⟩ := List.mem_map.mp hw
  have hk := List.mem_range.mp hk
  match k, hk with
  | 0, _ => exact at_ 172 rfl rfl
  | 1, _ => exact at_ 174 rfl rfl
  | k + 2, hk => exact absurd hk (by omega)
set_option maxRecDepth 100000 in
theorem wc_6 : ∀ w ∈ u_ws RX6 TX6 1, w ∈ ww_ := by
  intro w hw
  obtain ⟨k, hk, rfl⟩ := List.mem_map.mp hw
  have hk := List.mem_range.mp hk
  match k, hk with
  | 0, _ => exact at_ 324 rfl rfl
  | k + 1, hk => exact absurd hk (by omega)
set_option maxRecDepth 100000 in
theorem wc_7 : ∀ w ∈ u_ws RX7 TX7 10, w ∈ ww_ := by
  intro w hw
  obtain ⟨k, hk, rfl⟩ := List.mem_map.mp hw
  have hk := List.mem_range.mp hk
  match k, hk with
  | 0, _ => exact at_ 263 rfl rfl
  | 1, _ => exact at_ 265 rfl rfl
  | 2, _ => exact at_ 267 rfl rfl
  | 3, _ => exact at_ 269 rfl rfl
  | 4, _ => exact at_ 271 rfl rfl
  | 5, _ => exact at_ 273 rfl rfl
  | 6, _ => exact at_ 275 rfl rfl
  | 7, _ => exact at_ 277 rfl rfl
  | 8, _ => exact at_ 279 rfl rfl
  | 9, _ => exact at_ 281 rfl rfl
  | k + 10, hk => exact absurd hk (by omega)
set_option maxRecDepth 100000 in
theorem wc_8 : ∀ w ∈ u_ws RX8 TX8 6, w ∈ ww_ := by
  intro w hw
  obtain ⟨k, hk, rfl⟩ := List.mem_map.mp hw
  have hk := List.mem_range.mp hk
  match k, hk with
  | 0, _ => exact at_ 365 rfl rfl
  | 1, _ => exact at_ 367 rfl rfl
  | 2, _ => exact at_ 369 rfl rfl
  | 3, _ => exact at_ 371 rfl rfl
  | 4, _ => exact at_ 373 rfl rfl
  | 5, _ => exact at_ 375 rfl rfl
  | k + 6, hk => exact absurd hk (by omega)
set_option maxRecDepth 100000 in
theorem wc_9 : ∀ w ∈ u_ws RX9 TX9 52, w ∈ ww_ := by
  intro w hw
  obtain ⟨k, hk, rfl⟩ := List.mem_map.mp hw
  have hk := List.mem_range.mp hk
  match k, hk with
  | 0, _ => exact at_ 870 rfl rfl
  | 1, _ => exact at_ 872 rfl rfl
  | 2, _ => exact at_ 874 rfl rfl
  | 3, _ => exact at_ 876 rfl rfl
  | 4, _ => exact at_ 878 rfl rfl
  | 5, _ => exact at_ 880 rfl rfl
  | 6, _ => exact at_ 882 rfl rfl
  | 7, _ => exact at_ 884 rfl rfl
  | 8, _ => exact at_ 886 rfl rfl
  | 9, _ => exact at_ 888 rfl rfl
  | 10, _ => exact at_ 890 rfl rfl
  | 11, _ => exact at_ 892 rfl rfl
  | 12, _ => exact at_ 894 rfl rfl
  | 13, _ => exact at_ 896 rfl rfl
  | 14, _ => exact at_ 898 rfl rfl
  | 15, _ => exact at_ 900 rfl rfl
  | 16, _ => exact at_ 902 rfl rfl
  | 17, _ => exact at_ 904 rfl rfl
  | 18, _ => exact at_ 906 rfl rfl
  | 19, _ => exact at_ 908 rfl rfl
  | 20, _ => exact at_ 910 rfl rfl
  | 21, _ => exact at_ 912 rfl rfl
  | 22, _ => exact at_ 914 rfl rfl
  | 23, _ => exact at_ 916 rfl rfl
  | 24, _ => exact at_ 918 rfl rfl
  | 25, _ => exact at_ 920 rfl rfl
  | 26, _ => exact at_ 922 rfl rfl
  | 27, _ => exact at_ 924 rfl rfl
  | 28, _ => exact at_ 926 rfl rfl
  | 29, _ => exact at_ 928 rfl rfl
  | 30, _ => exact at_ 930 rfl rfl
  | 31, _ => exact at_ 932 rfl rfl
  | 32, _ => exact at_ 934 rfl rfl
  | 33, _ => exact at_ 936 rfl rfl
  | 34, _ => exact at_ 938 rfl rfl
  | 35, _ => exact at_ 940 rfl rfl
  | 36, _ => exact at_ 942 rfl rfl
  | 37, _ => exact at_ 944 rfl rfl
  | 38, _ => exact at_ 946 rfl rfl
  | 39, _ => exact at_ 948 rfl rfl
  | 40, _ => exact at_ 950 rfl rfl
  | 41, _ => exact at_ 952 rfl rfl
  | 42, _ => exact at_ 954 rfl rfl
  | 43, _ => exact at_ 956 rfl rfl
  | 44, _ => exact at_ 958 rfl rfl
  | 45, _ => exact at_ 960 rfl rfl
  | 46, _ => exact at_ 962 rfl rfl
  | 47, _ => exact at_ 964 rfl rfl
  | 48, _ => exact at_ 966 rfl rfl
  | 49, _ => exact at_ 968 rfl rfl
  | 50, _ => exact at_ 970 rfl rfl
  | 51, _ => exact at_ 972 rfl rfl
  | k + 52, hk => exact absurd hk (by omega)
set_option maxRecDepth 100000 in
theorem ac_int : Jvm.Cond.arrayClass .int ∈ ww_ := at_ 156 rfl rfl
set_option maxRecDepth 100000 in
theorem ac_boolean : Jvm.Cond.arrayClass .boolean ∈ ww_ := at_ 157 rfl rfl
set_option maxRecDepth 100000 in
theorem ac_byte : Jvm.Cond.arrayClass .byte ∈ ww_ := at_ 975 rfl rfl
set_option maxRecDepth 100000 in
theorem ac_long : Jvm.Cond.arrayClass .long ∈ ww_ := at_ 210 rfl rfl
set_option maxRecDepth 100000 in
theorem mm_max : Jvm.Cond.static Lib.Math.max.name ∈ ww_ ∧ Jvm.Cond.initialized "java/lang/Math" ∈ ww_ ∧ Jvm.Cond.code Lib.Math.max.name Lib.Math.max.code 2 (some .int) ∈ ww_ := ⟨at_ 115 rfl rfl, at_ 87 rfl rfl, at_ 116 rfl rfl⟩
set_option maxRecDepth 100000 in
theorem mm_min : Jvm.Cond.static Lib.Math.min.name ∈ ww_ ∧ Jvm.Cond.initialized "java/lang/Math" ∈ ww_ ∧ Jvm.Cond.code Lib.Math.min.name Lib.Math.min.code 2 (some .int) ∈ ww_ := ⟨at_ 450 rfl rfl, at_ 87 rfl rfl, at_ 451 rfl rfl⟩
set_option maxRecDepth 100000 in
theorem oi_1 : Jvm.Cond.instanceMethod objectInit ∈ ww_ := at_ 105 rfl rfl
set_option maxRecDepth 100000 in
theorem oi_2 : Jvm.Cond.code objectInit ⟨#[0xb1]⟩ 1 none ∈ ww_ := at_ 106 rfl rfl
set_option maxRecDepth 100000 in
theorem ay_1 : Jvm.Cond.native arraycopyName ∈ ww_ := at_ 467 rfl rfl
set_option maxRecDepth 100000 in
theorem ay_2 : Jvm.Cond.static arraycopyName ∈ ww_ := at_ 466 rfl rfl
set_option maxRecDepth 100000 in
theorem ay_3 : Jvm.Cond.initialized "java/lang/System" ∈ ww_ := at_ 96 rfl rfl
set_option maxRecDepth 100000 in
theorem ik_0 : Jvm.Cond.instantiable RX0 7 ∈ ww_ ∧ Jvm.Cond.initialized RX0 ∈ ww_ := ⟨at_ 212 rfl rfl, at_ 91 rfl rfl⟩
set_option maxRecDepth 100000 in
theorem ik_1 : Jvm.Cond.instantiable RX1 5 ∈ ww_ ∧ Jvm.Cond.initialized RX1 ∈ ww_ := ⟨at_ 109 rfl rfl, at_ 86 rfl rfl⟩
set_option maxRecDepth 100000 in
theorem ik_2 : Jvm.Cond.instantiable RX2 7 ∈ ww_ ∧ Jvm.Cond.initialized RX2 ∈ ww_ := ⟨at_ 328 rfl rfl, at_ 94 rfl rfl⟩
set_option maxRecDepth 100000 in
theorem ik_3 : Jvm.Cond.instantiable RX3 8 ∈ ww_ ∧ Jvm.Cond.initialized RX3 ∈ ww_ := ⟨at_ 285 rfl rfl, at_ 92 rfl rfl⟩
set_option maxRecDepth 100000 in
theorem ik_4 : Jvm.Cond.instantiable RX4 5 ∈ ww_ ∧ Jvm.Cond.initialized RX4 ∈ ww_ := ⟨at_ 186 rfl rfl, at_ 90 rfl rfl⟩
set_option maxRecDepth 100000 in
theorem ik_5 : Jvm.Cond.instantiable RX5 2 ∈ ww_ ∧ Jvm.Cond.initialized RX5 ∈ ww_ := ⟨at_ 159 rfl rfl, at_ 88 rfl rfl⟩
set_option maxRecDepth 100000 in
theorem ik_6 : Jvm.Cond.instantiable RX6 1 ∈ ww_ ∧ Jvm.Cond.initialized RX6 ∈ ww_ := ⟨at_ 318 rfl rfl, at_ 93 rfl rfl⟩
set_option maxRecDepth 100000 in
theorem ik_7 : Jvm.Cond.instantiable RX7 10 ∈ ww_ ∧ Jvm.Cond.initialized RX7 ∈ ww_ := ⟨at_ 178 rfl rfl, at_ 89 rfl rfl⟩
set_option maxRecDepth 100000 in
theorem ik_8 : Jvm.Cond.instantiable RX8 6 ∈ ww_ ∧ Jvm.Cond.initialized RX8 ∈ ww_ := ⟨at_ 100 rfl rfl, at_ 85 rfl rfl⟩
set_option maxRecDepth 100000 in
theorem ik_9 : Jvm.Cond.instantiable RX9 52 ∈ ww_ ∧ Jvm.Cond.initialized RX9 ∈ ww_ := ⟨at_ 814 rfl rfl, at_ 95 rfl rfl⟩
def lt_f_0 : List (Nat × Nat × Nat × Nat) := [(0, 9, 0, 0), (0, 15, 0, 1), (0, 18, 0, 2), (0, 21, 0, 3), (0, 28, 0, 6), (0, 32, 0, 5), (0, 35, 1, 3), (0, 46, 1, 2), (0, 57, 1, 1), (0, 65, 0, 4), (0, 68, 1, 0), (0, 71, 1, 4), (1, 9, 1, 2), (1, 15, 1, 3), (1, 24, 1, 0), (1, 28, 1, 1), (1, 32, 1, 4), (2, 14, 2, 0), (2, 20, 2, 1), (2, 24, 2, 2), (2, 27, 2, 3), (2, 30, 2, 4), (2, 33, 2, 5), (2, 42, 2, 6)]
set_option maxRecDepth 100000 in
theorem lt_f_i0 : ∀ q ∈ lt_f_0, ∀ r, vwCl[q.2.2.1]? = some r → Jvm.Cond.fieldLink (cn_ q.1) q.2.1 (r.2.1 q.2.2.2).1 (r.2.1 q.2.2.2).2.1 (r.2.1 q.2.2.2).2.2.1 ∈ ww_ := List.forall_mem_cons.mpr ⟨fun q hq => by cases hq; exact at_ 217 rfl rfl, List.forall_mem_cons.mpr ⟨fun q hq => by cases hq; exact at_ 218 rfl rfl, List.forall_mem_cons.mpr ⟨fun q hq => by cases hq; exact at_ 219 rfl rfl, List.forall_mem_cons.mpr ⟨fun q hq => by cases hq; exact at_ 220 rfl rfl, List.forall_mem_cons.mpr ⟨fun q hq => by cases hq; exact at_ 223 rfl rfl, List.forall_mem_cons.mpr ⟨fun q hq => by cases hq; exact at_ 222 rfl rfl, List.forall_mem_cons.mpr ⟨fun q hq => by cases hq; exact at_ 134 rfl rfl, List.forall_mem_cons.mpr ⟨fun q hq => by cases hq; exact at_ 127 rfl rfl, List.forall_mem_cons.mpr ⟨fun q hq => by cases hq; exact at_ 122 rfl rfl, List.forall_mem_cons.mpr ⟨fun q hq => by cases hq; exact at_ 221 rfl rfl, List.forall_mem_cons.mpr ⟨fun q hq => by cases hq; exact at_ 118 rfl rfl, List.forall_mem_cons.mpr ⟨fun q hq => by cases hq; exact at_ 143 rfl rfl, List.forall_mem_cons.mpr ⟨fun q hq => by cases hq; exact at_ 126 rfl rfl, List.forall_mem_cons.mpr ⟨fun q hq => by cases hq; exact at_ 132 rfl rfl, List.forall_mem_cons.mpr ⟨fun q hq => by cases hq; exact at_ 117 rfl rfl, List.forall_mem_cons.mpr ⟨fun q hq => by cases hq; exact at_ 120 rfl rfl, List.forall_mem_cons.mpr ⟨fun q hq => by cases hq; exact at_ 140 rfl rfl, List.forall_mem_cons.mpr ⟨fun q hq => by cases hq; exact at_ 335 rfl rfl, List.forall_mem_cons.mpr ⟨fun q hq => by cases hq; exact at_ 337 rfl rfl, List.forall_mem_cons.mpr ⟨fun q hq => by cases hq; exact at_ 338 rfl rfl, List.forall_mem_cons.mpr ⟨fun q hq => by cases hq; exact at_ 339 rfl rfl, List.forall_mem_cons.mpr ⟨fun q hq => by cases hq; exact at_ 340 rfl rfl, List.forall_mem_cons.mpr ⟨fun q hq => by cases hq; exact at_ 341 rfl rfl, List.forall_mem_cons.mpr ⟨fun q hq => by cases hq; exact at_ 342 rfl rfl, fun _ h => absurd h List.not_mem_nil⟩⟩⟩⟩⟩⟩⟩⟩⟩⟩⟩⟩⟩⟩⟩⟩⟩⟩⟩⟩⟩⟩⟩⟩
def lt_f_24 : List (Nat × Nat × Nat × Nat) := [(2, 46, 1, 3), (2, 53, 1, 2), (3, 13, 3, 2), (3, 17, 3, 0), (3, 21, 3, 1), (3, 28, 3, 4), (3, 32, 3, 3), (3, 35, 3, 5), (3, 38, 3, 6), (3, 41, 3, 7), (3, 48, 5, 1), (3, 53, 1, 3), (3, 98, 5, 0), (3, 117, 1, 1), (4, 9, 4, 0), (4, 15, 4, 1), (4, 19, 4, 2), (4, 22, 4, 3), (4, 31, 4, 4), (5, 9, 5, 0), (5, 15, 5, 1), (5, 29, 1, 4), (6, 9, 6, 0), (6, 19, 1, 4)]
set_option maxRecDepth 100000 in
theorem lt_f_i24 : ∀ q ∈ lt_f_24, ∀ r, vwCl[q.2.2.1]? = some r → Jvm.Cond.fieldLink (cn_ q.1) q.2.1 (r.2.1 q.2.2.2).1 (r.2.1 q.2.2.2).2.1 (r.2.1 q.2.2.2).2.2.1 ∈ ww_ := List.forall_mem_cons.mpr ⟨fun q hq => by cases hq; exact at_ 133 rfl rfl, List.forall_mem_cons.mpr ⟨fun q hq => by cases hq; exact at_ 128 rfl rfl, List.forall_mem_cons.mpr ⟨fun q hq => by cases hq; exact at_ 294 rfl rfl, List.forall_mem_cons.mpr ⟨fun q hq => by cases hq; exact at_ 292 rfl rfl, List.forall_mem_cons.mpr ⟨fun q hq => by cases hq; exact at_ 293 rfl rfl, List.forall_mem_cons.mpr ⟨fun q hq => by cases hq; exact at_ 296 rfl rfl, List.forall_mem_cons.mpr ⟨fun q hq => by cases hq; exact at_ 295 rfl rfl, List.forall_mem_cons.mpr ⟨fun q hq => by cases hq; exact at_ 297 rfl rfl, List.forall_mem_cons.mpr ⟨fun q hq => by cases hq; exact at_ 298 rfl rfl, List.forall_mem_cons.mpr ⟨fun q hq => by cases hq; exact at_ 299 rfl rfl, List.forall_mem_cons.mpr ⟨fun q hq => by cases hq; exact at_ 168 rfl rfl, List.forall_mem_cons.mpr ⟨fun q hq => by cases hq; exact at_ 135 rfl rfl, List.forall_mem_cons.mpr ⟨fun q hq => by cases hq; exact at_ 165 rfl rfl, List.forall_mem_cons.mpr ⟨fun q hq => by cases hq; exact at_ 125 rfl rfl, List.forall_mem_cons.mpr ⟨fun q hq => by cases hq; exact at_ 191 rfl rfl, List.forall_mem_cons.mpr ⟨fun q hq => by cases hq; exact at_ 193 rfl rfl, List.forall_mem_cons.mpr ⟨fun q hq => by cases hq; exact at_ 195 rfl rfl, List.forall_mem_cons.mpr ⟨fun q hq => by cases hq; exact at_ 196 rfl rfl, List.forall_mem_cons.mpr ⟨fun q hq => by cases hq; exact at_ 197 rfl rfl, List.forall_mem_cons.mpr ⟨fun q hq => by cases hq; exact at_ 164 rfl rfl, List.forall_mem_cons.mpr ⟨fun q hq => by cases hq; exact at_ 167 rfl rfl, List.forall_mem_cons.mpr ⟨fun q hq => by cases hq; exact at_ 144 rfl rfl, List.forall_mem_cons.mpr ⟨fun q hq => by cases hq; exact at_ 323 rfl rfl, List.forall_mem_cons.mpr ⟨fun q hq => by cases hq; exact at_ 141 rfl rfl, fun _ h => absurd h List.not_mem_nil⟩⟩⟩⟩⟩⟩⟩⟩⟩⟩⟩⟩⟩⟩⟩⟩⟩⟩⟩⟩⟩⟩⟩⟩
def lt_f_48 : List (Nat × Nat × Nat × Nat) := [(6, 33, 5, 1), (6, 46, 1, 2), (6, 53, 1, 3), (6, 56, 1, 1), (7, 14, 7, 0), (7, 20, 7, 1), (7, 23, 7, 2), (7, 26, 7, 3), (7, 32, 7, 4), (7, 39, 7, 5), (7, 43, 7, 6), (7, 47, 7, 7), (7, 50, 7, 8), (7, 53, 7, 9), (7, 61, 1, 1), (7, 65, 1, 4), (7, 89, 0, 6), (7, 95, 1, 2), (7, 98, 1, 3), (7, 112, 5, 1), (7, 154, 4, 4), (7, 157, 4, 0), (7, 170, 4, 1), (7, 184, 1, 0)]
set_option maxRecDepth 100000 in
theorem lt_f_i48 : ∀ q ∈ lt_f_48, ∀ r, vwCl[q.2.2.1]? = some r → Jvm.Cond.fieldLink (cn_ q.1) q.2.1 (r.2.1 q.2.2.2).1 (r.2.1 q.2.2.2).2.1 (r.2.1 q.2.2.2).2.2.1 ∈ ww_ := List.forall_mem_cons.mpr ⟨fun q hq => by cases hq; exact at_ 169 rfl rfl, List.forall_mem_cons.mpr ⟨fun q hq => by cases hq; exact at_ 130 rfl rfl, List.forall_mem_cons.mpr ⟨fun q hq => by cases hq; exact at_ 138 rfl rfl, List.forall_mem_cons.mpr ⟨fun q hq => by cases hq; exact at_ 124 rfl rfl, List.forall_mem_cons.mpr ⟨fun q hq => by cases hq; exact at_ 252 rfl rfl, List.forall_mem_cons.mpr ⟨fun q hq => by cases hq; exact at_ 254 rfl rfl, List.forall_mem_cons.mpr ⟨fun q hq => by cases hq; exact at_ 255 rfl rfl, List.forall_mem_cons.mpr ⟨fun q hq => by cases hq; exact at_ 256 rfl rfl, List.forall_mem_cons.mpr ⟨fun q hq => by cases hq; exact at_ 257 rfl rfl, List.forall_mem_cons.mpr ⟨fun q hq => by cases hq; exact at_ 258 rfl rfl, List.forall_mem_cons.mpr ⟨fun q hq => by cases hq; exact at_ 259 rfl rfl, List.forall_mem_cons.mpr ⟨fun q hq => by cases hq; exact at_ 260 rfl rfl, List.forall_mem_cons.mpr ⟨fun q hq => by cases hq; exact at_ 261 rfl rfl, List.forall_mem_cons.mpr ⟨fun q hq => by cases hq; exact at_ 262 rfl rfl, List.forall_mem_cons.mpr ⟨fun q hq => by cases hq; exact at_ 121 rfl rfl, List.forall_mem_cons.mpr ⟨fun q hq => by cases hq; exact at_ 139 rfl rfl, List.forall_mem_cons.mpr ⟨fun q hq => by cases hq; exact at_ 224 rfl rfl, List.forall_mem_cons.mpr ⟨fun q hq => by cases hq; exact at_ 129 rfl rfl, List.forall_mem_cons.mpr ⟨fun q hq => by cases hq; exact at_ 136 rfl rfl, List.forall_mem_cons.mpr ⟨fun q hq => by cases hq; exact at_ 170 rfl rfl, List.forall_mem_cons.mpr ⟨fun q hq => by cases hq; exact at_ 198 rfl rfl, List.forall_mem_cons.mpr ⟨fun q hq => by cases hq; exact at_ 192 rfl rfl, List.forall_mem_cons.mpr ⟨fun q hq => by cases hq; exact at_ 194 rfl rfl, List.forall_mem_cons.mpr ⟨fun q hq => by cases hq; exact at_ 119 rfl rfl, fun _ h => absurd h List.not_mem_nil⟩⟩⟩⟩⟩⟩⟩⟩⟩⟩⟩⟩⟩⟩⟩⟩⟩⟩⟩⟩⟩⟩⟩⟩
def lt_f_72 : List (Nat × Nat × Nat × Nat) := [(8, 11, 8, 0), (8, 21, 8, 1), (8, 28, 8, 2), (8, 37, 8, 3), (8, 44, 8, 4), (8, 51, 8, 5), (8, 81, 1, 1), (8, 89, 1, 4), (8, 93, 1, 2), (8, 96, 1, 3), (8, 107, 7, 0), (8, 125, 5, 1), (8, 165, 5, 0), (8, 169, 2, 0), (8, 179, 2, 6), (9, 7, 9, 1), (9, 13, 9, 2), (9, 16, 9, 3), (9, 19, 9, 4), (9, 22, 9, 5), (9, 26, 9, 6), (9, 30, 9, 10), (9, 33, 9, 11), (9, 36, 9, 12)]
set_option maxRecDepth 100000 in
theorem lt_f_i72 : ∀ q ∈ lt_f_72, ∀ r, vwCl[q.2.2.1]? = some r → Jvm.Cond.fieldLink (cn_ q.1) q.2.1 (r.2.1 q.2.2.2).1 (r.2.1 q.2.2.2).2.1 (r.2.1 q.2.2.2).2.2.1 ∈ ww_ := List.forall_mem_cons.mpr ⟨fun q hq => by cases hq; exact at_ 359 rfl rfl, List.forall_mem_cons.mpr ⟨fun q hq => by cases hq; exact at_ 360 rfl rfl, List.forall_mem_cons.mpr ⟨fun q hq => by cases hq; exact at_ 361 rfl rfl, List.forall_mem_cons.mpr ⟨fun q hq => by cases hq; exact at_ 362 rfl rfl, List.forall_mem_cons.mpr ⟨fun q hq => by cases hq; exact at_ 363 rfl rfl, List.forall_mem_cons.mpr ⟨fun q hq => by cases hq; exact at_ 364 rfl rfl, List.forall_mem_cons.mpr ⟨fun q hq => by cases hq; exact at_ 123 rfl rfl, List.forall_mem_cons.mpr ⟨fun q hq => by cases hq; exact at_ 142 rfl rfl, List.forall_mem_cons.mpr ⟨fun q hq => by cases hq; exact at_ 131 rfl rfl, List.forall_mem_cons.mpr ⟨fun q hq => by cases hq; exact at_ 137 rfl rfl, List.forall_mem_cons.mpr ⟨fun q hq => by cases hq; exact at_ 253 rfl rfl, List.forall_mem_cons.mpr ⟨fun q hq => by cases hq; exact at_ 171 rfl rfl, List.forall_mem_cons.mpr ⟨fun q hq => by cases hq; exact at_ 166 rfl rfl, List.forall_mem_cons.mpr ⟨fun q hq => by cases hq; exact at_ 336 rfl rfl, List.forall_mem_cons.mpr ⟨fun q hq => by cases hq; exact at_ 343 rfl rfl, List.forall_mem_cons.mpr ⟨fun q hq => by cases hq; exact at_ 820 rfl rfl, List.forall_mem_cons.mpr ⟨fun q hq => by cases hq; exact at_ 821 rfl rfl, List.forall_mem_cons.mpr ⟨fun q hq => by cases hq; exact at_ 822 rfl rfl, List.forall_mem_cons.mpr ⟨fun q hq => by cases hq; exact at_ 823 rfl rfl, List.forall_mem_cons.mpr ⟨fun q hq => by cases hq; exact at_ 824 rfl rfl, List.forall_mem_cons.mpr ⟨fun q hq => by cases hq; exact at_ 825 rfl rfl, List.forall_mem_cons.mpr ⟨fun q hq => by cases hq; exact at_ 829 rfl rfl, List.forall_mem_cons.mpr ⟨fun q hq => by cases hq; exact at_ 830 rfl rfl, List.forall_mem_cons.mpr ⟨fun q hq => by cases hq; exact at_ 831 rfl rfl, fun _ h => absurd h List.not_mem_nil⟩⟩⟩⟩⟩⟩⟩⟩⟩⟩⟩⟩⟩⟩⟩⟩⟩⟩⟩⟩⟩⟩⟩⟩
def lt_f_96 : List (Nat × Nat × Nat × Nat) := [(9, 39, 9, 13), (9, 42, 9, 14), (9, 45, 9, 15), (9, 48, 9, 16), (9, 51, 9, 17), (9, 54, 9, 19), (9, 57, 9, 20), (9, 60, 9, 21), (9, 63, 9, 23), (9, 66, 9, 26), (9, 69, 9, 27), (9, 72, 9, 28), (9, 75, 9, 29), (9, 79, 9, 30), (9, 82, 9, 33), (9, 85, 9, 34), (9, 88, 9, 39), (9, 91, 9, 40), (9, 94, 9, 41), (9, 97, 9, 42), (9, 100, 9, 44), (9, 103, 9, 45), (9, 106, 9, 46), (9, 109, 9, 50)]
set_option maxRecDepth 100000 in
theorem lt_f_i96 : ∀ q ∈ lt_f_96, ∀ r, vwCl[q.2.2.1]? = some r → Jvm.Cond.fieldLink (cn_ q.1) q.2.1 (r.2.1 q.2.2.2).1 (r.2.1 q.2.2.2).2.1 (r.2.1 q.2.2.2).2.2.1 ∈ ww_ := List.forall_mem_cons.mpr ⟨fun q hq => by cases hq; exact at_ 832 rfl rfl, List.forall_mem_cons.mpr ⟨fun q hq => by cases hq; exact at_ 833 rfl rfl, List.forall_mem_cons.mpr ⟨fun q hq => by cases hq; exact at_ 834 rfl rfl, List.forall_mem_cons.mpr ⟨fun q hq => by cases hq; exact at_ 835 rfl rfl, List.forall_mem_cons.mpr ⟨fun q hq => by cases hq; exact at_ 836 rfl rfl, List.forall_mem_cons.mpr ⟨fun q hq => by cases hq; exact at_ 838 rfl rfl, List.forall_mem_cons.mpr ⟨fun q hq => by cases hq; exact at_ 839 rfl rfl, List.forall_mem_cons.mpr ⟨fun q hq => by cases hq; exact at_ 840 rfl rfl, List.forall_mem_cons.mpr ⟨fun q hq => by cases hq; exact at_ 842 rfl rfl, List.forall_mem_cons.mpr ⟨fun q hq => by cases hq; exact at_ 845 rfl rfl, List.forall_mem_cons.mpr ⟨fun q hq => by cases hq; exact at_ 846 rfl rfl, List.forall_mem_cons.mpr ⟨fun q hq => by cases hq; exact at_ 847 rfl rfl, List.forall_mem_cons.mpr ⟨fun q hq => by cases hq; exact at_ 848 rfl rfl, List.forall_mem_cons.mpr ⟨fun q hq => by cases hq; exact at_ 849 rfl rfl, List.forall_mem_cons.mpr ⟨fun q hq => by cases hq; exact at_ 851 rfl rfl, List.forall_mem_cons.mpr ⟨fun q hq => by cases hq; exact at_ 852 rfl rfl, List.forall_mem_cons.mpr ⟨fun q hq => by cases hq; exact at_ 857 rfl rfl, List.forall_mem_cons.mpr ⟨fun q hq => by cases hq; exact at_ 858 rfl rfl, List.forall_mem_cons.mpr ⟨fun q hq => by cases hq; exact at_ 859 rfl rfl, List.forall_mem_cons.mpr ⟨fun q hq => by cases hq; exact at_ 860 rfl rfl, List.forall_mem_cons.mpr ⟨fun q hq => by cases hq; exact at_ 862 rfl rfl, List.forall_mem_cons.mpr ⟨fun q hq => by cases hq; exact at_ 863 rfl rfl, List.forall_mem_cons.mpr ⟨fun q hq => by cases hq; exact at_ 864 rfl rfl, List.forall_mem_cons.mpr ⟨fun q hq => by cases hq; exact at_ 868 rfl rfl, fun _ h => absurd h List.not_mem_nil⟩⟩⟩⟩⟩⟩⟩⟩⟩⟩⟩⟩⟩⟩⟩⟩⟩⟩⟩⟩⟩⟩⟩⟩
def lt_f_120 : List (Nat × Nat × Nat × Nat) := [(9, 112, 9, 51), (9, 115, 9, 0), (9, 148, 9, 8), (9, 151, 9, 9), (9, 155, 9, 18), (9, 178, 9, 24), (9, 181, 9, 25), (9, 184, 9, 22), (9, 197, 9, 31), (9, 247, 9, 7), (9, 265, 9, 36), (9, 269, 9, 35), (9, 272, 9, 37), (9, 275, 9, 38), (9, 278, 9, 43), (9, 330, 9, 48), (9, 333, 9, 49), (9, 336, 9, 47)]
set_option maxRecDepth 100000 in
theorem lt_f_i120 : ∀ q ∈ lt_f_120, ∀ r, vwCl[q.2.2.1]? = some r → Jvm.Cond.fieldLink (cn_ q.1) q.2.1 (r.2.1 q.2.2.2).1 (r.2.1 q.2.2.2).2.1 (r.2.1 q.2.2.2).2.2.1 ∈ ww_ := List.forall_mem_cons.mpr ⟨fun q hq => by cases hq; exact at_ 869 rfl rfl, List.forall_mem_cons.mpr ⟨fun q hq => by cases hq; exact at_ 819 rfl rfl, List.forall_mem_cons.mpr ⟨fun q hq => by cases hq; exact at_ 827 rfl rfl, List.forall_mem_cons.mpr ⟨fun q hq => by cases hq; exact at_ 828 rfl rfl, List.forall_mem_cons.mpr ⟨fun q hq => by cases hq; exact at_ 837 rfl rfl, List.forall_mem_cons.mpr ⟨fun q hq => by cases hq; exact at_ 843 rfl rfl, List.forall_mem_cons.mpr ⟨fun q hq => by cases hq; exact at_ 844 rfl rfl, List.forall_mem_cons.mpr ⟨fun q hq => by cases hq; exact at_ 841 rfl rfl, List.forall_mem_cons.mpr ⟨fun q hq => by cases hq; exact at_ 850 rfl rfl, List.forall_mem_cons.mpr ⟨fun q hq => by cases hq; exact at_ 826 rfl rfl, List.forall_mem_cons.mpr ⟨fun q hq => by cases hq; exact at_ 854 rfl rfl, List.forall_mem_cons.mpr ⟨fun q hq => by cases hq; exact at_ 853 rfl rfl, List.forall_mem_cons.mpr ⟨fun q hq => by cases hq; exact at_ 855 rfl rfl, List.forall_mem_cons.mpr ⟨fun q hq => by cases hq; exact at_ 856 rfl rfl, List.forall_mem_cons.mpr ⟨fun q hq => by cases hq; exact at_ 861 rfl rfl, List.forall_mem_cons.mpr ⟨fun q hq => by cases hq; exact at_ 866 rfl rfl, List.forall_mem_cons.mpr ⟨fun q hq => by cases hq; exact at_ 867 rfl rfl, List.forall_mem_cons.mpr ⟨fun q hq => by cases hq; exact at_ 865 rfl rfl, fun _ h => absurd h List.not_mem_nil⟩⟩⟩⟩⟩⟩⟩⟩⟩⟩⟩⟩⟩⟩⟩⟩⟩⟩
def lt_f : List (Nat × Nat × Nat × Nat) := lt_f_0 ++ (lt_f_24 ++ (lt_f_48 ++ (lt_f_72 ++ (lt_f_96 ++ (lt_f_120)))))
theorem lt_f_in : ∀ q ∈ lt_f, ∀ r, vwCl[q.2.2.1]? = some r → Jvm.Cond.fieldLink (cn_ q.1) q.2.1 (r.2.1 q.2.2.2).1 (r.2.1 q.2.2.2).2.1 (r.2.1 q.2.2.2).2.2.1 ∈ ww_ := List.forall_mem_append.mpr ⟨lt_f_i0, List.forall_mem_append.mpr ⟨lt_f_i24, List.forall_mem_append.mpr ⟨lt_f_i48, List.forall_mem_append.mpr ⟨lt_f_i72, List.forall_mem_append.mpr ⟨lt_f_i96, lt_f_i120⟩⟩⟩⟩⟩
def lt_m_0 : List (Nat × Nat × Nat) := [(12, 9, 81), (12, 12, 110), (12, 13, 82), (12, 17, 115), (12, 18, 83), (12, 22, 117), (12, 23, 84), (12, 27, 118), (12, 28, 85), (12, 32, 119), (12, 33, 86), (12, 36, 120), (12, 37, 87), (12, 40, 121), (12, 41, 88), (12, 45, 128), (12, 46, 89), (12, 49, 137), (12, 50, 90), (12, 53, 145), (12, 54, 91), (12, 58, 146), (12, 59, 92), (12, 62, 147)]
set_option maxRecDepth 100000 in
theorem lt_m_i0 : ∀ q ∈ lt_m_0, Jvm.Cond.methodLink (cn_ q.1) q.2.1 (yc_ q.2.2) ∈ ww_ := List.forall_mem_cons.mpr ⟨at_ 101 rfl rfl, List.forall_mem_cons.mpr ⟨at_ 815 rfl rfl, List.forall_mem_cons.mpr ⟨at_ 378 rfl rfl, List.forall_mem_cons.mpr ⟨at_ 976 rfl rfl, List.forall_mem_cons.mpr ⟨at_ 389 rfl rfl, List.forall_mem_cons.mpr ⟨at_ 989 rfl rfl, List.forall_mem_cons.mpr ⟨at_ 410 rfl rfl, List.forall_mem_cons.mpr ⟨at_ 1001 rfl rfl, List.forall_mem_cons.mpr ⟨at_ 417 rfl rfl, List.forall_mem_cons.mpr ⟨at_ 1009 rfl rfl, List.forall_mem_cons.mpr ⟨at_ 421 rfl rfl, List.forall_mem_cons.mpr ⟨at_ 1013 rfl rfl, List.forall_mem_cons.mpr ⟨at_ 429 rfl rfl, List.forall_mem_cons.mpr ⟨at_ 1018 rfl rfl, List.forall_mem_cons.mpr ⟨at_ 433 rfl rfl, List.forall_mem_cons.mpr ⟨at_ 1023 rfl rfl, List.forall_mem_cons.mpr ⟨at_ 468 rfl rfl, List.forall_mem_cons.mpr ⟨at_ 1035 rfl rfl, List.forall_mem_cons.mpr ⟨at_ 548 rfl rfl, List.forall_mem_cons.mpr ⟨at_ 1089 rfl rfl, List.forall_mem_cons.mpr ⟨at_ 560 rfl rfl, List.forall_mem_cons.mpr ⟨at_ 1121 rfl rfl, List.forall_mem_cons.mpr ⟨at_ 568 rfl rfl, List.forall_mem_cons.mpr ⟨at_ 1125 rfl rfl, fun _ h => absurd h List.not_mem_nil⟩⟩⟩⟩⟩⟩⟩⟩⟩⟩⟩⟩⟩⟩⟩⟩⟩⟩⟩⟩⟩⟩⟩⟩
def lt_m_24 : List (Nat × Nat × Nat) := [(12, 63, 93), (12, 66, 163), (12, 67, 94), (12, 70, 165), (12, 71, 95), (12, 74, 168), (12, 75, 96), (12, 78, 169), (12, 79, 97), (12, 83, 171), (12, 86, 98), (12, 90, 172), (12, 91, 99), (12, 95, 173), (12, 96, 100), (12, 99, 174), (12, 100, 101), (12, 104, 175), (12, 105, 102), (12, 108, 177), (12, 109, 103), (12, 112, 178), (12, 113, 104), (12, 116, 183)]
set_option maxRecDepth 100000 in
theorem lt_m_i24 : ∀ q ∈ lt_m_24, Jvm.Cond.methodLink (cn_ q.1) q.2.1 (yc_ q.2.2) ∈ ww_ := List.forall_mem_cons.mpr ⟨at_ 572 rfl rfl, List.forall_mem_cons.mpr ⟨at_ 1129 rfl rfl, List.forall_mem_cons.mpr ⟨at_ 657 rfl rfl, List.forall_mem_cons.mpr ⟨at_ 1191 rfl rfl, List.forall_mem_cons.mpr ⟨at_ 672 rfl rfl, List.forall_mem_cons.mpr ⟨at_ 1199 rfl rfl, List.forall_mem_cons.mpr ⟨at_ 688 rfl rfl, List.forall_mem_cons.mpr ⟨at_ 1211 rfl rfl, List.forall_mem_cons.mpr ⟨at_ 692 rfl rfl, List.forall_mem_cons.mpr ⟨at_ 1215 rfl rfl, List.forall_mem_cons.mpr ⟨at_ 715 rfl rfl, List.forall_mem_cons.mpr ⟨at_ 1224 rfl rfl, List.forall_mem_cons.mpr ⟨at_ 728 rfl rfl, List.forall_mem_cons.mpr ⟨at_ 1228 rfl rfl, List.forall_mem_cons.mpr ⟨at_ 737 rfl rfl, List.forall_mem_cons.mpr ⟨at_ 1232 rfl rfl, List.forall_mem_cons.mpr ⟨at_ 741 rfl rfl, List.forall_mem_cons.mpr ⟨at_ 1236 rfl rfl, List.forall_mem_cons.mpr ⟨at_ 745 rfl rfl, List.forall_mem_cons.mpr ⟨at_ 1240 rfl rfl, List.forall_mem_cons.mpr ⟨at_ 774 rfl rfl, List.forall_mem_cons.mpr ⟨at_ 1248 rfl rfl, List.forall_mem_cons.mpr ⟨at_ 779 rfl rfl, List.forall_mem_cons.mpr ⟨at_ 1252 rfl rfl, fun _ h => absurd h List.not_mem_nil⟩⟩⟩⟩⟩⟩⟩⟩⟩⟩⟩⟩⟩⟩⟩⟩⟩⟩⟩⟩⟩⟩⟩⟩
def lt_m_48 : List (Nat × Nat × Nat) := [(0, 3, 1000), (0, 24, 2), (0, 40, 1001), (0, 49, 3), (0, 53, 4), (0, 74, 9), (0, 78, 10), (1, 3, 1000), (1, 18, 1002), (1, 35, 11), (1, 39, 10), (1, 43, 1001), (2, 3, 1000), (2, 11, 5), (2, 36, 186), (2, 49, 18), (2, 56, 17), (2, 60, 9), (2, 63, 19), (2, 67, 20), (2, 71, 1001), (2, 78, 184), (2, 84, 25), (2, 87, 26)]
set_option maxRecDepth 100000 in
theorem lt_m_i48 : ∀ q ∈ lt_m_48, Jvm.Cond.methodLink (cn_ q.1) q.2.1 (yc_ q.2.2) ∈ ww_ := List.forall_mem_cons.mpr ⟨at_ 216 rfl rfl, List.forall_mem_cons.mpr ⟨at_ 529 rfl rfl, List.forall_mem_cons.mpr ⟨at_ 534 rfl rfl, List.forall_mem_cons.mpr ⟨at_ 535 rfl rfl, List.forall_mem_cons.mpr ⟨at_ 539 rfl rfl, List.forall_mem_cons.mpr ⟨at_ 543 rfl rfl, List.forall_mem_cons.mpr ⟨at_ 544 rfl rfl, List.forall_mem_cons.mpr ⟨at_ 113 rfl rfl, List.forall_mem_cons.mpr ⟨at_ 114 rfl rfl, List.forall_mem_cons.mpr ⟨at_ 244 rfl rfl, List.forall_mem_cons.mpr ⟨at_ 248 rfl rfl, List.forall_mem_cons.mpr ⟨at_ 465 rfl rfl, List.forall_mem_cons.mpr ⟨at_ 332 rfl rfl, List.forall_mem_cons.mpr ⟨at_ 334 rfl rfl, List.forall_mem_cons.mpr ⟨at_ 754 rfl rfl, List.forall_mem_cons.mpr ⟨at_ 755 rfl rfl, List.forall_mem_cons.mpr ⟨at_ 768 rfl rfl, List.forall_mem_cons.mpr ⟨at_ 773 rfl rfl, List.forall_mem_cons.mpr ⟨at_ 759 rfl rfl, List.forall_mem_cons.mpr ⟨at_ 764 rfl rfl, List.forall_mem_cons.mpr ⟨at_ 772 rfl rfl, List.forall_mem_cons.mpr ⟨at_ 807 rfl rfl, List.forall_mem_cons.mpr ⟨at_ 791 rfl rfl, List.forall_mem_cons.mpr ⟨at_ 795 rfl rfl, fun _ h => absurd h List.not_mem_nil⟩⟩⟩⟩⟩⟩⟩⟩⟩⟩⟩⟩⟩⟩⟩⟩⟩⟩⟩⟩⟩⟩⟩⟩
def lt_m_72 : List (Nat × Nat × Nat) := [(3, 3, 1000), (3, 25, 5), (3, 45, 30), (3, 56, 31), (3, 59, 35), (3, 63, 44), (3, 66, 32), (3, 69, 36), (3, 73, 41), (3, 76, 33), (3, 79, 34), (3, 82, 43), (3, 85, 40), (3, 88, 38), (3, 91, 39), (3, 95, 42), (3, 102, 37), (3, 105, 52), (3, 109, 14), (3, 113, 6), (3, 121, 11), (3, 124, 10), (3, 128, 45), (3, 131, 69)]
set_option maxRecDepth 100000 in
theorem lt_m_i72 : ∀ q ∈ lt_m_72, Jvm.Cond.methodLink (cn_ q.1) q.2.1 (yc_ q.2.2) ∈ ww_ := List.forall_mem_cons.mpr ⟨at_ 289 rfl rfl, List.forall_mem_cons.mpr ⟨at_ 291 rfl rfl, List.forall_mem_cons.mpr ⟨at_ 580 rfl rfl, List.forall_mem_cons.mpr ⟨at_ 584 rfl rfl, List.forall_mem_cons.mpr ⟨at_ 596 rfl rfl, List.forall_mem_cons.mpr ⟨at_ 649 rfl rfl, List.forall_mem_cons.mpr ⟨at_ 588 rfl rfl, List.forall_mem_cons.mpr ⟨at_ 592 rfl rfl, List.forall_mem_cons.mpr ⟨at_ 608 rfl rfl, List.forall_mem_cons.mpr ⟨at_ 618 rfl rfl, List.forall_mem_cons.mpr ⟨at_ 622 rfl rfl, List.forall_mem_cons.mpr ⟨at_ 630 rfl rfl, List.forall_mem_cons.mpr ⟨at_ 644 rfl rfl, List.forall_mem_cons.mpr ⟨at_ 626 rfl rfl, List.forall_mem_cons.mpr ⟨at_ 612 rfl rfl, List.forall_mem_cons.mpr ⟨at_ 639 rfl rfl, List.forall_mem_cons.mpr ⟨at_ 600 rfl rfl, List.forall_mem_cons.mpr ⟨at_ 604 rfl rfl, List.forall_mem_cons.mpr ⟨at_ 648 rfl rfl, List.forall_mem_cons.mpr ⟨at_ 616 rfl rfl, List.forall_mem_cons.mpr ⟨at_ 617 rfl rfl, List.forall_mem_cons.mpr ⟨at_ 643 rfl rfl, List.forall_mem_cons.mpr ⟨at_ 634 rfl rfl, List.forall_mem_cons.mpr ⟨at_ 638 rfl rfl, fun _ h => absurd h List.not_mem_nil⟩⟩⟩⟩⟩⟩⟩⟩⟩⟩⟩⟩⟩⟩⟩⟩⟩⟩⟩⟩⟩⟩⟩⟩
def lt_m_96 : List (Nat × Nat × Nat) := [(4, 3, 1000), (4, 25, 186), (5, 3, 1000), (5, 19, 52), (5, 23, 8), (5, 32, 9), (6, 3, 1000), (6, 15, 61), (6, 25, 60), (6, 29, 59), (6, 38, 52), (6, 42, 9), (6, 49, 51), (6, 64, 62), (7, 3, 1000), (7, 11, 5), (7, 57, 6), (7, 69, 72), (7, 73, 64), (7, 77, 1), (7, 81, 68), (7, 85, 65), (7, 92, 67), (7, 101, 14)]
set_option maxRecDepth 100000 in
theorem lt_m_i96 : ∀ q ∈ lt_m_96, Jvm.Cond.methodLink (cn_ q.1) q.2.1 (yc_ q.2.2) ∈ ww_ := List.forall_mem_cons.mpr ⟨at_ 190 rfl rfl, List.forall_mem_cons.mpr ⟨at_ 490 rfl rfl, List.forall_mem_cons.mpr ⟨at_ 163 rfl rfl, List.forall_mem_cons.mpr ⟨at_ 665 rfl rfl, List.forall_mem_cons.mpr ⟨at_ 666 rfl rfl, List.forall_mem_cons.mpr ⟨at_ 671 rfl rfl, List.forall_mem_cons.mpr ⟨at_ 322 rfl rfl, List.forall_mem_cons.mpr ⟨at_ 701 rfl rfl, List.forall_mem_cons.mpr ⟨at_ 711 rfl rfl, List.forall_mem_cons.mpr ⟨at_ 723 rfl rfl, List.forall_mem_cons.mpr ⟨at_ 736 rfl rfl, List.forall_mem_cons.mpr ⟨at_ 710 rfl rfl, List.forall_mem_cons.mpr ⟨at_ 727 rfl rfl, List.forall_mem_cons.mpr ⟨at_ 706 rfl rfl, List.forall_mem_cons.mpr ⟨at_ 182 rfl rfl, List.forall_mem_cons.mpr ⟨at_ 184 rfl rfl, List.forall_mem_cons.mpr ⟨at_ 240 rfl rfl, List.forall_mem_cons.mpr ⟨at_ 441 rfl rfl, List.forall_mem_cons.mpr ⟨at_ 480 rfl rfl, List.forall_mem_cons.mpr ⟨at_ 525 rfl rfl, List.forall_mem_cons.mpr ⟨at_ 476 rfl rfl, List.forall_mem_cons.mpr ⟨at_ 521 rfl rfl, List.forall_mem_cons.mpr ⟨at_ 545 rfl rfl, List.forall_mem_cons.mpr ⟨at_ 481 rfl rfl, fun _ h => absurd h List.not_mem_nil⟩⟩⟩⟩⟩⟩⟩⟩⟩⟩⟩⟩⟩⟩⟩⟩⟩⟩⟩⟩⟩⟩⟩⟩
def lt_m_120 : List (Nat × Nat × Nat) := [(7, 104, 76), (7, 108, 71), (7, 117, 51), (7, 120, 73), (7, 123, 1003), (7, 129, 74), (7, 132, 75), (7, 136, 9), (7, 139, 10), (7, 143, 47), (7, 146, 77), (7, 150, 13), (7, 160, 185), (7, 166, 78), (7, 173, 48), (7, 177, 80), (7, 181, 79), (8, 3, 1000), (8, 15, 5), (8, 27, 63), (8, 34, 27), (8, 55, 106), (8, 59, 107), (8, 62, 6)]
set_option maxRecDepth 100000 in
theorem lt_m_i120 : ∀ q ∈ lt_m_120, Jvm.Cond.methodLink (cn_ q.1) q.2.1 (yc_ q.2.2) ∈ ww_ := List.forall_mem_cons.mpr ⟨at_ 482 rfl rfl, List.forall_mem_cons.mpr ⟨at_ 680 rfl rfl, List.forall_mem_cons.mpr ⟨at_ 684 rfl rfl, List.forall_mem_cons.mpr ⟨at_ 445 rfl rfl, List.forall_mem_cons.mpr ⟨at_ 449 rfl rfl, List.forall_mem_cons.mpr ⟨at_ 452 rfl rfl, List.forall_mem_cons.mpr ⟨at_ 456 rfl rfl, List.forall_mem_cons.mpr ⟨at_ 459 rfl rfl, List.forall_mem_cons.mpr ⟨at_ 460 rfl rfl, List.forall_mem_cons.mpr ⟨at_ 486 rfl rfl, List.forall_mem_cons.mpr ⟨at_ 493 rfl rfl, List.forall_mem_cons.mpr ⟨at_ 497 rfl rfl, List.forall_mem_cons.mpr ⟨at_ 506 rfl rfl, List.forall_mem_cons.mpr ⟨at_ 509 rfl rfl, List.forall_mem_cons.mpr ⟨at_ 501 rfl rfl, List.forall_mem_cons.mpr ⟨at_ 513 rfl rfl, List.forall_mem_cons.mpr ⟨at_ 517 rfl rfl, List.forall_mem_cons.mpr ⟨at_ 104 rfl rfl, List.forall_mem_cons.mpr ⟨at_ 110 rfl rfl, List.forall_mem_cons.mpr ⟨at_ 179 rfl rfl, List.forall_mem_cons.mpr ⟨at_ 286 rfl rfl, List.forall_mem_cons.mpr ⟨at_ 382 rfl rfl, List.forall_mem_cons.mpr ⟨at_ 385 rfl rfl, List.forall_mem_cons.mpr ⟨at_ 388 rfl rfl, fun _ h => absurd h List.not_mem_nil⟩⟩⟩⟩⟩⟩⟩⟩⟩⟩⟩⟩⟩⟩⟩⟩⟩⟩⟩⟩⟩⟩⟩⟩
def lt_m_144 : List (Nat × Nat × Nat) := [(8, 66, 108), (8, 70, 8), (8, 73, 9), (8, 77, 10), (8, 85, 105), (8, 99, 12), (8, 103, 64), (8, 111, 14), (8, 114, 66), (8, 118, 69), (8, 122, 109), (8, 128, 50), (8, 131, 29), (8, 135, 28), (8, 139, 53), (8, 143, 54), (8, 147, 70), (8, 153, 56), (8, 157, 57), (8, 161, 58), (8, 172, 65), (8, 176, 16), (8, 182, 7), (8, 185, 17)]
set_option maxRecDepth 100000 in
theorem lt_m_i144 : ∀ q ∈ lt_m_144, Jvm.Cond.methodLink (cn_ q.1) q.2.1 (yc_ q.2.2) ∈ ww_ := List.forall_mem_cons.mpr ⟨at_ 393 rfl rfl, List.forall_mem_cons.mpr ⟨at_ 401 rfl rfl, List.forall_mem_cons.mpr ⟨at_ 405 rfl rfl, List.forall_mem_cons.mpr ⟨at_ 409 rfl rfl, List.forall_mem_cons.mpr ⟨at_ 414 rfl rfl, List.forall_mem_cons.mpr ⟨at_ 425 rfl rfl, List.forall_mem_cons.mpr ⟨at_ 437 rfl rfl, List.forall_mem_cons.mpr ⟨at_ 461 rfl rfl, List.forall_mem_cons.mpr ⟨at_ 472 rfl rfl, List.forall_mem_cons.mpr ⟨at_ 552 rfl rfl, List.forall_mem_cons.mpr ⟨at_ 556 rfl rfl, List.forall_mem_cons.mpr ⟨at_ 564 rfl rfl, List.forall_mem_cons.mpr ⟨at_ 576 rfl rfl, List.forall_mem_cons.mpr ⟨at_ 653 rfl rfl, List.forall_mem_cons.mpr ⟨at_ 661 rfl rfl, List.forall_mem_cons.mpr ⟨at_ 667 rfl rfl, List.forall_mem_cons.mpr ⟨at_ 676 rfl rfl, List.forall_mem_cons.mpr ⟨at_ 697 rfl rfl, List.forall_mem_cons.mpr ⟨at_ 719 rfl rfl, List.forall_mem_cons.mpr ⟨at_ 732 rfl rfl, List.forall_mem_cons.mpr ⟨at_ 749 rfl rfl, List.forall_mem_cons.mpr ⟨at_ 750 rfl rfl, List.forall_mem_cons.mpr ⟨at_ 397 rfl rfl, List.forall_mem_cons.mpr ⟨at_ 778 rfl rfl, fun _ h => absurd h List.not_mem_nil⟩⟩⟩⟩⟩⟩⟩⟩⟩⟩⟩⟩⟩⟩⟩⟩⟩⟩⟩⟩⟩⟩⟩⟩
def lt_m_168 : List (Nat × Nat × Nat) := [(8, 188, 21), (8, 191, 24), (8, 195, 23), (8, 198, 22), (9, 1, 1000), (9, 121, 111), (9, 125, 114), (9, 133, 116), (9, 137, 112), (9, 141, 113), (9, 158, 125), (9, 161, 124), (9, 165, 126), (9, 168, 122), (9, 172, 123), (9, 175, 129), (9, 187, 131), (9, 191, 134), (9, 194, 132), (9, 200, 135), (9, 206, 130), (9, 210, 133), (9, 213, 136), (9, 216, 127)]
set_option maxRecDepth 100000 in
theorem lt_m_i168 : ∀ q ∈ lt_m_168, Jvm.Cond.methodLink (cn_ q.1) q.2.1 (yc_ q.2.2) ∈ ww_ := List.forall_mem_cons.mpr ⟨at_ 783 rfl rfl, List.forall_mem_cons.mpr ⟨at_ 787 rfl rfl, List.forall_mem_cons.mpr ⟨at_ 799 rfl rfl, List.forall_mem_cons.mpr ⟨at_ 803 rfl rfl, List.forall_mem_cons.mpr ⟨at_ 818 rfl rfl, List.forall_mem_cons.mpr ⟨at_ 984 rfl rfl, List.forall_mem_cons.mpr ⟨at_ 980 rfl rfl, List.forall_mem_cons.mpr ⟨at_ 993 rfl rfl, List.forall_mem_cons.mpr ⟨at_ 997 rfl rfl, List.forall_mem_cons.mpr ⟨at_ 1005 rfl rfl, List.forall_mem_cons.mpr ⟨at_ 1080 rfl rfl, List.forall_mem_cons.mpr ⟨at_ 1084 rfl rfl, List.forall_mem_cons.mpr ⟨at_ 1076 rfl rfl, List.forall_mem_cons.mpr ⟨at_ 1027 rfl rfl, List.forall_mem_cons.mpr ⟨at_ 1031 rfl rfl, List.forall_mem_cons.mpr ⟨at_ 1044 rfl rfl, List.forall_mem_cons.mpr ⟨at_ 1052 rfl rfl, List.forall_mem_cons.mpr ⟨at_ 1056 rfl rfl, List.forall_mem_cons.mpr ⟨at_ 1060 rfl rfl, List.forall_mem_cons.mpr ⟨at_ 1068 rfl rfl, List.forall_mem_cons.mpr ⟨at_ 1040 rfl rfl, List.forall_mem_cons.mpr ⟨at_ 1048 rfl rfl, List.forall_mem_cons.mpr ⟨at_ 1064 rfl rfl, List.forall_mem_cons.mpr ⟨at_ 1072 rfl rfl, fun _ h => absurd h List.not_mem_nil⟩⟩⟩⟩⟩⟩⟩⟩⟩⟩⟩⟩⟩⟩⟩⟩⟩⟩⟩⟩⟩⟩⟩⟩
def lt_m_192 : List (Nat × Nat × Nat) := [(9, 219, 138), (9, 223, 141), (9, 227, 140), (9, 231, 139), (9, 235, 142), (9, 238, 143), (9, 243, 144), (9, 252, 148), (9, 256, 150), (9, 259, 152), (9, 262, 149), (9, 281, 153), (9, 284, 155), (9, 288, 154), (9, 291, 158), (9, 294, 159), (9, 297, 156), (9, 300, 161), (9, 303, 157), (9, 306, 160), (9, 309, 151), (9, 312, 162), (9, 315, 164), (9, 318, 167)]
set_option maxRecDepth 100000 in
theorem lt_m_i192 : ∀ q ∈ lt_m_192, Jvm.Cond.methodLink (cn_ q.1) q.2.1 (yc_ q.2.2) ∈ ww_ := List.forall_mem_cons.mpr ⟨at_ 1102 rfl rfl, List.forall_mem_cons.mpr ⟨at_ 1109 rfl rfl, List.forall_mem_cons.mpr ⟨at_ 1113 rfl rfl, List.forall_mem_cons.mpr ⟨at_ 1098 rfl rfl, List.forall_mem_cons.mpr ⟨at_ 1105 rfl rfl, List.forall_mem_cons.mpr ⟨at_ 1117 rfl rfl, List.forall_mem_cons.mpr ⟨at_ 1094 rfl rfl, List.forall_mem_cons.mpr ⟨at_ 1137 rfl rfl, List.forall_mem_cons.mpr ⟨at_ 1141 rfl rfl, List.forall_mem_cons.mpr ⟨at_ 1145 rfl rfl, List.forall_mem_cons.mpr ⟨at_ 1149 rfl rfl, List.forall_mem_cons.mpr ⟨at_ 1168 rfl rfl, List.forall_mem_cons.mpr ⟨at_ 1171 rfl rfl, List.forall_mem_cons.mpr ⟨at_ 1175 rfl rfl, List.forall_mem_cons.mpr ⟨at_ 1164 rfl rfl, List.forall_mem_cons.mpr ⟨at_ 1187 rfl rfl, List.forall_mem_cons.mpr ⟨at_ 1152 rfl rfl, List.forall_mem_cons.mpr ⟨at_ 1179 rfl rfl, List.forall_mem_cons.mpr ⟨at_ 1156 rfl rfl, List.forall_mem_cons.mpr ⟨at_ 1183 rfl rfl, List.forall_mem_cons.mpr ⟨at_ 1133 rfl rfl, List.forall_mem_cons.mpr ⟨at_ 1160 rfl rfl, List.forall_mem_cons.mpr ⟨at_ 1195 rfl rfl, List.forall_mem_cons.mpr ⟨at_ 1207 rfl rfl, fun _ h => absurd h List.not_mem_nil⟩⟩⟩⟩⟩⟩⟩⟩⟩⟩⟩⟩⟩⟩⟩⟩⟩⟩⟩⟩⟩⟩⟩⟩
def lt_m_216 : List (Nat × Nat × Nat) := [(9, 321, 166), (9, 327, 170), (9, 339, 176), (9, 342, 181), (9, 346, 179), (9, 349, 182), (9, 352, 180)]
set_option maxRecDepth 100000 in
theorem lt_m_i216 : ∀ q ∈ lt_m_216, Jvm.Cond.methodLink (cn_ q.1) q.2.1 (yc_ q.2.2) ∈ ww_ := List.forall_mem_cons.mpr ⟨at_ 1203 rfl rfl, List.forall_mem_cons.mpr ⟨at_ 1220 rfl rfl, List.forall_mem_cons.mpr ⟨at_ 1244 rfl rfl, List.forall_mem_cons.mpr ⟨at_ 1256 rfl rfl, List.forall_mem_cons.mpr ⟨at_ 1260 rfl rfl, List.forall_mem_cons.mpr ⟨at_ 1264 rfl rfl, List.forall_mem_cons.mpr ⟨at_ 1268 rfl rfl, fun _ h => absurd h List.not_mem_nil⟩⟩⟩⟩⟩⟩⟩
def lt_m : List (Nat × Nat × Nat) := lt_m_0 ++ (lt_m_24 ++ (lt_m_48 ++ (lt_m_72 ++ (lt_m_96 ++ (lt_m_120 ++ (lt_m_144 ++ (lt_m_168 ++ (lt_m_192 ++ (lt_m_216)))))))))
theorem lt_m_in : ∀ q ∈ lt_m, Jvm.Cond.methodLink (cn_ q.1) q.2.1 (yc_ q.2.2) ∈ ww_ := List.forall_mem_append.mpr ⟨lt_m_i0, List.forall_mem_append.mpr ⟨lt_m_i24, List.forall_mem_append.mpr ⟨lt_m_i48, List.forall_mem_append.mpr ⟨lt_m_i72, List.forall_mem_append.mpr ⟨lt_m_i96, List.forall_mem_append.mpr ⟨lt_m_i120, List.forall_mem_append.mpr ⟨lt_m_i144, List.forall_mem_append.mpr ⟨lt_m_i168, List.forall_mem_append.mpr ⟨lt_m_i192, lt_m_i216⟩⟩⟩⟩⟩⟩⟩⟩⟩
def lt_w_0 : List (Nat × Nat × Nat) := [(8, 20, 49), (7, 31, 46), (7, 38, 0), (8, 43, 55), (8, 50, 15), (0, 61, 105), (6, 60, 105)]
set_option maxRecDepth 100000 in
theorem lt_w_i0 : ∀ q ∈ lt_w_0, ∃ host, Jvm.Cond.methodLinkNest (cn_ q.1) q.2.1 (yc_ q.2.2) host ∈ nw_ := List.forall_mem_cons.mpr ⟨⟨"StateShop", List.mem_of_getElem? (i := 0) rfl⟩, List.forall_mem_cons.mpr ⟨⟨"StateShop", List.mem_of_getElem? (i := 1) rfl⟩, List.forall_mem_cons.mpr ⟨⟨"StateShop", List.mem_of_getElem? (i := 2) rfl⟩, List.forall_mem_cons.mpr ⟨⟨"StateShop", List.mem_of_getElem? (i := 3) rfl⟩, List.forall_mem_cons.mpr ⟨⟨"StateShop", List.mem_of_getElem? (i := 4) rfl⟩, List.forall_mem_cons.mpr ⟨⟨"StateShop", List.mem_of_getElem? (i := 5) rfl⟩, List.forall_mem_cons.mpr ⟨⟨"StateShop", List.mem_of_getElem? (i := 6) rfl⟩, fun _ h => absurd h List.not_mem_nil⟩⟩⟩⟩⟩⟩⟩
def lt_w : List (Nat × Nat × Nat) := lt_w_0
theorem lt_w_in : ∀ q ∈ lt_w, ∃ host, Jvm.Cond.methodLinkNest (cn_ q.1) q.2.1 (yc_ q.2.2) host ∈ nw_ := lt_w_i0
def lt_k_0 : List (Nat × Nat × Nat) := [(12, 7, 8), (12, 10, 9), (2, 9, 1), (3, 11, 1), (7, 9, 1), (7, 29, 4), (7, 36, 0), (8, 9, 1), (8, 18, 5), (8, 25, 7), (8, 32, 3), (8, 41, 6), (8, 48, 2)]
set_option maxRecDepth 100000 in
theorem lt_k_i0 : ∀ q ∈ lt_k_0, Jvm.Cond.classLink (cn_ q.1) q.2.1 (cn_ q.2.2) ∈ ww_ := List.forall_mem_cons.mpr ⟨at_ 99 rfl rfl, List.forall_mem_cons.mpr ⟨at_ 813 rfl rfl, List.forall_mem_cons.mpr ⟨at_ 333 rfl rfl, List.forall_mem_cons.mpr ⟨at_ 290 rfl rfl, List.forall_mem_cons.mpr ⟨at_ 183 rfl rfl, List.forall_mem_cons.mpr ⟨at_ 185 rfl rfl, List.forall_mem_cons.mpr ⟨at_ 211 rfl rfl, List.forall_mem_cons.mpr ⟨at_ 107 rfl rfl, List.forall_mem_cons.mpr ⟨at_ 158 rfl rfl, List.forall_mem_cons.mpr ⟨at_ 177 rfl rfl, List.forall_mem_cons.mpr ⟨at_ 284 rfl rfl, List.forall_mem_cons.mpr ⟨at_ 317 rfl rfl, List.forall_mem_cons.mpr ⟨at_ 327 rfl rfl, fun _ h => absurd h List.not_mem_nil⟩⟩⟩⟩⟩⟩⟩⟩⟩⟩⟩⟩⟩
def lt_k : List (Nat × Nat × Nat) := lt_k_0
theorem lt_k_in : ∀ q ∈ lt_k, Jvm.Cond.classLink (cn_ q.1) q.2.1 (cn_ q.2.2) ∈ ww_ := lt_k_i0
def lt_c_0 : List (Nat × Nat × Int32) := [(2, 77, -1640531527), (9, 154, -1640531527)]
set_option maxRecDepth 100000 in
theorem lt_c_i0 : ∀ q ∈ lt_c_0, Jvm.Cond.constant (cn_ q.1) q.2.1 q.2.2 ∈ ww_ := List.forall_mem_cons.mpr ⟨at_ 763 rfl rfl, List.forall_mem_cons.mpr ⟨at_ 1088 rfl rfl, fun _ h => absurd h List.not_mem_nil⟩⟩
def lt_c : List (Nat × Nat × Int32) := lt_c_0
theorem lt_c_in : ∀ q ∈ lt_c, Jvm.Cond.constant (cn_ q.1) q.2.1 q.2.2 ∈ ww_ := lt_c_i0
def lt_d_0 : List (Nat × Nat × Int64) := [(10, 314, 6148914691236517205), (10, 316, 3689348814741910323), (10, 318, 1085102592571150095), (12, 84, 4294967295), (4, 35, -7046029254386353131), (8, 151, -1), (9, 119, 5), (9, 129, 4), (9, 131, 60), (9, 144, 3), (9, 146, -1), (9, 204, 2), (9, 241, 7), (9, 250, 97), (9, 325, 30)]
set_option maxRecDepth 100000 in
theorem lt_d_i0 : ∀ q ∈ lt_d_0, Jvm.Cond.constantLong (cn_ q.1) q.2.1 q.2.2 ∈ ww_ := List.forall_mem_cons.mpr ⟨at_ 810 rfl rfl, List.forall_mem_cons.mpr ⟨at_ 811 rfl rfl, List.forall_mem_cons.mpr ⟨at_ 812 rfl rfl, List.forall_mem_cons.mpr ⟨at_ 1272 rfl rfl, List.forall_mem_cons.mpr ⟨at_ 505 rfl rfl, List.forall_mem_cons.mpr ⟨at_ 696 rfl rfl, List.forall_mem_cons.mpr ⟨at_ 983 rfl rfl, List.forall_mem_cons.mpr ⟨at_ 987 rfl rfl, List.forall_mem_cons.mpr ⟨at_ 988 rfl rfl, List.forall_mem_cons.mpr ⟨at_ 1017 rfl rfl, List.forall_mem_cons.mpr ⟨at_ 1022 rfl rfl, List.forall_mem_cons.mpr ⟨at_ 1039 rfl rfl, List.forall_mem_cons.mpr ⟨at_ 1093 rfl rfl, List.forall_mem_cons.mpr ⟨at_ 1144 rfl rfl, List.forall_mem_cons.mpr ⟨at_ 1219 rfl rfl, fun _ h => absurd h List.not_mem_nil⟩⟩⟩⟩⟩⟩⟩⟩⟩⟩⟩⟩⟩⟩⟩
def lt_d : List (Nat × Nat × Int64) := lt_d_0
theorem lt_d_in : ∀ q ∈ lt_d, Jvm.Cond.constantLong (cn_ q.1) q.2.1 q.2.2 ∈ ww_ := lt_d_i0
theorem dc_0 : ∀ j, j < 7 → (TX0 j).1 = cn_ 0 := by
  intro j hj
  match j, hj with
  | 0, _ => rfl
  | 1, _ => rfl
  | 2, _ => rfl
  | 3, _ => rfl
  | 4, _ => rfl
  | 5, _ => rfl
  | 6, _ => rfl
  | j + 7, hj => exact absurd hj (by omega)
theorem dc_1 : ∀ j, j < 5 → (TX1 j).1 = cn_ 1 := by
  intro j hj
  match j, hj with
  | 0, _ => rfl
  | 1, _ => rfl
  | 2, _ => rfl
  | 3, _ => rfl
  | 4, _ => rfl
  | j + 5, hj => exact absurd hj (by omega)
theorem dc_2 : ∀ j, j < 7 → (TX2 j).1 = cn_ 2 := by
  intro j hj
  match j, hj with
  | 0, _ => rfl
  | 1, _ => rfl
  | 2, _ => rfl
  | 3, _ => rfl
  | 4, _ => rfl
  | 5, _ => rfl
  | 6, _ => rfl
  | j + 7, hj => exact absurd hj (by omega)
theorem dc_3 : ∀ j, j < 8 → (TX3 j).1 = cn_ 3 := by
  intro j hj
  match j, hj with
  | 0, _ => rfl
  | 1, _ => rfl
  | 2, _ => rfl
  | 3, _ => rfl
  | 4, _ => rfl
  | 5, _ => rfl
  | 6, _ => rfl
  | 7, _ => rfl
  | j + 8, hj => exact absurd hj (by omega)
theorem dc_4 : ∀ j, j < 5 → (TX4 j).1 = cn_ 4 := by
  intro j hj
  match j, hj with
  | 0, _ => rfl
  | 1, _ => rfl
  | 2, _ => rfl
  | 3, _ => rfl
  | 4, _ => rfl
  | j + 5, hj => exact absurd hj (by omega)
theorem dc_5 : ∀ j, j < 2 → (TX5 j).1 = cn_ 5 := by
  intro j hj
  match j, hj with
  | 0, _ => rfl
  | 1, _ => rfl
  | j + 2, hj => exact absurd hj (by omega)
theorem dc_6 : ∀ j, j < 1 → (TX6 j).1 = cn_ 6 := by
  intro j hj
  match j, hj with
  | 0, _ => rfl
  | j + 1, hj => exact absurd hj (by omega)
theorem dc_7 : ∀ j, j < 10 → (TX7 j).1 = cn_ 7 := by
  intro j hj
  match j, hj with
  | 0, _ => rfl
  | 1, _ => rfl
  | 2, _ => rfl
  | 3, _ => rfl
  | 4, _ => rfl
  | 5, _ => rfl
  | 6, _ => rfl
  | 7, _ => rfl
  | 8, _ => rfl
  | 9, _ => rfl
  | j + 10, hj => exact absurd hj (by omega)
theorem dc_8 : ∀ j, j < 6 → (TX8 j).1 = cn_ 8 := by
  intro j hj
  match j, hj with
  | 0, _ => rfl
  | 1, _ => rfl
  | 2, _ => rfl
  | 3, _ => rfl
  | 4, _ => rfl
  | 5, _ => rfl
  | j + 6, hj => exact absurd hj (by omega)
theorem dc_9 : ∀ j, j < 52 → (TX9 j).1 = cn_ 9 := by
  intro j hj
  match j, hj with
  | 0, _ => rfl
  | 1, _ => rfl
  | 2, _ => rfl
  | 3, _ => rfl
  | 4, _ => rfl
  | 5, _ => rfl
  | 6, _ => rfl
  | 7, _ => rfl
  | 8, _ => rfl
  | 9, _ => rfl
  | 10, _ => rfl
  | 11, _ => rfl
  | 12, _ => rfl
  | 13, _ => rfl
  | 14, _ => rfl
  | 15, _ => rfl
  | 16, _ => rfl
  | 17, _ => rfl
  | 18, _ => rfl
  | 19, _ => rfl
  | 20, _ => rfl
  | 21, _ => rfl
  | 22, _ => rfl
  | 23, _ => rfl
  | 24, _ => rfl
  | 25, _ => rfl
  | 26, _ => rfl
  | 27, _ => rfl
  | 28, _ => rfl
  | 29, _ => rfl
  | 30, _ => rfl
  | 31, _ => rfl
  | 32, _ => rfl
  | 33, _ => rfl
  | 34, _ => rfl
  | 35, _ => rfl
  | 36, _ => rfl
  | 37, _ => rfl
  | 38, _ => rfl
  | 39, _ => rfl
  | 40, _ => rfl
  | 41, _ => rfl
  | 42, _ => rfl
  | 43, _ => rfl
  | 44, _ => rfl
  | 45, _ => rfl
  | 46, _ => rfl
  | 47, _ => rfl
  | 48, _ => rfl
  | 49, _ => rfl
  | 50, _ => rfl
  | 51, _ => rfl
  | j + 52, hj => exact absurd hj (by omega)
theorem vw_ex {ci : Nat} (h : ci < 10) : ∃ q, vwCl[ci]? = some q := ⟨vwCl[ci]'h, List.getElem?_eq_getElem h⟩
