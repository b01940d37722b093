
def mq_ (x : Nat) : Prop := mf_ (mi_ x).1 (mi_ x).2.1 (mi_ x).2.2.1 (mi_ x).2.2.2 (mk_k x) (mw_ x) (np_ x)
theorem ml_0 : ∀ x ∈ ([0, 1, 2, 3, 4, 5, 6, 7, 8, 9, 10, 11, 12, 13, 14, 15, 16, 17, 18, 19, 20] : List Nat), mq_ x := List.forall_mem_cons.mpr ⟨mf_0, List.forall_mem_cons.mpr ⟨mf_1, List.forall_mem_cons.mpr ⟨mf_2, List.forall_mem_cons.mpr ⟨mf_3, List.forall_mem_cons.mpr ⟨mf_4, List.forall_mem_cons.mpr ⟨mf_5, List.forall_mem_cons.mpr ⟨mf_6, List.forall_mem_cons.mpr ⟨mf_7, List.forall_mem_cons.mpr ⟨mf_8, List.forall_mem_cons.mpr ⟨mf_9, List.forall_mem_cons.mpr ⟨mf_10, List.forall_mem_cons.mpr ⟨mf_11, List.forall_mem_cons.mpr ⟨mf_12, List.forall_mem_cons.mpr ⟨mf_13, List.forall_mem_cons.mpr ⟨mf_14, List.forall_mem_cons.mpr ⟨mf_15, List.forall_mem_cons.mpr ⟨mf_16, List.forall_mem_cons.mpr ⟨mf_17, List.forall_mem_cons.mpr ⟨mf_18, List.forall_mem_cons.mpr ⟨mf_19, List.forall_mem_cons.mpr ⟨mf_20, fun _ h => absurd h List.not_mem_nil⟩⟩⟩⟩⟩⟩⟩⟩⟩⟩⟩⟩⟩⟩⟩⟩⟩⟩⟩⟩⟩
theorem ml_21 : ∀ x ∈ ([21, 22, 23, 24, 25, 26, 27, 28, 29, 30, 31, 32, 33, 34, 35, 36, 37, 38, 39, 40, 41] : List Nat), mq_ x := List.forall_mem_cons.mpr ⟨mf_21, List.forall_mem_cons.mpr ⟨mf_22, List.forall_mem_cons.mpr ⟨mf_23, List.forall_mem_cons.mpr ⟨mf_24, List.forall_mem_cons.mpr ⟨mf_25, List.forall_mem_cons.mpr ⟨mf_26, List.forall_mem_cons.mpr ⟨mf_27, List.forall_mem_cons.mpr ⟨mf_28, List.forall_mem_cons.mpr ⟨mf_29, List.forall_mem_cons.mpr ⟨mf_30, List.forall_mem_cons.mpr ⟨mf_31, List.forall_mem_cons.mpr ⟨mf_32, List.forall_mem_cons.mpr ⟨mf_33, List.forall_mem_cons.mpr ⟨mf_34, List.forall_mem_cons.mpr ⟨mf_35, List.forall_mem_cons.mpr ⟨mf_36, List.forall_mem_cons.mpr ⟨mf_37, List.forall_mem_cons.mpr ⟨mf_38, List.forall_mem_cons.mpr ⟨mf_39, List.forall_mem_cons.mpr ⟨mf_40, List.forall_mem_cons.mpr ⟨mf_41, fun _ h => absurd h List.not_mem_nil⟩⟩⟩⟩⟩⟩⟩⟩⟩⟩⟩⟩⟩⟩⟩⟩⟩⟩⟩⟩⟩
theorem ml_42 : ∀ x ∈ ([42, 43, 44, 45, 46, 47, 48, 49, 50, 51, 52, 53, 54, 55, 56, 57, 58, 59, 60, 61, 62] : List Nat), mq_ x := List.forall_mem_cons.mpr ⟨mf_42, List.forall_mem_cons.mpr ⟨mf_43, List.forall_mem_cons.mpr ⟨mf_44, List.forall_mem_cons.mpr ⟨mf_45, List.forall_mem_cons.mpr ⟨mf_46, List.forall_mem_cons.mpr ⟨mf_47, List.forall_mem_cons.mpr ⟨mf_48, List.forall_mem_cons.mpr ⟨mf_49, List.forall_mem_cons.mpr ⟨mf_50, List.forall_mem_cons.mpr ⟨mf_51, List.forall_mem_cons.mpr ⟨mf_52, List.forall_mem_cons.mpr ⟨mf_53, List.forall_mem_cons.mpr ⟨mf_54, List.forall_mem_cons.mpr ⟨mf_55, List.forall_mem_cons.mpr ⟨mf_56, List.forall_mem_cons.mpr ⟨mf_57, List.forall_mem_cons.mpr ⟨mf_58, List.forall_mem_cons.mpr ⟨mf_59, List.forall_mem_cons.mpr ⟨mf_60, List.forall_mem_cons.mpr ⟨mf_61, List.forall_mem_cons.mpr ⟨mf_62, fun _ h => absurd h List.not_mem_nil⟩⟩⟩⟩⟩⟩⟩⟩⟩⟩⟩⟩⟩⟩⟩⟩⟩⟩⟩⟩⟩
theorem ml_63 : ∀ x ∈ ([63, 64, 65, 66, 67, 68, 69, 70, 71, 72, 73, 74, 75, 76, 77, 78, 79, 80, 81, 82, 83] : List Nat), mq_ x := List.forall_mem_cons.mpr ⟨mf_63, List.forall_mem_cons.mpr ⟨mf_64, List.forall_mem_cons.mpr ⟨mf_65, List.forall_mem_cons.mpr ⟨mf_66, List.forall_mem_cons.mpr ⟨mf_67, List.forall_mem_cons.mpr ⟨mf_68, List.forall_mem_cons.mpr ⟨mf_69, List.forall_mem_cons.mpr ⟨mf_70, List.forall_mem_cons.mpr ⟨mf_71, List.forall_mem_cons.mpr ⟨mf_72, List.forall_mem_cons.mpr ⟨mf_73, List.forall_mem_cons.mpr ⟨mf_74, List.forall_mem_cons.mpr ⟨mf_75, List.forall_mem_cons.mpr ⟨mf_76, List.forall_mem_cons.mpr ⟨mf_77, List.forall_mem_cons.mpr ⟨mf_78, List.forall_mem_cons.mpr ⟨mf_79, List.forall_mem_cons.mpr ⟨mf_80, List.forall_mem_cons.mpr ⟨mf_81, List.forall_mem_cons.mpr ⟨mf_82, List.forall_mem_cons.mpr ⟨mf_83, fun _ h => absurd h List.not_mem_nil⟩⟩⟩⟩⟩⟩⟩⟩⟩⟩⟩⟩⟩⟩⟩⟩⟩⟩⟩⟩⟩
theorem ml_84 : ∀ x ∈ ([84, 85, 86, 87, 88, 89, 90, 91, 92, 93, 94, 95, 96, 97, 98, 99, 100, 101, 102, 103, 104] : List Nat), mq_ x := List.forall_mem_cons.mpr ⟨mf_84, List.forall_mem_cons.mpr ⟨mf_85, List.forall_mem_cons.mpr ⟨mf_86, List.forall_mem_cons.mpr ⟨mf_87, List.forall_mem_cons.mpr ⟨mf_88, List.forall_mem_cons.mpr ⟨mf_89, List.forall_mem_cons.mpr ⟨mf_90, List.forall_mem_cons.mpr ⟨mf_91, List.forall_mem_cons.mpr ⟨mf_92, List.forall_mem_cons.mpr ⟨mf_93, List.forall_mem_cons.mpr ⟨mf_94, List.forall_mem_cons.mpr ⟨mf_95, List.forall_mem_cons.mpr ⟨mf_96, List.forall_mem_cons.mpr ⟨mf_97, List.forall_mem_cons.mpr ⟨mf_98, List.forall_mem_cons.mpr ⟨mf_99, List.forall_mem_cons.mpr ⟨mf_100, List.forall_mem_cons.mpr ⟨mf_101, List.forall_mem_cons.mpr ⟨mf_102, List.forall_mem_cons.mpr ⟨mf_103, List.forall_mem_cons.mpr ⟨mf_104, fun _ h => absurd h List.not_mem_nil⟩⟩⟩⟩⟩⟩⟩⟩⟩⟩⟩⟩⟩⟩⟩⟩⟩⟩⟩⟩⟩
theorem ml_105 : ∀ x ∈ ([105, 106, 107, 108, 109, 110, 111, 112, 113, 114, 115, 116, 117, 118, 119, 120, 121, 122, 123, 124, 125] : List Nat), mq_ x := List.forall_mem_cons.mpr ⟨mf_105, List.forall_mem_cons.mpr ⟨mf_106, List.forall_mem_cons.mpr ⟨mf_107, List.forall_mem_cons.mpr ⟨mf_108, List.forall_mem_cons.mpr ⟨mf_109, List.forall_mem_cons.mpr ⟨mf_110, List.forall_mem_cons.mpr ⟨mf_111, List.forall_mem_cons.mpr ⟨mf_112, List.forall_mem_cons.mpr ⟨mf_113, List.forall_mem_cons.mpr ⟨mf_114, List.forall_mem_cons.mpr ⟨mf_115, List.forall_mem_cons.mpr ⟨mf_116, List.forall_mem_cons.mpr ⟨mf_117, List.forall_mem_cons.mpr ⟨mf_118, List.forall_mem_cons.mpr ⟨mf_119, List.forall_mem_cons.mpr ⟨mf_120, List.forall_mem_cons.mpr ⟨mf_121, List.forall_mem_cons.mpr ⟨mf_122, List.forall_mem_cons.mpr ⟨mf_123, List.forall_mem_cons.mpr ⟨mf_124, List.forall_mem_cons.mpr ⟨mf_125, fun _ h => absurd h List.not_mem_nil⟩⟩⟩⟩⟩⟩⟩⟩⟩⟩⟩⟩⟩⟩⟩⟩⟩⟩⟩⟩⟩
theorem ml_126 : ∀ x ∈ ([126, 127, 128, 129, 130, 131, 132, 133, 134, 135, 136, 137, 138, 139, 140, 141, 142, 143, 144, 145, 146] : List Nat), mq_ x := List.forall_mem_cons.mpr ⟨mf_126, List.forall_mem_cons.mpr ⟨mf_127, List.forall_mem_cons.mpr ⟨mf_128, List.forall_mem_cons.mpr ⟨mf_129, List.forall_mem_cons.mpr ⟨mf_130, List.forall_mem_cons.mpr ⟨mf_131, List.forall_mem_cons.mpr ⟨mf_132, List.forall_mem_cons.mpr ⟨mf_133, List.forall_mem_cons.mpr ⟨mf_134, List.forall_mem_cons.mpr ⟨mf_135, List.forall_mem_cons.mpr ⟨mf_136, List.forall_mem_cons.mpr ⟨mf_137, List.forall_mem_cons.mpr ⟨mf_138, List.forall_mem_cons.mpr ⟨mf_139, List.forall_mem_cons.mpr ⟨mf_140, List.forall_mem_cons.mpr ⟨mf_141, List.forall_mem_cons.mpr ⟨mf_142, List.forall_mem_cons.mpr ⟨mf_143, List.forall_mem_cons.mpr ⟨mf_144, List.forall_mem_cons.mpr ⟨mf_145, List.forall_mem_cons.mpr ⟨mf_146, fun _ h => absurd h List.not_mem_nil⟩⟩⟩⟩⟩⟩⟩⟩⟩⟩⟩⟩⟩⟩⟩⟩⟩⟩⟩⟩⟩
theorem ml_147 : ∀ x ∈ ([147, 148, 149, 150, 151, 152, 153, 154, 155, 156, 157, 158, 159, 160, 161, 162, 163, 164, 165, 166, 167] : List Nat), mq_ x := List.forall_mem_cons.mpr ⟨mf_147, List.forall_mem_cons.mpr ⟨mf_148, List.forall_mem_cons.mpr ⟨mf_149, List.forall_mem_cons.mpr ⟨mf_150, List.forall_mem_cons.mpr ⟨mf_151, List.forall_mem_cons.mpr ⟨mf_152, List.forall_mem_cons.mpr ⟨mf_153, List.forall_mem_cons.mpr ⟨mf_154, List.forall_mem_cons.mpr ⟨mf_155, List.forall_mem_cons.mpr ⟨mf_156, List.forall_mem_cons.mpr ⟨mf_157, List.forall_mem_cons.mpr ⟨mf_158, List.forall_mem_cons.mpr ⟨mf_159, List.forall_mem_cons.mpr ⟨mf_160, List.forall_mem_cons.mpr ⟨mf_161, List.forall_mem_cons.mpr ⟨mf_162, List.forall_mem_cons.mpr ⟨mf_163, List.forall_mem_cons.mpr ⟨mf_164, List.forall_mem_cons.mpr ⟨mf_165, List.forall_mem_cons.mpr ⟨mf_166, List.forall_mem_cons.mpr ⟨mf_167, fun _ h => absurd h List.not_mem_nil⟩⟩⟩⟩⟩⟩⟩⟩⟩⟩⟩⟩⟩⟩⟩⟩⟩⟩⟩⟩⟩
theorem ml_168 : ∀ x ∈ ([168, 169, 170, 171, 172, 173, 174, 175, 176, 177, 178, 179, 180, 181, 182, 183, 184, 185, 186] : List Nat), mq_ x := List.forall_mem_cons.mpr ⟨mf_168, List.forall_mem_cons.mpr ⟨mf_169, List.forall_mem_cons.mpr ⟨mf_170, List.forall_mem_cons.mpr ⟨mf_171, List.forall_mem_cons.mpr ⟨mf_172, List.forall_mem_cons.mpr ⟨mf_173, List.forall_mem_cons.mpr ⟨mf_174, List.forall_mem_cons.mpr ⟨mf_175, List.forall_mem_cons.mpr ⟨mf_176, List.forall_mem_cons.mpr ⟨mf_177, List.forall_mem_cons.mpr ⟨mf_178, List.forall_mem_cons.mpr ⟨mf_179, List.forall_mem_cons.mpr ⟨mf_180, List.forall_mem_cons.mpr ⟨mf_181, List.forall_mem_cons.mpr ⟨mf_182, List.forall_mem_cons.mpr ⟨mf_183, List.forall_mem_cons.mpr ⟨mf_184, List.forall_mem_cons.mpr ⟨mf_185, List.forall_mem_cons.mpr ⟨mf_186, fun _ h => absurd h List.not_mem_nil⟩⟩⟩⟩⟩⟩⟩⟩⟩⟩⟩⟩⟩⟩⟩⟩⟩⟩⟩
theorem ml_all : ∀ x ∈ ([0, 1, 2, 3, 4, 5, 6, 7, 8, 9, 10, 11, 12, 13, 14, 15, 16, 17, 18, 19, 20] : List Nat) ++ (([21, 22, 23, 24, 25, 26, 27, 28, 29, 30, 31, 32, 33, 34, 35, 36, 37, 38, 39, 40, 41] : List Nat) ++ (([42, 43, 44, 45, 46, 47, 48, 49, 50, 51, 52, 53, 54, 55, 56, 57, 58, 59, 60, 61, 62] : List Nat) ++ (([63, 64, 65, 66, 67, 68, 69, 70, 71, 72, 73, 74, 75, 76, 77, 78, 79, 80, 81, 82, 83] : List Nat) ++ (([84, 85, 86, 87, 88, 89, 90, 91, 92, 93, 94, 95, 96, 97, 98, 99, 100, 101, 102, 103, 104] : List Nat) ++ (([105, 106, 107, 108, 109, 110, 111, 112, 113, 114, 115, 116, 117, 118, 119, 120, 121, 122, 123, 124, 125] : List Nat) ++ (([126, 127, 128, 129, 130, 131, 132, 133, 134, 135, 136, 137, 138, 139, 140, 141, 142, 143, 144, 145, 146] : List Nat) ++ (([147, 148, 149, 150, 151, 152, 153, 154, 155, 156, 157, 158, 159, 160, 161, 162, 163, 164, 165, 166, 167] : List Nat) ++ (([168, 169, 170, 171, 172, 173, 174, 175, 176, 177, 178, 179, 180, 181, 182, 183, 184, 185, 186] : List Nat))))))))), mq_ x := List.forall_mem_append.mpr ⟨ml_0, List.forall_mem_append.mpr ⟨ml_21, List.forall_mem_append.mpr ⟨ml_42, List.forall_mem_append.mpr ⟨ml_63, List.forall_mem_append.mpr ⟨ml_84, List.forall_mem_append.mpr ⟨ml_105, List.forall_mem_append.mpr ⟨ml_126, List.forall_mem_append.mpr ⟨ml_147, ml_168⟩⟩⟩⟩⟩⟩⟩⟩
theorem mf_all {x : Nat} (hx : x < 187) : mq_ x := ml_all x (by rw [show ([0, 1, 2, 3, 4, 5, 6, 7, 8, 9, 10, 11, 12, 13, 14, 15, 16, 17, 18, 19, 20] : List Nat) ++ (([21, 22, 23, 24, 25, 26, 27, 28, 29, 30, 31, 32, 33, 34, 35, 36, 37, 38, 39, 40, 41] : List Nat) ++ (([42, 43, 44, 45, 46, 47, 48, 49, 50, 51, 52, 53, 54, 55, 56, 57, 58, 59, 60, 61, 62] : List Nat) ++ (([63, 64, 65, 66, 67, 68, 69, 70, 71, 72, 73, 74, 75, 76, 77, 78, 79, 80, 81, 82, 83] : List Nat) ++ (([84, 85, 86, 87, 88, 89, 90, 91, 92, 93, 94, 95, 96, 97, 98, 99, 100, 101, 102, 103, 104] : List Nat) ++ (([105, 106, 107, 108, 109, 110, 111, 112, 113, 114, 115, 116, 117, 118, 119, 120, 121, 122, 123, 124, 125] : List Nat) ++ (([126, 127, 128, 129, 130, 131, 132, 133, 134, 135, 136, 137, 138, 139, 140, 141, 142, 143, 144, 145, 146] : List Nat) ++ (([147, 148, 149, 150, 151, 152, 153, 154, 155, 156, 157, 158, 159, 160, 161, 162, 163, 164, 165, 166, 167] : List Nat) ++ (([168, 169, 170, 171, 172, 173, 174, 175, 176, 177, 178, 179, 180, 181, 182, 183, 184, 185, 186] : List Nat))))))))) = List.range 187 from by decide +kernel]; exact List.mem_range.mpr hx)
def lz_ (h h' : hp_) : Prop := hp_z h ≤ hp_z h' ∧ hp_s h ≤ hp_s h'
theorem lz_r (h : hp_) : lz_ h h := ⟨Nat.le_refl _, Nat.le_refl _⟩
theorem lz_t {a b c : hp_} (h1 : lz_ a b) (h2 : lz_ b c) : lz_ a c := ⟨Nat.le_trans h1.1 h2.1, Nat.le_trans h1.2 h2.2⟩
def pz_ (h : hp_) (o : re_) : Prop := ∀ r, o = some r → lz_ h r.2
/-- cells only come -/
theorem mz_st (xs : Nat → Int32) (L : Nat) (sw : Nat → List (Int × Nat)) (e : en_) (pc : Nat) (ls : lo_) (st : List Value) (h : hp_) {k : Nat → lo_ → List Value → hp_ → re_} {ck : Nat → List Value → hp_ → re_} (hk : ∀ pc ls st h', pz_ h' (k pc ls st h')) (hc : ∀ m as h', pz_ h' (ck m as h')) :
    pz_ h (st_ xs L sw e pc ls st h none (fun v h => some (v, h)) k (fun m as h f => op_o (ck m as h) none fun p => f p.1 p.2)) := by
  have P0 : pz_ h none := fun _ q => by cases q
  have Pk : ∀ pc ls st h', lz_ h h' → pz_ h (k pc ls st h') := fun pc ls st h' q r hr => lz_t q (hk pc ls st h' r hr)
  have Pk0 : ∀ pc ls st, pz_ h (k pc ls st h) := fun pc ls st => Pk pc ls st h (lz_r h)
  have G : re_ → re_ → Prop := fun a _ => pz_ h a
  obtain ⟨op, e⟩ := e
  unfold st_
  match op with
  | 0 | 1 | 12 => exact Pk0 _ _ _
  | 21 => exact Pk _ _ _ _ ⟨Nat.le_succ _, Nat.le_add_right _ _⟩
  | 2 => exact pa_o (G := fun (a _ : re_) => pz_ h a) (fm := none) (g := fun _ => none) _ P0 fun _ => pa_ty (G := fun (a _ : re_) => pz_ h a) (fm := none) (g := fun _ => none) _ _ P0 fun _ => Pk0 _ _ _
  | 3 => exact pa_p (G := fun (a _ : re_) => pz_ h a) (fm := none) (g := fun _ _ => none) _ P0 fun _ _ => pa_ty (G := fun (a _ : re_) => pz_ h a) (fm := none) (g := fun _ => none) _ _ P0 fun _ => Pk0 _ _ _
  | 4 => exact pa_o (G := fun (a _ : re_) => pz_ h a) (fm := none) (g := fun _ => none) _ P0 fun _ => pa_i (G := fun (a _ : re_) => pz_ h a) (fm := none) (g := fun _ => none) _ P0 fun _ => Pk0 _ _ _
  | 5 => exact pa_pi (G := fun (a _ : re_) => pz_ h a) (fm := none) (g := fun _ _ => none) _ P0 fun _ _ => pa_pi (G := fun (a _ : re_) => pz_ h a) (fm := none) (g := fun _ _ => none) _ P0 fun _ _ => pa_ib (G := fun (a _ : re_) => pz_ h a) (fm := none) (g := fun _ => none) _ _ _ P0 fun _ => Pk0 _ _ _
  | 6 => exact pa_pl (G := fun (a _ : re_) => pz_ h a) (fm := none) (g := fun _ _ => none) _ P0 fun _ _ => pa_pl (G := fun (a _ : re_) => pz_ h a) (fm := none) (g := fun _ _ => none) _ P0 fun _ _ => pa_lb (G := fun (a _ : re_) => pz_ h a) (fm := none) (g := fun _ => none) _ _ _ P0 fun _ => Pk0 _ _ _
  | 7 => exact pa_pi (G := fun (a _ : re_) => pz_ h a) (fm := none) (g := fun _ _ => none) _ P0 fun _ _ => pa_pl (G := fun (a _ : re_) => pz_ h a) (fm := none) (g := fun _ _ => none) _ P0 fun _ _ => pa_ls (G := fun (a _ : re_) => pz_ h a) (fm := none) (g := fun _ => none) _ _ _ P0 fun _ => Pk0 _ _ _
  | 8 => exact pa_p (G := fun (a _ : re_) => pz_ h a) (fm := none) (g := fun _ _ => none) _ P0 fun _ _ => pa_cv (G := fun (a _ : re_) => pz_ h a) (fm := none) (g := fun _ => none) _ _ P0 fun _ => Pk0 _ _ _
  | 9 => exact pa_pl (G := fun (a _ : re_) => pz_ h a) (fm := none) (g := fun _ _ => none) _ P0 fun _ _ => pa_pl (G := fun (a _ : re_) => pz_ h a) (fm := none) (g := fun _ _ => none) _ P0 fun _ _ => Pk0 _ _ _
  | 10 => exact pa_pi (G := fun (a _ : re_) => pz_ h a) (fm := none) (g := fun _ _ => none) _ P0 fun _ _ => pa_cc (G := fun (a _ : re_) => pz_ h a) (fm := none) (gt := none) (gf := none) _ _ _ P0 (Pk0 _ _ _) (Pk0 _ _ _)
  | 11 => exact pa_pi (G := fun (a _ : re_) => pz_ h a) (fm := none) (g := fun _ _ => none) _ P0 fun _ _ => pa_pi (G := fun (a _ : re_) => pz_ h a) (fm := none) (g := fun _ _ => none) _ P0 fun _ _ => pa_cc (G := fun (a _ : re_) => pz_ h a) (fm := none) (gt := none) (gf := none) _ _ _ P0 (Pk0 _ _ _) (Pk0 _ _ _)
  | 13 => exact pa_pr (G := fun (a _ : re_) => pz_ h a) (fm := none) (g := fun _ _ => none) _ P0 fun _ _ => pa_if (G := fun (a _ : re_) => pz_ h a) (a' := none) (b' := none) _ (pa_gf (G := fun (a _ : re_) => pz_ h a) (fm := none) (g := fun _ => none) _ _ _ _ P0 fun _ => Pk0 _ _ _) P0
  | 14 =>
    intro r hr
    obtain ⟨v, t, rfl, hr⟩ := iv_p hr
    obtain ⟨a, t, rfl, hr⟩ := iv_pr hr
    obtain ⟨-, hr⟩ := iv_t hr
    revert hr
    generalize e.2.2.2.1 = z
    intro hr
    match z, hr with
    | 0, hr => obtain ⟨n, rfl, hr⟩ := iv_i hr; exact Pk _ _ _ (hp_sI h a e.2.2.1 n) (lz_r h) r hr
    | 1, hr => obtain ⟨n, rfl, hr⟩ := iv_i hr; obtain ⟨-, hr⟩ := iv_t hr; exact Pk _ _ _ (hp_sI h a e.2.2.1 n) (lz_r h) r hr
    | 2, hr => obtain ⟨n, rfl, hr⟩ := iv_r hr; obtain ⟨-, hr⟩ := iv_t hr; exact Pk _ _ _ (hp_sR h a e.2.2.1 n) (lz_r h) r hr
    | z + 3, hr => cases hr
  | 15 => exact pa_pi (G := fun (a _ : re_) => pz_ h a) (fm := none) (g := fun _ _ => none) _ P0 fun _ _ => pa_pr (G := fun (a _ : re_) => pz_ h a) (fm := none) (g := fun _ _ => none) _ P0 fun _ _ => pa_al (G := fun (a _ : re_) => pz_ h a) (fm := none) (g := fun _ => none) _ _ _ _ P0 fun _ => Pk0 _ _ _
  | 16 =>
    intro r hr
    obtain ⟨v, t, rfl, hr⟩ := iv_p hr
    obtain ⟨i, t, rfl, hr⟩ := iv_pi hr
    obtain ⟨a, t, rfl, hr⟩ := iv_pr hr
    obtain ⟨-, hr⟩ := iv_t hr
    obtain ⟨-, hr⟩ := iv_f hr
    revert hr
    generalize e.2.1 = z
    intro hr
    match z, hr with
    | 0, hr => cases hr
    | 1, hr => obtain ⟨n, rfl, hr⟩ := iv_i hr; exact Pk _ _ _ (hp_sI h a i.toNatClampNeg n) (lz_r h) r hr
    | 2, hr => obtain ⟨n, rfl, hr⟩ := iv_i hr; exact Pk _ _ _ (hp_sI h a i.toNatClampNeg (vp_nar .boolean n)) (lz_r h) r hr
    | 3, hr => obtain ⟨n, rfl, hr⟩ := iv_i hr; exact Pk _ _ _ (hp_sI h a i.toNatClampNeg (vp_nar .byte n)) (lz_r h) r hr
    | 4, hr => obtain ⟨n, rfl, hr⟩ := iv_l hr; exact Pk _ _ _ (hp_sL h a i.toNatClampNeg n) (lz_r h) r hr
    | 5, hr => obtain ⟨n, rfl, hr⟩ := iv_r hr; obtain ⟨-, hr⟩ := iv_t hr; exact Pk _ _ _ (hp_sR h a i.toNatClampNeg n) (lz_r h) r hr
    | z + 6, hr => cases hr
  | 17 => exact pa_pr (G := fun (a _ : re_) => pz_ h a) (fm := none) (g := fun _ _ => none) _ P0 fun _ _ => pa_if (G := fun (a _ : re_) => pz_ h a) (a' := none) (b' := none) _ (Pk0 _ _ _) P0
  | 18 | 19 => exact pa_p (G := fun (a _ : re_) => pz_ h a) (fm := none) (g := fun _ _ => none) _ P0 fun _ _ => pa_if (G := fun (a _ : re_) => pz_ h a) (a' := none) (b' := none) _ (Pk0 _ _ _) P0
  | 20 => exact pa_p (G := fun (a _ : re_) => pz_ h a) (fm := none) (g := fun _ _ => none) _ P0 fun _ _ => pa_p (G := fun (a _ : re_) => pz_ h a) (fm := none) (g := fun _ _ => none) _ P0 fun _ _ => pa_if (G := fun (a _ : re_) => pz_ h a) (a' := none) (b' := none) _ (Pk0 _ _ _) P0
  | 22 => exact pa_pi (G := fun (a _ : re_) => pz_ h a) (fm := none) (g := fun _ _ => none) _ P0 fun _ _ => pa_if (G := fun (a _ : re_) => pz_ h a) (a' := none) (b' := none) _ P0 (Pk _ _ _ _ ⟨Nat.le_succ _, Nat.le_add_right _ _⟩)
  | 23 => exact P0
  | 24 =>
    intro r hr
    obtain ⟨-, hr⟩ := iv_t hr
    have hr2 : ∃ q, ck e.2.1 (st.take e.2.2.1).reverse h = some q ∧ mk_rv e.2.2.2.1 q.1 (st.drop e.2.2.1) none (fun st => k (pc + e.1) ls st q.2) = some r := by
      unfold mk_rc at hr
      by_cases hw : e.2.2.2.2 < 0
      · rw [if_pos hw] at hr
        exact iv_o hr
      · rw [if_neg hw] at hr
        obtain ⟨v, t, -, hr⟩ := iv_p hr
        obtain ⟨a, -, hr⟩ := iv_r hr
        obtain ⟨-, hr⟩ := iv_t hr
        exact iv_o hr
    obtain ⟨q, hq, hr⟩ := hr2
    have hl := hc _ _ _ _ hq
    exact pa_rv (G := fun (a _ : re_) => pz_ h a) (fm := none) (g := fun _ => none) _ _ _ P0 (fun _ => Pk _ _ _ q.2 hl) r hr
  | 25 => exact pa_pr (G := fun (a _ : re_) => pz_ h a) (fm := none) (g := fun _ _ => none) _ P0 fun _ _ => pa_if (G := fun (a _ : re_) => pz_ h a) (a' := none) (b' := none) _ (Pk0 _ _ _) P0
  | 26 => exact pa_pi (G := fun (a _ : re_) => pz_ h a) (fm := none) (g := fun _ _ => none) _ P0 fun _ _ => pa_pi (G := fun (a _ : re_) => pz_ h a) (fm := none) (g := fun _ _ => none) _ P0 fun _ _ => pa_pr (G := fun (a _ : re_) => pz_ h a) (fm := none) (g := fun _ _ => none) _ P0 fun a _ => pa_pi (G := fun (a _ : re_) => pz_ h a) (fm := none) (g := fun _ _ => none) _ P0 fun _ _ => pa_pr (G := fun (a _ : re_) => pz_ h a) (fm := none) (g := fun _ _ => none) _ P0 fun a0 _ => pa_if (G := fun (a _ : re_) => pz_ h a) (a' := none) (b' := none) _ (Pk _ _ _ (hp_cp h a0 _ a _ _) (lz_r h)) P0
  | 27 => exact pa_p (G := fun (a _ : re_) => pz_ h a) (fm := none) (g := fun _ _ => none) _ P0 fun _ _ => pa_e (G := fun (a _ : re_) => pz_ h a) (fm := none) (g := none) _ P0 (pa_rt (G := fun (a _ : re_) => pz_ h a) (fm := none) (g := fun _ => none) _ _ P0 fun _ => fun r q => by cases q; exact lz_r h)
  | 28 | 29 => exact pa_pi (G := fun (a _ : re_) => pz_ h a) (fm := none) (g := fun _ _ => none) _ P0 fun _ _ => pa_pi (G := fun (a _ : re_) => pz_ h a) (fm := none) (g := fun _ _ => none) _ P0 fun _ _ => pa_if (G := fun (a _ : re_) => pz_ h a) (a' := none) (b' := none) _ (Pk0 _ _ _) P0
  | 30 => exact pa_e (G := fun (a _ : re_) => pz_ h a) (fm := none) (g := none) _ P0 (fun r q => by cases q; exact lz_r h)
  | 31 => exact pa_pi (G := fun (a _ : re_) => pz_ h a) (fm := none) (g := fun _ _ => none) _ P0 fun _ _ => pa_sw (G := fun (a _ : re_) => pz_ h a) (g := fun _ => none) _ _ _ fun _ => Pk0 _ _ _
  | 32 => exact pa_pi (G := fun (a _ : re_) => pz_ h a) (fm := none) (g := fun _ _ => none) _ P0 fun _ _ => pa_pr (G := fun (a _ : re_) => pz_ h a) (fm := none) (g := fun _ _ => none) _ P0 fun _ _ => pa_if (G := fun (a _ : re_) => pz_ h a) (a' := none) (b' := none) _ (pa_if (G := fun (a _ : re_) => pz_ h a) (a' := none) (b' := none) _ P0 (Pk0 _ _ _)) P0
  | 33 => exact pa_pr (G := fun (a _ : re_) => pz_ h a) (fm := none) (g := fun _ _ => none) _ P0 fun _ _ => pa_if (G := fun (a _ : re_) => pz_ h a) (a' := none) (b' := none) _ (Pk0 _ _ _) P0
  | _ + 34 => exact P0
theorem mz_sg (xs : Nat → Int32) (L : Nat) (mt : mt_) {ck : Nat → List Value → hp_ → re_} {k : Nat → lo_ → List Value → hp_ → re_} (hk : ∀ pc ls st h', pz_ h' (k pc ls st h')) (hc : ∀ m as h', pz_ h' (ck m as h')) : ∀ n pc ls st h, pz_ h (sg_ xs L mt ck k n pc ls st h) := by
  intro n
  induction n with
  | zero => exact fun _ _ _ _ _ q => by cases q
  | succ n ih => exact fun pc ls st h => mz_st xs L mt.2.2.1 _ pc ls st h (fun pc ls st h' => pa_o (G := fun (a _ : re_) => pz_ h' a) (fm := none) (g := fun _ => none) _ (ih _ _ _ _) fun _ => hk _ _ _ _) hc
theorem mz_rn (xs : Nat → Int32) (L : Nat) (mt : mt_) {ck : Nat → List Value → hp_ → re_} (hc : ∀ m as h', pz_ h' (ck m as h')) : ∀ n pc ls st h, pz_ h (rn_ xs L mt ck n pc ls st h) := by
  intro n
  induction n with
  | zero => exact fun _ _ _ _ _ q => by cases q
  | succ n ih => exact fun pc ls st h => mz_sg xs L mt ih hc _ _ _ _ _
theorem mz_ev (xs : Nat → Int32) (L : Nat) (P : Nat → mt_) : ∀ d m pc ls st h, pz_ h (ev_ xs L P d m pc ls st h) := by
  intro d
  induction d with
  | zero => exact fun _ _ _ _ _ _ q => by cases q
  | succ d ih =>
    intro m pc ls st h r hr
    obtain ⟨n, hn⟩ := lm_ex (f := fun n => rn_ xs L (P m) (fun m as h => if mk_ca as ≤ (P m).2.2.2 then ev_ xs L P d m 0 (lv_args 0 as) [] h else none) n pc ls st h) hr
    exact mz_rn xs L (P m) (fun _ _ h' => pa_if (G := fun (a _ : re_) => pz_ h' a) (a' := none) (b' := none) _ (ih _ _ _ _ _) (fun _ q => by cases q)) n _ _ _ _ r hn
