theorem by_ty {ρ : Type} {r : ρ} {y : Nat} {v : Value} {f : Value → Option ρ} (hh : mk_ty y v none f = some r) : ∃ u, mk_ty y v none (fun u => some u) = some u ∧ f u = some r := pa_ty (G := fun (a : Option ρ) (b : Option Value) => a = some r → ∃ u, b = some u ∧ f u = some r) _ _ (fun q => by cases q) (fun a q => ⟨a, rfl, q⟩) hh
theorem by_ib {ρ : Type} {r : ρ} {x : Nat} {a b : Int32} {f : Int32 → Option ρ} (hh : mk_ib x a b none f = some r) : ∃ u, mk_ib x a b none (fun u => some u) = some u ∧ f u = some r := pa_ib (G := fun (a : Option ρ) (b : Option Int32) => a = some r → ∃ u, b = some u ∧ f u = some r) _ _ _ (fun q => by cases q) (fun a q => ⟨a, rfl, q⟩) hh
theorem by_lb {ρ : Type} {r : ρ} {x : Nat} {a b : Int64} {f : Int64 → Option ρ} (hh : mk_lb x a b none f = some r) : ∃ u, mk_lb x a b none (fun u => some u) = some u ∧ f u = some r := pa_lb (G := fun (a : Option ρ) (b : Option Int64) => a = some r → ∃ u, b = some u ∧ f u = some r) _ _ _ (fun q => by cases q) (fun a q => ⟨a, rfl, q⟩) hh
theorem by_ls {ρ : Type} {r : ρ} {x : Nat} {a : Int64} {b : Int32} {f : Int64 → Option ρ} (hh : mk_ls x a b none f = some r) : ∃ u, mk_ls x a b none (fun u => some u) = some u ∧ f u = some r := pa_ls (G := fun (a : Option ρ) (b : Option Int64) => a = some r → ∃ u, b = some u ∧ f u = some r) _ _ _ (fun q => by cases q) (fun a q => ⟨a, rfl, q⟩) hh
theorem by_cv {ρ : Type} {r : ρ} {x : Nat} {v : Value} {f : Value → Option ρ} (hh : mk_cv x v none f = some r) : ∃ u, mk_cv x v none (fun u => some u) = some u ∧ f u = some r := pa_cv (G := fun (a : Option ρ) (b : Option Value) => a = some r → ∃ u, b = some u ∧ f u = some r) _ _ (fun q => by cases q) (fun a q => ⟨a, rfl, q⟩) hh
theorem by_gf {ρ : Type} {r : ρ} {z : Nat} {h : hp_} {c k : Nat} {f : Value → Option ρ} (hh : mk_gf z h c k none f = some r) : ∃ u, mk_gf z h c k none (fun u => some u) = some u ∧ f u = some r := pa_gf (G := fun (a : Option ρ) (b : Option Value) => a = some r → ∃ u, b = some u ∧ f u = some r) _ _ _ _ (fun q => by cases q) (fun a q => ⟨a, rfl, q⟩) hh
theorem by_pf {ρ : Type} {r : ρ} {z : Nat} {w : Int} {h : hp_} {c k : Nat} {v : Value} {f : hp_ → Option ρ} (hh : mk_pf z w h c k v none f = some r) : ∃ u, mk_pf z w h c k v none (fun u => some u) = some u ∧ f u = some r := pa_pf (G := fun (a : Option ρ) (b : Option hp_) => a = some r → ∃ u, b = some u ∧ f u = some r) _ _ _ _ _ _ (fun q => by cases q) (fun a q => ⟨a, rfl, q⟩) hh
theorem by_al {ρ : Type} {r : ρ} {x : Nat} {h : hp_} {a : Nat} {i : Int32} {f : Value → Option ρ} (hh : mk_al x h a i none f = some r) : ∃ u, mk_al x h a i none (fun u => some u) = some u ∧ f u = some r := pa_al (G := fun (a : Option ρ) (b : Option Value) => a = some r → ∃ u, b = some u ∧ f u = some r) _ _ _ _ (fun q => by cases q) (fun a q => ⟨a, rfl, q⟩) hh
theorem by_as {ρ : Type} {r : ρ} {x y : Nat} {h : hp_} {v : Value} {a : Nat} {i : Int32} {f : hp_ → Option ρ} (hh : mk_as x y h v a i none f = some r) : ∃ u, mk_as x y h v a i none (fun u => some u) = some u ∧ f u = some r := pa_as (G := fun (a : Option ρ) (b : Option hp_) => a = some r → ∃ u, b = some u ∧ f u = some r) _ _ _ _ _ _ (fun q => by cases q) (fun a q => ⟨a, rfl, q⟩) hh
theorem by_rt {ρ : Type} {r : ρ} {x : Nat} {v : Value} {f : Value → Option ρ} (hh : mk_rt x v none f = some r) : ∃ u, mk_rt x v none (fun u => some u) = some u ∧ f u = some r := pa_rt (G := fun (a : Option ρ) (b : Option Value) => a = some r → ∃ u, b = some u ∧ f u = some r) _ _ (fun q => by cases q) (fun a q => ⟨a, rfl, q⟩) hh
theorem by_rv {ρ : Type} {r : ρ} {z : Nat} {v : Option Value} {rest : List Value} {f : (List Value) → Option ρ} (hh : mk_rv z v rest none f = some r) : ∃ u, mk_rv z v rest none (fun u => some u) = some u ∧ f u = some r := pa_rv (G := fun (a : Option ρ) (b : Option (List Value)) => a = some r → ∃ u, b = some u ∧ f u = some r) _ _ _ (fun q => by cases q) (fun a q => ⟨a, rfl, q⟩) hh
theorem by_rc {ρ : Type} {r : ρ} {w : Int} {h : hp_} {as : List Value} {f : Option ρ} (hr : mk_rc w h as none f = some r) : mk_rc w h as none (some ()) = some () ∧ f = some r := pa_rc (G := fun (a : Option ρ) (b : Option Unit) => a = some r → b = some () ∧ f = some r) _ _ _ (fun q => by cases q) (fun q => ⟨rfl, q⟩) hr
section SM
variable {p : Program} {l : Launch} {e : Env} {R : Room} {s : State} {m : MethodId} {args : Array Value} {below : List Frame} {meth : Method} {c : Code} {Q : State → Prop}
variable {bs b L nL z0 s0 : Nat} {xs : Nat → Int32} {D : va_G} {cA : Nat → ClassId} {o kd : Nat} {cc : ByteArray} {rt : Option FieldType}
theorem so_st (C : cx_ p s m args meth c bs b L nL z0 xs D cA o kd cc) {d pc ln : Nat} {i : Instr} {ls : lo_} {st : List Value} {h : hp_} {sw : Nat → List (Int × Nat)} {en : en_} {k : Nat → lo_ → List Value → hp_ → re_} {ck : Nat → List Value → hp_ → re_} {r : Option Value × hp_}
    (hd : decode cc pc = .ok (i, ln)) (hc : ch_ o kd rt nL sw pc i ln en = true) (hRf : d + 1 ≤ R.frames) (hRl : 100 * d + 100 ≤ R.locals) (hRz : hp_z r.2 ≤ z0 + R.cells) (hRs : hp_s r.2 ≤ s0 + R.slots)
    (hck : ∀ x as h v h', x < 187 → ck x as h = some (v, h') → ms_ l bs b L xs D cA d x as h v h') (hcm : ∀ x as h, pz_ h (ck x as h)) (hkm : ∀ pc ls st h, pz_ h (k pc ls st h))
    (hk : ∀ pc ls st h, k pc ls st h = some r → go_ p l e R s m args below meth c Q bs b nL D cA z0 s0 pc ls st h) (hg : gx_ p l e R s m args below meth c Q bs b D cA z0 s0 cc rt r.1 r.2)
    (hs : st_ xs L sw en pc ls st h none (fun v h => some (v, h)) k (fun m as h f => op_o (ck m as h) none fun p => f p.1 p.2) = some r) : go_ p l e R s m args below meth c Q bs b nL D cA z0 s0 pc ls st h := by
  have hmz : lz_ h r.2 := mz_st xs L sw en pc ls st h hkm hcm r hs
  obtain ⟨op, len, x, y, z, w⟩ := en
  unfold ch_ at hc
  rw [Bool.and_eq_true, beq_iff_eq] at hc
  obtain ⟨hln, hc⟩ := hc
  have hln : ln = len := hln
  subst hln
  match op, hc, hs with
  | 0, hc, hs => exact so_0 C hd hc (hk _ _ _ _ hs)
  | 1, hc, hs => exact so_1 C hd hc (hk _ _ _ _ hs)
  | 2, hc, hs =>
    obtain ⟨v, hv, g_1⟩ := iv_o hs
    obtain ⟨u, hu, g_2⟩ := by_ty g_1
    exact so_2 C hd hc hv hu (hk _ _ _ _ g_2)
  | 3, hc, hs =>
    obtain ⟨v, t, rfl, g_1⟩ := iv_p hs
    obtain ⟨u, hu, g_2⟩ := by_ty g_1
    exact so_3 C hd hc hu (hk _ _ _ _ g_2)
  | 4, hc, hs =>
    obtain ⟨v, hv, g_1⟩ := iv_o hs
    obtain ⟨a, rfl, g_2⟩ := iv_i g_1
    exact so_4 C hd hc hv (hk _ _ _ _ g_2)
  | 5, hc, hs =>
    obtain ⟨v, t, rfl, g_1⟩ := iv_pi hs
    obtain ⟨a, t, rfl, g_2⟩ := iv_pi g_1
    obtain ⟨u, hu, g_3⟩ := by_ib g_2
    exact so_5 C hd hc hu (hk _ _ _ _ g_3)
  | 6, hc, hs =>
    obtain ⟨v, t, rfl, g_1⟩ := iv_pl hs
    obtain ⟨a, t, rfl, g_2⟩ := iv_pl g_1
    obtain ⟨u, hu, g_3⟩ := by_lb g_2
    exact so_6 C hd hc hu (hk _ _ _ _ g_3)
  | 7, hc, hs =>
    obtain ⟨v, t, rfl, g_1⟩ := iv_pi hs
    obtain ⟨a, t, rfl, g_2⟩ := iv_pl g_1
    obtain ⟨u, hu, g_3⟩ := by_ls g_2
    exact so_7 C hd hc hu (hk _ _ _ _ g_3)
  | 8, hc, hs =>
    obtain ⟨v, t, rfl, g_1⟩ := iv_p hs
    obtain ⟨u, hu, g_2⟩ := by_cv g_1
    exact so_8 C hd hc hu (hk _ _ _ _ g_2)
  | 9, hc, hs =>
    obtain ⟨v, t, rfl, g_1⟩ := iv_pl hs
    obtain ⟨a, t, rfl, g_2⟩ := iv_pl g_1
    exact so_9 C hd hc (hk _ _ _ _ g_2)
  | 10, hc, hs =>
    obtain ⟨a, t, rfl, g_1⟩ := iv_pi hs
    exact so_10 C hd hc g_1 (fun q => hk _ _ _ _ q) (fun q => hk _ _ _ _ q)
  | 11, hc, hs =>
    obtain ⟨v, t, rfl, g_1⟩ := iv_pi hs
    obtain ⟨a, t, rfl, g_2⟩ := iv_pi g_1
    exact so_11 C hd hc g_2 (fun q => hk _ _ _ _ q) (fun q => hk _ _ _ _ q)
  | 12, hc, hs => exact so_12 C hd hc (hk _ _ _ _ hs)
  | 13, hc, hs =>
    obtain ⟨a, t, rfl, g_1⟩ := iv_pr hs
    obtain ⟨ht, g_2⟩ := iv_t g_1
    obtain ⟨u, hu, g_3⟩ := by_gf g_2
    exact so_13 C hd hc ht hu (hk _ _ _ _ g_3)
  | 14, hc, hs =>
    obtain ⟨v, t, rfl, g_1⟩ := iv_p hs
    obtain ⟨a, t, rfl, g_2⟩ := iv_pr g_1
    obtain ⟨ht, g_3⟩ := iv_t g_2
    obtain ⟨u, hu, g_4⟩ := by_pf g_3
    exact so_14 C hd hc ht hu (hk _ _ _ _ g_4)
  | 15, hc, hs =>
    obtain ⟨v, t, rfl, g_1⟩ := iv_pi hs
    obtain ⟨a, t, rfl, g_2⟩ := iv_pr g_1
    obtain ⟨u, hu, g_3⟩ := by_al g_2
    exact so_15 C hd hc hu (hk _ _ _ _ g_3)
  | 16, hc, hs =>
    obtain ⟨v, t, rfl, g_1⟩ := iv_p hs
    obtain ⟨j, t, rfl, g_2⟩ := iv_pi g_1
    obtain ⟨a, t, rfl, g_3⟩ := iv_pr g_2
    obtain ⟨u, hu, g_4⟩ := by_as g_3
    exact so_16 C hd hc hu (hk _ _ _ _ g_4)
  | 17, hc, hs =>
    obtain ⟨a, t, rfl, g_1⟩ := iv_pr hs
    obtain ⟨ht, g_2⟩ := iv_t g_1
    exact so_17 C hd hc ht (hk _ _ _ _ g_2)
  | 18, hc, hs =>
    obtain ⟨v, t, rfl, g_1⟩ := iv_p hs
    obtain ⟨ht, g_2⟩ := iv_t g_1
    exact so_18 C hd hc ht (hk _ _ _ _ g_2)
  | 19, hc, hs =>
    obtain ⟨v, t, rfl, g_1⟩ := iv_p hs
    obtain ⟨ht, g_2⟩ := iv_t g_1
    exact so_19 C hd hc ht (hk _ _ _ _ g_2)
  | 20, hc, hs =>
    obtain ⟨v, t, rfl, g_1⟩ := iv_p hs
    obtain ⟨u, t, rfl, g_2⟩ := iv_p g_1
    obtain ⟨ht, g_3⟩ := iv_t g_2
    exact so_20 C hd hc ht.1 ht.2 (hk _ _ _ _ g_3)
  | 21, hc, hs =>
    have h1 := hkm _ _ _ _ _ hs
    exact so_21 C hd hc (Nat.le_trans h1.1 hRz) (Nat.le_trans h1.2 hRs) (hk _ _ _ _ hs)
  | 22, hc, hs =>
    obtain ⟨n, t, rfl, g_1⟩ := iv_pi hs
    obtain ⟨hn, g_2⟩ := iv_f g_1
    have h1 := hkm _ _ _ _ _ g_2
    exact so_22 C hd hc hn (Nat.le_trans h1.1 hRz) (Nat.le_trans h1.2 hRs) (hk _ _ _ _ g_2)
  | 24, hc, hs =>
    obtain ⟨⟨hca, hly⟩, g_1⟩ := iv_t hs
    obtain ⟨hrc, g_2⟩ := by_rc g_1
    obtain ⟨⟨v, h'⟩, hq, g_3⟩ := iv_o g_2
    obtain ⟨u, hu, g_4⟩ := by_rv g_3
    have h1 := hkm _ _ _ _ _ g_4
    exact so_24 C hd hc hRf hRl hca hly hrc (fun hx => hck _ _ _ _ _ hx hq) (hcm _ _ _ _ hq) (Nat.le_trans h1.1 hRz) (Nat.le_trans h1.2 hRs) hu (hk _ _ _ _ g_4)
  | 25, hc, hs =>
    obtain ⟨a, t, rfl, g_1⟩ := iv_pr hs
    obtain ⟨hca, g_2⟩ := iv_t g_1
    exact so_25 C hd hc (by omega) (by omega) hca (hk _ _ _ _ g_2)
  | 26, hc, hs =>
    obtain ⟨n, t, rfl, g_1⟩ := iv_pi hs
    obtain ⟨dp, t, rfl, g_2⟩ := iv_pi g_1
    obtain ⟨a, t, rfl, g_3⟩ := iv_pr g_2
    obtain ⟨sp, t, rfl, g_4⟩ := iv_pi g_3
    obtain ⟨a0, t, rfl, g_5⟩ := iv_pr g_4
    obtain ⟨⟨⟨t0, t1⟩, ⟨g1, g2, g3⟩, ⟨g4, g5⟩, hca⟩, g_6⟩ := iv_t g_5
    exact so_26 C hd hc (by omega) (by omega) hca t0 t1 g1 g2 g3 g4 g5 (hk _ _ _ _ g_6)
  | 27, hc, hs =>
    obtain ⟨v, t, rfl, g_1⟩ := iv_p hs
    obtain ⟨rfl, g_2⟩ := iv_e g_1
    obtain ⟨u, hu, g_3⟩ := by_rt g_2
    cases g_3
    exact so_27 hd hc hu hg
  | 28, hc, hs =>
    obtain ⟨v, t, rfl, g_1⟩ := iv_pi hs
    obtain ⟨a, t, rfl, g_2⟩ := iv_pi g_1
    obtain ⟨hca, g_3⟩ := iv_t g_2
    exact so_28 C hd hc (by omega) (by omega) (Nat.le_trans hmz.1 hRz) (Nat.le_trans hmz.2 hRs) hca (hk _ _ _ _ g_3)
  | 29, hc, hs =>
    obtain ⟨v, t, rfl, g_1⟩ := iv_pi hs
    obtain ⟨a, t, rfl, g_2⟩ := iv_pi g_1
    obtain ⟨hca, g_3⟩ := iv_t g_2
    exact so_29 C hd hc (by omega) (by omega) (Nat.le_trans hmz.1 hRz) (Nat.le_trans hmz.2 hRs) hca (hk _ _ _ _ g_3)
  | 30, hc, hs =>
    obtain ⟨rfl, g_1⟩ := iv_e hs
    cases g_1
    exact so_30 hd hc hg
  | 31, hc, hs =>
    obtain ⟨v, t, rfl, g_1⟩ := iv_pi hs
    exact so_31 C hd hc g_1 (fun t q => hk _ _ _ _ q)
  | 32, hc, hs =>
    obtain ⟨v, t, rfl, g_1⟩ := iv_pi hs
    obtain ⟨a, t, rfl, g_2⟩ := iv_pr g_1
    obtain ⟨rfl, g_3⟩ := iv_t g_2
    obtain ⟨hj, g_4⟩ := iv_f g_3
    exact so_32 C hd hc hj (hk _ _ _ _ g_4)
  | 33, hc, hs =>
    obtain ⟨a, t, rfl, g_1⟩ := iv_pr hs
    obtain ⟨rfl, g_2⟩ := iv_t g_1
    exact so_33 C hd hc (hk _ _ _ _ g_2)
  | 23, hc, hs => cases hs
  | _ + 34, hc, hs => cases hs
theorem so_sg (C : cx_ p s m args meth c bs b L nL z0 xs D cA o kd cc) {d : Nat} {mt : mt_} {k : Nat → lo_ → List Value → hp_ → re_} {ck : Nat → List Value → hp_ → re_} {r : Option Value × hp_}
    (hch : ∀ pc, ch_at cc o kd rt nL mt pc = true) (hRf : d + 1 ≤ R.frames) (hRl : 100 * d + 100 ≤ R.locals) (hRz : hp_z r.2 ≤ z0 + R.cells) (hRs : hp_s r.2 ≤ s0 + R.slots)
    (hck : ∀ x as h v h', x < 187 → ck x as h = some (v, h') → ms_ l bs b L xs D cA d x as h v h') (hcm : ∀ x as h, pz_ h (ck x as h)) (hkm : ∀ pc ls st h, pz_ h (k pc ls st h))
    (hk : ∀ pc ls st h, k pc ls st h = some r → go_ p l e R s m args below meth c Q bs b nL D cA z0 s0 pc ls st h) (hg : gx_ p l e R s m args below meth c Q bs b D cA z0 s0 cc rt r.1 r.2) : ∀ n pc ls st h, sg_ xs L mt ck k n pc ls st h = some r → go_ p l e R s m args below meth c Q bs b nL D cA z0 s0 pc ls st h := by
  intro n
  induction n with
  | zero => exact fun _ _ _ _ q => by cases q
  | succ n ih =>
    intro pc ls st h hs
    have hc := hch pc
    unfold ch_at at hc
    rw [Bool.or_eq_true, beq_iff_eq] at hc
    rcases hc with hc | hc
    · have hs : st_ xs L mt.2.2.1 (mt.1 pc) pc ls st h none (fun v h => some (v, h)) (fun pc ls st h => op_o (mt.2.1 pc) (sg_ xs L mt ck k n pc ls st h) fun lv => k pc (mk_pk lv ls) st h) (fun m as h f => op_o (ck m as h) none fun p => f p.1 p.2) = some r := hs
      generalize mt.1 pc = en at hc hs
      obtain ⟨op, en⟩ := en
      have hc : op = 99 := hc
      subst hc
      cases hs
    · cases hd : decode cc pc with
      | error q => rw [hd] at hc; cases hc
      | ok q =>
        rw [hd] at hc
        obtain ⟨i, ln⟩ := q
        refine so_st (k := fun pc ls st h => op_o (mt.2.1 pc) (sg_ xs L mt ck k n pc ls st h) fun lv => k pc (mk_pk lv ls) st h) C hd hc hRf hRl hRz hRs hck hcm (fun pc ls st h' => pa_o (G := fun (a _ : re_) => pz_ h' a) (fm := none) (g := fun _ => none) _ (mz_sg xs L mt hkm hcm n _ _ _ _) fun _ => hkm _ _ _ _) (fun pc ls st h hq => ?_) hg hs
        cases hcu : mt.2.1 pc with
        | none =>
          rw [hcu] at hq
          exact ih _ _ _ _ hq
        | some lv =>
          rw [hcu] at hq
          intro H locs cells slots la hp hz hs hl
          exact hk _ _ _ _ hq H locs cells slots la hp hz hs (pk_has hl lv)
theorem so_rn (C : cx_ p s m args meth c bs b L nL z0 xs D cA o kd cc) {d : Nat} {mt : mt_} {ck : Nat → List Value → hp_ → re_} {r : Option Value × hp_}
    (hch : ∀ pc, ch_at cc o kd rt nL mt pc = true) (hRf : d + 1 ≤ R.frames) (hRl : 100 * d + 100 ≤ R.locals) (hRz : hp_z r.2 ≤ z0 + R.cells) (hRs : hp_s r.2 ≤ s0 + R.slots)
    (hck : ∀ x as h v h', x < 187 → ck x as h = some (v, h') → ms_ l bs b L xs D cA d x as h v h') (hcm : ∀ x as h, pz_ h (ck x as h)) (hg : gx_ p l e R s m args below meth c Q bs b D cA z0 s0 cc rt r.1 r.2) : ∀ n pc ls st h, rn_ xs L mt ck n pc ls st h = some r → go_ p l e R s m args below meth c Q bs b nL D cA z0 s0 pc ls st h := by
  intro n
  induction n with
  | zero => exact fun _ _ _ _ q => by cases q
  | succ n ih => exact fun pc ls st h hs => so_sg C hch hRf hRl hRz hRs hck hcm (mz_rn xs L mt hcm n) ih hg _ _ _ _ _ hs
end SM
theorem la_map (bs b : Nat) : ∀ (as : List Value) (i : Nat), lv_args i (as.map (wv_ bs b)) = (lv_args i as).map (wq_ bs b) := by
  intro as
  induction as with
  | nil => exact fun _ => rfl
  | cons v as ih =>
    intro i
    show (i, wv_ bs b v) :: lv_args (if (wv_ bs b v).category = 2 then i + 2 else i + 1) (as.map (wv_ bs b)) = (i, wv_ bs b v) :: (lv_args (if v.category = 2 then i + 2 else i + 1) as).map (wq_ bs b)
    rw [wv_cat, ih]
theorem la_len (bs b : Nat) (as : List Value) : (lg_sl (as.map (wv_ bs b))).length = mk_ca as := by
  induction as with
  | nil => rfl
  | cons v as ih =>
    have e1 : lg_sl ((v :: as).map (wv_ bs b)) = (if (wv_ bs b v).category = 2 then [Slot.val (wv_ bs b v), .second] else [.val (wv_ bs b v)]) ++ lg_sl (as.map (wv_ bs b)) := rfl
    have e2 : mk_ca (v :: as) = v.category + mk_ca as := rfl
    rw [e1, e2, List.length_append, ih, wv_cat]
    rcases lv_cat v with hc | hc
    · rw [if_neg (by omega), hc]; rfl
    · rw [if_pos hc, hc]; rfl
