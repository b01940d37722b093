/-! the beginning of the law -/
section
variable {xs : Nat → Int32} {L d : Nat}
set_option maxHeartbeats 8000000 in
theorem c110_ : ev_ xs L mp_ (d + 1) 110 0 [(0, .ref 351)] [] (hp_al (HH_ 350 [] dw_ 49) 19 52) = ev_ xs L mp_ (d + 1) 110 302 [(0, .ref 351), (1, .int 0)] [] (HH_ 385 [] dw_ 49) := by
  rw [al_ (by decide) (by decide) (by decide) (by decide), eq_110_0]
  simp (disch := first | omega | decide) only [hz_h, Nat.reduceAdd, hT_e, al0_, sR_, Int32.reduceToNatClampNeg, Int32.reduceLT, Nat.reduceLT, or_self, reduceIte, Nat.reduceEqDiff]
  rw [eq_110_20]
  simp (disch := first | omega | decide) only [hz_h, Nat.reduceAdd, hT_e, al0_, sR_, Int32.reduceToNatClampNeg, Int32.reduceLT, Nat.reduceLT, or_self, reduceIte, Nat.reduceEqDiff]
  rw [eq_110_37]
  simp (disch := first | omega | decide) only [hz_h, Nat.reduceAdd, hT_e, al0_, sR_, Int32.reduceToNatClampNeg, Int32.reduceLT, Nat.reduceLT, or_self, reduceIte, Nat.reduceEqDiff]
  rw [eq_110_55]
  simp (disch := first | omega | decide) only [hz_h, Nat.reduceAdd, hT_e, al0_, sR_, Int32.reduceToNatClampNeg, Int32.reduceLT, Nat.reduceLT, or_self, reduceIte, Nat.reduceEqDiff]
  rw [eq_110_73]
  simp (disch := first | omega | decide) only [hz_h, Nat.reduceAdd, hT_e, al0_, sR_, Int32.reduceToNatClampNeg, Int32.reduceLT, Nat.reduceLT, or_self, reduceIte, Nat.reduceEqDiff]
  rw [eq_110_91]
  simp (disch := first | omega | decide) only [hz_h, Nat.reduceAdd, hT_e, al0_, sR_, Int32.reduceToNatClampNeg, Int32.reduceLT, Nat.reduceLT, or_self, reduceIte, Nat.reduceEqDiff]
  rw [eq_110_109]
  simp (disch := first | omega | decide) only [hz_h, Nat.reduceAdd, hT_e, al0_, sR_, Int32.reduceToNatClampNeg, Int32.reduceLT, Nat.reduceLT, or_self, reduceIte, Nat.reduceEqDiff]
  rw [eq_110_127]
  simp (disch := first | omega | decide) only [hz_h, Nat.reduceAdd, hT_e, al0_, sR_, Int32.reduceToNatClampNeg, Int32.reduceLT, Nat.reduceLT, or_self, reduceIte, Nat.reduceEqDiff]
  rw [eq_110_145]
  simp (disch := first | omega | decide) only [hz_h, Nat.reduceAdd, hT_e, al0_, sR_, Int32.reduceToNatClampNeg, Int32.reduceLT, Nat.reduceLT, or_self, reduceIte, Nat.reduceEqDiff]
  rw [eq_110_162]
  simp (disch := first | omega | decide) only [hz_h, Nat.reduceAdd, hT_e, al0_, sR_, Int32.reduceToNatClampNeg, Int32.reduceLT, Nat.reduceLT, or_self, reduceIte, Nat.reduceEqDiff]
  rw [eq_110_180]
  simp (disch := first | omega | decide) only [hz_h, Nat.reduceAdd, hT_e, al0_, sR_, Int32.reduceToNatClampNeg, Int32.reduceLT, Nat.reduceLT, or_self, reduceIte, Nat.reduceEqDiff]
  rw [eq_110_197]
  simp (disch := first | omega | decide) only [hz_h, Nat.reduceAdd, hT_e, al0_, sR_, Int32.reduceToNatClampNeg, Int32.reduceLT, Nat.reduceLT, or_self, reduceIte, Nat.reduceEqDiff]
  rw [eq_110_215]
  simp (disch := first | omega | decide) only [hz_h, Nat.reduceAdd, hT_e, al0_, sR_, Int32.reduceToNatClampNeg, Int32.reduceLT, Nat.reduceLT, or_self, reduceIte, Nat.reduceEqDiff]
  rw [eq_110_231]
  simp (disch := first | omega | decide) only [hz_h, Nat.reduceAdd, hT_e, al0_, sR_, Int32.reduceToNatClampNeg, Int32.reduceLT, Nat.reduceLT, or_self, reduceIte, Nat.reduceEqDiff]
  rw [eq_110_247]
  simp (disch := first | omega | decide) only [hz_h, Nat.reduceAdd, hT_e, al0_, sR_, Int32.reduceToNatClampNeg, Int32.reduceLT, Nat.reduceLT, or_self, reduceIte, Nat.reduceEqDiff]
  rw [eq_110_264]
  simp (disch := first | omega | decide) only [hz_h, Nat.reduceAdd, hT_e, al0_, sR_, Int32.reduceToNatClampNeg, Int32.reduceLT, Nat.reduceLT, or_self, reduceIte, Nat.reduceEqDiff]
  rw [eq_110_282]
  simp (disch := first | omega | decide) only [hz_h, Nat.reduceAdd, hT_e, al0_, sR_, Int32.reduceToNatClampNeg, Int32.reduceLT, Nat.reduceLT, or_self, reduceIte, Nat.reduceEqDiff]
  rw [eq_110_300]
  simp (disch := first | omega | decide) only [dr_]
theorem c110l : ∀ (n i : Nat) (D : dy_), i + n = 110 → (∀ k, k < i → D.1 352 k = 1 ∧ D.1 353 k = 1) → ∃ D', ev_ xs L mp_ (d + 1) 110 302 [(0, .ref 351), (1, .int (nI i))] [] (hq_ sh_ D) = some (none, hq_ sh_ D') ∧ (∀ k, k < 110 → D'.1 352 k = 1 ∧ D'.1 353 k = 1) ∧ ∀ a, a ≠ 352 → a ≠ 353 → D'.1 a = D.1 a
  | 0, i, D, h, g => by
    obtain rfl : i = 110 := by omega
    exact ⟨D, by rw [eq_110_302, if_pos (by decide)], g, fun _ _ _ => rfl⟩
  | n + 1, i, D, h, g => by
    obtain ⟨D', e, e1, e2⟩ := c110l n (i + 1) (dI_ (dI_ D 352 i 1) 353 i 1) (by omega) (by
      intro k hk
      rw [dI_at, dI_at, dI_at, dI_at]
      by_cases hi : k = i
      · subst hi
        rw [if_neg (by omega), if_pos ⟨rfl, rfl⟩, if_pos ⟨rfl, rfl⟩]
        exact ⟨rfl, rfl⟩
      · rw [if_neg (by omega), if_neg (by omega), if_neg (by omega), if_neg (by omega)]
        exact g k (by omega))
    refine ⟨D', ?_, e1, fun a h1 h2 => (e2 a h1 h2).trans ?_⟩
    · rw [eq_110_302, if_neg (by show ¬ nI 110 ≤ nI i; rw [nI_leI (by omega) (by omega)]; omega), if_pos (show hp_T (hq_ sh_ D) 351 = 19 from rfl), if_neg (show ¬ hp_R (hq_ sh_ D) 351 1 = 0 from show ¬ 352 = 0 by omega)]
      show (if (sh_.1 352).1 = 1 then mk_inb (nI i) 110 none (if (sh_.1 351).1 = 19 then (if (353 : Nat) = 0 then none else if (sh_.1 353).1 = 1 then mk_inb (nI i) 110 none (ev_ xs L mp_ (d + 1) 110 302 [(0, .ref 351), (1, .int (nI i + nI 1))] [] (hp_sI (hp_sI (hq_ sh_ D) 352 (nI i).toNatClampNeg 1) 353 (nI i).toNatClampNeg 1)) else none) else none) else none) = _
      rw [if_pos (show (sh_.1 352).1 = 1 from rfl), inb_ (by omega) (by omega), if_pos (show (sh_.1 351).1 = 19 from rfl), if_neg (by omega), if_pos (show (sh_.1 353).1 = 1 from rfl), inb_ (by omega) (by omega), nI_add, nI_clamp (by omega), hsI_q, hsI_q]
      exact e
    · exact (up_ne (f := (dI_ D 352 i 1).1) h2).trans (up_ne (f := D.1) h1)
def m1_ : ma_ := (1, 1, 0, fun p _ => p, fun _ => false)
def S0_ : sp_ := (fun _ => m1_, (0, fun _ => 0), (0, m1_, fun _ _ => 0))
theorem S0_ok : ok_ S0_ := by
  refine ⟨fun i _ => ⟨?_, show 1 ≤ 60 by decide⟩, ⟨by decide, fun j hj => absurd hj (Nat.not_lt_zero j)⟩, ⟨by decide, fun h => absurd h (by decide)⟩⟩
  show wm_ m1_
  unfold wm_
  refine ⟨by decide, by decide, by decide, ?_⟩
  intro p l hp hl
  exact hp
theorem h0_e : h0_ = HH_ 0 [] d0_ 0 := by
  refine hp_ext ?_ ?_ ?_ ?_ rfl rfl
  · funext n
    show (0, 0) = if n ≤ 0 then shp_ n else (0, 0)
    by_cases h : n ≤ 0
    · obtain rfl : n = 0 := by omega
      rfl
    · rw [if_neg h]
  · funext n k
    show 0 = if n ≤ 0 ∧ true = true then rr_ n k else 0
    by_cases h : n ≤ 0
    · obtain rfl : n = 0 := by omega
      rw [rr_z (by omega) (show 0 ≤ k from Nat.zero_le k), ite_self]
    · rw [if_neg (fun q => h q.1)]
  · funext n k
    show 0 = if n ≤ 0 then 0 else if n ≤ 0 ∧ _ then _ else _
    by_cases h : n ≤ 0
    · rw [if_pos h]
    · rw [if_neg h, if_neg (fun q => h q.1)]
  · funext n k
    show 0 = if n ≤ 0 then 0 else 0
    rw [ite_self]
theorem dx_hi {a k : Nat} (h : 49 < a) (ht : (shp_ a).1 ≠ 11) : (ex_ dw_ 49 385).1 a k = 0 := by
  show (if a ≤ 49 then _ else if a ≤ 385 ∧ _ then _ else _) = _
  rw [if_neg (by omega), if_neg (fun q => ht q.2.1)]
theorem dx_lo {a k : Nat} (h : a ≤ 49) : (ex_ dw_ 49 385).1 a k = dw_.1 a k := if_pos h
theorem dw_44 (k : Nat) : dw_.1 44 k = 0 := by
  unfold dw_
  rw [dI_at, if_neg (by omega), de_hi (by omega), de_hi (by omega)]
  show (if 44 ≤ 0 then (0 : Int32) else if 44 ≤ 49 ∧ (shp_ 44).1 = 11 ∧ (k = 2 ∨ k = 3) then 1 else 0) = 0
  rw [if_neg (by omega), if_neg (fun q => absurd q.2.1 (by decide))]
theorem rc_0 {D : dy_} (h : ∀ a, a ≠ 352 → a ≠ 353 → D.1 a = (ex_ dw_ 49 385).1 a) : rc_ D S0_ 0 := by
  have lo : ∀ a k, a ≤ 49 → D.1 a k = dw_.1 a k := fun a k ha => by rw [h a (by omega) (by omega), dx_lo ha]
  have sl : ∀ i ∈ List.range 6, dw_.1 (3 + 3 * i) 2 = 1 ∧ dw_.1 (3 + 3 * i) 3 = 1 ∧ dw_.1 (3 + 3 * i) 4 = 0 ∧ dw_.1 (3 + 3 * i + 1) 0 = 0 ∧ dw_.1 (3 + 3 * i + 2) 0 = 0 := by decide +kernel
  refine ⟨?_, ⟨?_, fun j hj => absurd hj (Nat.not_lt_zero j)⟩, ⟨?_, fun q => absurd q (by decide)⟩, ⟨?_, ?_⟩, ?_, 0, Nat.le_refl _, ?_, ?_⟩
  · intro i hi
    obtain ⟨s1, s2, s3, s4, s5⟩ := sl i (List.mem_range.mpr hi)
    refine ⟨(lo _ _ (by omega)).trans s1, (lo _ _ (by omega)).trans s2, (lo _ _ (by omega)).trans s3, ?_, ?_⟩
    · intro p l hp hl
      obtain rfl : p = 0 := Nat.lt_one_iff.mp hp
      obtain rfl : l = 0 := Nat.lt_one_iff.mp hl
      exact (lo _ _ (by omega)).trans s4
    · intro p hp
      obtain rfl : p = 0 := Nat.lt_one_iff.mp hp
      exact (lo _ _ (by omega)).trans s5
  · exact (lo 21 1 (by omega)).trans (by decide +kernel)
  · rw [h 342 (by omega) (by omega), dx_hi (by omega) (by decide)]
    rfl
  · refine ⟨(lo _ _ (by omega)).trans (by decide +kernel), (lo _ _ (by omega)).trans (by decide +kernel), (lo _ _ (by omega)).trans (by decide +kernel), ?_, ?_⟩
    · intro p l hp hl
      obtain rfl : p = 0 := Nat.lt_one_iff.mp hp
      refine (lo _ _ (by omega)).trans ?_
      exact (show ∀ l ∈ List.range 4, dw_.1 31 (0 * 4 + l) = nI 0 from by decide +kernel) l (List.mem_range.mpr hl)
    · intro p hp
      obtain rfl : p = 0 := Nat.lt_one_iff.mp hp
      exact (lo _ _ (by omega)).trans (by decide +kernel)
  · refine ⟨(lo _ _ (by omega)).trans (by decide +kernel), (lo _ _ (by omega)).trans (by decide +kernel), (lo _ _ (by omega)).trans (by decide +kernel), ?_, ?_⟩
    · intro p l hp hl
      obtain rfl : p = 0 := Nat.lt_one_iff.mp hp
      refine (lo _ _ (by omega)).trans ?_
      exact (show ∀ l ∈ List.range 4, dw_.1 34 (0 * 4 + l) = nI 0 from by decide +kernel) l (List.mem_range.mpr hl)
    · intro p hp
      obtain rfl : p = 0 := Nat.lt_one_iff.mp hp
      exact (lo _ _ (by omega)).trans (by decide +kernel)
  · exact (lo _ _ (by omega)).trans (by decide +kernel)
  · exact (lo _ _ (by omega)).trans (by decide +kernel)
  · intro c _
    exact ⟨0, Nat.le_refl _, (lo _ _ (by omega)).trans (dw_44 c)⟩
theorem mr_00 {D : dy_} (h : ∀ a, a ≠ 352 → a ≠ 353 → D.1 a = (ex_ dw_ 49 385).1 a) (g : ∀ k, k < 110 → D.1 352 k = 1 ∧ D.1 353 k = 1) : mr_ D S0_ := by
  have hi : ∀ a k, 353 < a → (shp_ a).1 ≠ 11 → D.1 a k = 0 := fun a k ha ht => by rw [h a (by omega) (by omega), dx_hi (by omega) ht]
  have h1 : ∀ k, D.1 351 k = 0 := fun k => by rw [h 351 (by omega) (by omega), dx_hi (by omega) (by decide)]
  refine ⟨?_, ⟨(h1 7).trans rfl, fun j hj => absurd hj (Nat.not_lt_zero j)⟩, ⟨(h1 47).trans rfl, fun q => absurd q (by decide)⟩⟩
  intro i hi6
  refine ⟨(g i (by omega)).1, (g i (by omega)).2, hi 354 i (by omega) (by decide), ?_, ?_⟩
  · intro p l hp hl
    obtain rfl : p = 0 := Nat.lt_one_iff.mp hp
    exact hi 355 _ (by omega) (by decide)
  · intro p hp
    exact hi 356 _ (by omega) (by decide)
/-- all of it, given read -/
theorem lw_all_ (hR : rdh_ xs L d) (hL : L ≤ 3072) : ∃ D, ev_ xs L mp_ (d + 201) 187 0 [(0, .ref 0)] [] h0_ = some (some (.int 1), hq_ sh_ D) := by
  obtain ⟨D1, e1, e2, e3⟩ := c110l (xs := xs) (L := L) (d := d + 199) 110 0 (ex_ dw_ 49 385) rfl (fun k hk => absurd hk (Nat.not_lt_zero k))
  obtain ⟨D2, e4⟩ := lw_loop_ hR hL 512 0 S0_ D1 rfl S0_ok (rc_0 e3) (mr_00 e3 e2)
  refine ⟨D2, ?_⟩
  have t1 : hp_T (hp_al (HH_ 0 [] d0_ 0) 18 6) 1 = 18 := by
    rw [hT_al]
    exact if_pos rfl
  have t2 : hp_T (hp_al (HH_ 350 [] dw_ 49) 19 52) 351 = 19 := by
    rw [hT_al]
    exact if_pos rfl
  have e5 : ev_ xs L mp_ (d + 200) 110 0 [(0, .ref 351)] [] (hp_al (HH_ 350 [] dw_ 49) 19 52) = some (none, hq_ sh_ D1) := by
    rw [c110_ (d := d + 199)]
    unfold HH_
    rw [qz_sh]
    exact e1
  have e6 : ev_ xs L mp_ (d + 200) 81 0 [(0, .ref 1)] [] (hp_al (HH_ 0 [] d0_ 0) 18 6) = some (none, HH_ 350 [] dw_ 49) := c81_ (d := d + 194)
  rw [eq_187_0, h0_e, hz_h, if_pos t1, e6, op_os]
  show op_vN none none _ = _
  rw [op_vNs]
  show (if hp_T (hp_al (HH_ 350 [] dw_ 49) 19 52) 351 = 19 then (op_o (ev_ xs L mp_ (d + 200) 110 0 [(0, .ref 351)] [] (hp_al (HH_ 350 [] dw_ 49) 19 52)) none (fun p2 => op_vN p2.1 none (ev_ xs L mp_ (d + 201) 187 18 [(0, .ref 0), (1, .ref 1), (2, .ref 351), (3, .int 0)] [] p2.2))) else none) = _
  rw [if_pos t2, e5, op_os]
  show op_vN none none _ = _
  rw [op_vNs]
  exact e4
end
