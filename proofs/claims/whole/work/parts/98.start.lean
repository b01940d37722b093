theorem pure_law (xs : Nat → Int32) (L : Nat) (hL : L ≤ 3072) : ∃ (d : Nat) (hf : hp_), d ≤ 800 ∧ ev_ xs L mp_ (d + 1) 187 0 [(0, .ref 0)] [] h0_ = some (some (.int 1), hf) ∧ hp_z hf ≤ 600000 ∧ hp_s hf ≤ 7302250 := by
  obtain ⟨D, e⟩ := lw_all_ (xs := xs) (L := L) (d := 0) (fun S B s k hS hB => bo_read hS hB s k) hL
  exact ⟨200, hq_ sh_ D, by omega, e, show zz_ ≤ 600000 by decide, show ss_ ≤ 7302250 by decide⟩
/-- THE LAW, from its entry -/
theorem whole_start {p : Program} {e : Env} {s : State} {m : MethodId} {below : List Frame} {meth : Method} {c : Code} (l : Launch) {b L : Nat} {xs : Nat → Int32} (hL : L ≤ 3072) (C0 : lw_At p s m meth c b L xs) : W p l e room_1 s m #[Value.ref b] below meth c s.heap [] 0 0 (lw_Z below #[Value.ref b] s) (entryFrame m ([Value.ref b] : List Value).toArray 4) := by
  obtain ⟨d, hf, hd, hev, hz, hs⟩ := pure_law xs L hL
  exact so_top l C0 hd hev hz hs
