/-! The law's run, out of what is left. -/
theorem whole_of {p : Program} {e : Env} {s : State} {m : MethodId} {below : List Frame} {meth : Method} {c : Code} (l : Launch) (hflags : l.flags = flags0) {b L : Nat} {xs : Nat → Int32} (hL : L ≤ 2560) (hp : zPure (Rel L xs)) (h0 : Rel L xs (zA0 L xs) (fun _ _ => 0)) (C0 : lw_At p s m meth c b L xs) : W p l e room_1 s m #[Value.ref b] below meth c s.heap [] 0 0 (lw_Z below #[Value.ref b] s) (entryFrame m ([Value.ref b] : List Value).toArray 7) := by
  obtain ⟨n, r, h1, h2, h3, h4⟩ := zrunok hL (Rel := Rel L xs) rel_S (zcases hL rel_S hp) h0
  exact zstart l hflags hL C0 h1 h2 h3 h4
