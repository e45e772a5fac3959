/-! From the law's entry: a run of my machine that ends with 1 is the claim. -/
def zc0 (L : Nat) (xs : Nat → Int32) : zCf := (0, [.ref 0, .retAddr 0, .retAddr 0, .retAddr 0, .retAddr 0, .retAddr 0, .retAddr 0], [], [(25, 0, [])], (fun q j => if q = 0 then (if j = 1000000 then Int32.ofNat L else xs j) else 0), fun _ _ => 0)
theorem zar {s : State} {args : Array Value} {ty : FieldType} (h : (Cond.arrayClass ty).before args s = true) : ∃ cA, ArrOfT s cA ty ∧ s.vm.findClass ("[" ++ ty.toString) = some cA := by
  obtain ⟨cA, kA, comp, h1, h2, h3⟩ := Cond.arrayClass_spec h
  exact ⟨cA, fun n z => ⟨fun k h => (by cases h), kA, h2, comp, h3⟩, h1⟩
theorem zarq {s : State} {args : Array Value} {C : String} (h : (Cond.arrayOver (.object C)).before args s = true) : ∃ cA, ArrOfT s cA (.object C) ∧ va_RA s cA (.object C) := by
  obtain ⟨comp, cA, kA, h1, h2, h3, h4, h5⟩ := Cond.arrayOver_spec h
  exact ⟨cA, fun n z => ⟨fun k h => (by cases h), kA, h3, comp, h4⟩, kA, comp, h3, h4, h1, h5⟩
set_option maxHeartbeats 4000000 in
set_option maxRecDepth 100000 in
theorem zstart {p : Program} {e : Env} {s : State} {m : MethodId} {below : List Frame} {meth : Method} {c : Code} (l : Launch) (hflags : l.flags = flags0) {b L : Nat} {xs : Nat → Int32} (hL : L ≤ 2560) (C0 : lw_At p s m meth c b L xs)
    {n : Nat} {r : Option Value × zSh × zA × zB × Nat × Nat × Nat} (hrun : zev zM zprm n 291 31 (zc0 L xs) = some r) (hr1 : r.1 = some (.int 1)) (hr2 : r.2.2.2.2.1 + r.2.2.2.2.2.1 ≤ 601024) (hr3 : r.2.2.2.2.2.2 ≤ 7293034) :
    W p l e room_1 s m #[Value.ref b] below meth c s.heap [] 0 0 (lw_Z below #[Value.ref b] s) (entryFrame m ([Value.ref b] : List Value).toArray 7) := by
  obtain ⟨hx, hb, hr, hml, hown, hts, hX, hbl, hlocks, hgv⟩ := id C0
  have htr : l.stackTraces = false := by unfold Launch.stackTraces; rw [hflags]; decide +kernel
  have kn : ∀ i, i < 10 → ∃ (cC : ClassId) (iS : Nat → Nat), u_Kn s (zC i) (zTX i) (zsz i) cC iS := by
    intro i hi
    have hin : ∃ n, Cond.instantiable (zC i) n ∈ lw_tbl := by
      match i, hi with
      | 0, _ => exact ⟨12, by decide +kernel⟩
      | 1, _ => exact ⟨7, by decide +kernel⟩
      | 2, _ => exact ⟨4, by decide +kernel⟩
      | 3, _ => exact ⟨2, by decide +kernel⟩
      | 4, _ => exact ⟨20, by decide +kernel⟩
      | 5, _ => exact ⟨4, by decide +kernel⟩
      | 6, _ => exact ⟨9, by decide +kernel⟩
      | 7, _ => exact ⟨3, by decide +kernel⟩
      | 8, _ => exact ⟨13, by decide +kernel⟩
      | 9, _ => exact ⟨66, by decide +kernel⟩
    obtain ⟨n, hn⟩ := hin
    exact u_known hts (fun w hw => (List.mem_filter.mp (zu_ok i hi w hw)).1) (hts _ hn)
  obtain ⟨D, hKc⟩ : ∃ D : va_G, ∀ (k : Nat) (q : vw_C), vwCl[k]? = some q → u_Kn s q.1 q.2.1 q.2.2 (D.1 k) (D.2 k) := by
    refine ⟨(fun k => if h : k < 10 then (kn k h).choose else 0, fun k => if h : k < 10 then (kn k h).choose_spec.choose else fun _ => 0), fun k q hq => ?_⟩
    have hk : k < 10 := (List.getElem?_eq_some_iff.mp hq).1
    rw [zcl k hk] at hq
    cases hq
    simp only [dif_pos hk]
    exact (kn k hk).choose_spec.choose_spec
  obtain ⟨c20, a1, a2⟩ := zar (hts _ (List.mem_filter.mp zar_I).1)
  obtain ⟨c21, a3, a4⟩ := zar (hts _ (List.mem_filter.mp zar_Z).1)
  obtain ⟨c22, a5, a6⟩ := zar (hts _ (List.mem_filter.mp zar_J).1)
  obtain ⟨c23, a7, a8⟩ := zarq (hts (.arrayOver (.object RX3)) (by decide +kernel))
  obtain ⟨c24, a9, a10⟩ := zarq (hts (.arrayOver (.object RX6)) (by decide +kernel))
  obtain ⟨g, hg⟩ : ∃ g : zGl, g = (D, (fun k => if k = 20 then c20 else if k = 21 then c21 else if k = 22 then c22 else if k = 23 then c23 else c24), b, L, xs, s.heap.size) := ⟨_, rfl⟩
  have hg0 : g.2.2.1 < zSZ g ∧ g.2.2.2.1 ≤ 2560 := by rw [hg]; exact ⟨hbl, hL⟩
  have hKs : va_K g.1 vwCl (ztys g) s := by
    rw [hg]
    refine ⟨hKc, fun k q hk => ?_⟩
    match k, hk with
    | 0, hk => cases hk; exact ⟨a1, a2⟩
    | 1, hk => cases hk; exact ⟨a3, a4⟩
    | 2, hk => cases hk; exact ⟨a5, a6⟩
    | 3, hk => cases hk; exact ⟨a7, a8⟩
    | 4, hk => cases hk; exact ⟨a9, a10⟩
    | k + 5, hk => exact absurd (List.getElem?_eq_some_iff.mp hk).1 (by show ¬ k + 5 < 5; omega)
  have hN : zNx s := ⟨⟨va_Nw.of rfl (hts _ (by decide +kernel)), va_Nw.of rfl (hts _ (by decide +kernel)), va_Nw.of rfl (hts _ (by decide +kernel)), va_Nw.of rfl (hts _ (by decide +kernel))⟩, va_AO.of (hts _ (by decide +kernel)), va_AO.of (hts _ (by decide +kernel))⟩
  have hfl := flat_of_before _ hgv
  have hXc : zXc g #[Value.ref b] s := by
    have hA : ∀ q : Nat, q < s.heap.size → ¬ zAr g q := fun q h z => by unfold zAr zSZ at z; rw [hg] at z; exact absurd z (Nat.not_le.mpr h)
    exact ⟨vx_Zqof (hts _ (by decide +kernel)) (hts _ (by decide +kernel)) (hfl _ (by decide +kernel)) hA, vx_Zqof (hts _ (by decide +kernel)) (hts _ (by decide +kernel)) (hfl _ (by decide +kernel)) hA, hts⟩
  have hC : zCx g p m #[Value.ref b] meth c zm_291 s := ⟨hx, hb, hml, hown, fun w hw => hts w (List.mem_filter.mp hw).1, hKs, by rw [hg]; exact hX, ⟨hg0.1, by rw [hg]; exact Nat.le_refl _, hg0.2⟩, hN, fun z => absurd z (by decide +kernel), fun _ => hXc⟩
  have hz := zsnd hg0 (zprm_ok g hg0 l htr) zchk_all n 291 31 zm_291 (zc0 L xs) r rfl hrun (by decide) p e room_1 s m #[Value.ref b] below meth c (lw_Z below #[Value.ref b] s) hC (by decide +kernel) (by decide +kernel)
  rw [lg_entry_eq]
  have hent : zLV g 7 (zpad 7 (zlin [.ref 0])) ((lg_sl ([.ref 0].map (zvm g)) ++ List.replicate (7 - (lg_sl ([.ref 0].map (zvm g))).length) Slot.unset).toArray) := zLV_entry (by decide)
  have hv : ([.ref 0] : List Value).map (zvm g) = [Value.ref b] := by rw [hg]; rfl
  rw [hv] at hent
  refine hz s.heap [] 0 0 _ (fun k q hk => ?_) ⟨rfl, fun j hj => ?_, ?_⟩ va_S.rf hent (by rw [Nat.zero_add]; exact hr2) (by rw [Nat.zero_add]; exact hr3) (fun _ => ?_) (fun H' locs' pc' A' w1 w2 w3 w4 => ?_)
  · have : (zws g [(25, 0, [])] (zc0 L xs).2.2.2.2.1 (zc0 L xs).2.2.2.2.2)[k]? = some q := hk
    rw [zws_at, if_neg (by show ¬ k < 0; omega)] at this
    cases this
  · rw [hg]
    rw [hg] at hj
    show (if (0 : Nat) = 0 then (if j = 1000000 then Int32.ofNat L else xs j) else 0) = xs j
    rw [if_pos rfl, if_neg (by have : j < L := hj; omega)]
  · rw [hg]
    rfl
  · rw [hg]
    rfl
  · rw [hr1] at w4 ⊢
    refine va_forget (fun q hq => by have := w3.2.2 q hq; unfold zAr zSZ at this; rw [hg] at this; exact this) ?_
    rw [Nat.zero_add, Nat.zero_add]
    refine W.widen (k := 601024) (n := 7293034) hr2 hr3 ?_
    exact lw_ret hx hb hr hlocks w4.1
