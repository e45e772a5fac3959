/-! Calls, and the whole: what my machine's runs say of the given machine. -/
def zlv (mi : zMi) (d : Nat) : Nat := 32 * mi.2.1.2.2 + d + 2
def zroom (mi : zMi) (d : Nat) (r : Option Value × zSh × zA × zB × Nat × Nat × Nat) : Room := { frames := zlv mi d, cells := r.2.2.2.2.1 + r.2.2.2.2.2.1, slots := r.2.2.2.2.2.2, locals := 64 * zlv mi d }
def zPre (g : zGl) (dc : Nat) (sh : zSh) (a : zA) (b : zB) (U : State) : Prop := va_P g.1 vwCl (zws g sh a b) U.heap ∧ zInv g sh a ∧ va_K g.1 vwCl (ztys g) U ∧ va_X g.2.2.1 g.2.2.2.1 g.2.2.2.2.1 U U.heap ∧ zSZ g ≤ U.heap.size ∧ zNx U ∧ (dc ≠ 0 → U.heap.size + 1 = zSZ g + sh.length)
def zPost (g : zGl) (r : Option Value × zSh × zA × zB × Nat × Nat × Nat) : Array Value → State → Outcome → State → Prop := fun _ st o t => (o = .returned r.1 ∧ va_P g.1 vwCl (zws g r.2.1 r.2.2.1 r.2.2.2.1) t.heap ∧ zInv g r.2.1 r.2.2.1) ∧ va_F (zAr g) st t
abbrev zwsM (mi : zMi) : List Cond := Cond.code mi.1.1 mi.1.2.1 mi.1.2.2.1 mi.1.2.2.2 :: zW
def zMet (g : zGl) (l : Launch) (mi : zMi) (d : Nat) (as : List Value) (sh : zSh) (a : zA) (b : zB) (r : Option Value × zSh × zA × zB × Nat × Nat × Nat) : Prop :=
  Met l mi.1.1 (zwsM mi) (zroom mi d r) (va_Pc (as.map (zvm g)) (zPre g r.2.2.2.2.1 sh a b)) (zPost g r) (r.2.2.2.2.1 + r.2.2.2.2.2.1) r.2.2.2.2.2.2 (zAr g)
theorem zNx_same {u U : State} (h : u.vm = U.vm) (hN : zNx u) : zNx U :=
  ⟨⟨va_Nw.same rfl h hN.1.1, va_Nw.same rfl h hN.1.2.1, va_Nw.same rfl h hN.1.2.2.1, va_Nw.same rfl h hN.1.2.2.2⟩, hN.2.1.moved (h ▸ Vm.Alike.refl _), hN.2.2.moved (h ▸ Vm.Alike.refl _)⟩
theorem zblind {g : zGl} {av : List Value} {dc : Nat} {sh : zSh} {a : zA} {b : zB} : FrameBlind (va_Pc av (zPre g dc sh a b)) := fun as U j mk q => by
  obtain ⟨q0, q1, q2, q3, q4, q5, q6, q7⟩ := q
  exact ⟨q0, q1, q2, va_K.moved (u := U) (U := U.calling j mk as) (Vm.Alike.refl U.vm) q3, va_X.moved (u := U) (U := U.calling j mk as) (Vm.Alike.refl U.vm) q4, q5, zNx_same (u := U) (U := U.calling j mk as) rfl q6, q7⟩
theorem zgood {ws : List Cond} (h : ∀ w ∈ ws, w ∈ zW) : GoodIn zW ws := fun w hw => ⟨h w hw, good_of_word (List.mem_filter.mp (h w hw)).2⟩
theorem zgoodM {mi : zMi} (h : zMok mi) : ∀ w ∈ zwsM mi, w ∈ zW := fun w hw => by
  rcases List.mem_cons.mp hw with e | e
  · rw [e]; exact h.1
  · exact e
section ZC
variable {g : zGl} {p : Program} {l : Launch} {e : Env} {R : Room} {s : State} {m : MethodId} {args : Array Value} {below : List Frame} {meth : Method} {c : Code} {Q : State → Prop} {mi mj : zMi} {r r' : Option Value × zSh × zA × zB × Nat × Nat × Nat}
  {pc d : Nat} {ls st rest as : List Value} {sh : zSh} {a : zA} {b : zB} {prm : zPm} {f : zEv} {κ : zCf → zR}
def zsum (r r' : Option Value × zSh × zA × zB × Nat × Nat × Nat) : Option Value × zSh × zA × zB × Nat × Nat × Nat := (r'.1, r'.2.1, r'.2.2.1, r'.2.2.2.1, r.2.2.2.2.1 + r'.2.2.2.2.1, r.2.2.2.2.2.1 + r'.2.2.2.2.2.1, r.2.2.2.2.2.2 + r'.2.2.2.2.2.2)
theorem zlow (hC : zCx g p m args meth c mi s) {H : Heap} {locs : List Loc} (g1 : va_P g.1 vwCl (zws g sh a b) H) (g3 : va_S (zAr g) s.heap H locs) : zSZ g + (sh.length - 1) ≤ H.size := by
  obtain ⟨hx, hb, hml, hown, hts, hKs, hX, ⟨hb0, hsz, hL⟩, hN, hini, hXc⟩ := id hC
  by_cases h1 : sh.length - 1 = 0
  · rw [h1]
    exact Nat.le_trans hsz g3.1
  · have h2 : (zws g sh a b)[sh.length - 2]? = some (zSZ g + (sh.length - 2), zce g (sh.getD (sh.length - 2 + 1) (0, 0, [])) (sh.length - 2 + 1) a b) := by
      rw [zws_at, if_pos (by omega)]
    have := (g1 _ _ h2).lt
    dsimp only at this
    omega
/-- behind a call -/
theorem zT_call (hC : zCx g p m args meth c mi s) (hlen : r.2.1.length = sh.length + r.2.2.2.2.1) (hdx : r.2.2.2.2.2.1 = 0) (hv : r.1.toList.map (zvm g) = r.1.toList)
    (run : ∀ (H : Heap) (locs : List Loc) (cells slots : Nat) (A : Array Slot), va_P g.1 vwCl (zws g sh a b) H → zInv g sh a → va_S (zAr g) s.heap H locs → zLV g mi.1.2.2.1 ls A → cells + (r.2.2.2.2.1 + r.2.2.2.2.2.1) ≤ R.cells → slots + r.2.2.2.2.2.2 ≤ R.slots → (r.2.2.2.2.1 ≠ 0 → H.size + 1 = zSZ g + sh.length) →
      ∃ (av : Array Value), va_Run p l e R s m args below meth c H locs cells slots (r.2.2.2.2.1 + r.2.2.2.2.2.1) r.2.2.2.2.2.2 (F0 m pc A (st.map (zvm g))) (rest.map (zvm g)) (zPost g r av) (zAr g))
    (h : zTT g p l e R s m args below meth c Q mi r' (pc + 3, ls, r.1.toList ++ rest, r.2.1, r.2.2.1, r.2.2.2.1)) : zTT g p l e R s m args below meth c Q mi (zsum r r') (pc, ls, st, sh, a, b) := by
  intro H locs cells slots A g1 g2 g3 g4 g5 g6 g7 g8
  unfold zsum at g5 g6 g7 g8
  dsimp only at g1 g2 g3 g4 g5 g6 g7 g8
  intro T hT X
  have hsize := X.heapSize
  rw [hT] at hsize
  have hlow := zlow hC g1 g3
  have hs0 : 0 < sh.length := (List.getElem?_eq_some_iff.mp g2.1).1
  have hex : r.2.2.2.2.1 ≠ 0 → H.size + 1 = zSZ g + sh.length := fun z => by
    have := g7 (by omega)
    omega
  obtain ⟨av, hrun⟩ := run H locs cells slots A g1 g2 g3 g4 (by omega) (by omega) hex
  obtain ⟨v2, st₀, t, T', L, h0, X', hL, e1, e2, ⟨⟨hv2, hP', hI'⟩, hF⟩, stp⟩ := hrun T hT X
  have hvv : v2 = r.1 := by cases hv2; rfl
  subst hvv
  unfold va_F at hF
  rw [h0, ← e1] at hF
  rw [← e1] at hP'
  have hS' : va_S (zAr g) s.heap T'.heap (locs ++ L) := ⟨Nat.le_trans g3.1 hF.1, fun q h1 h2 => (hF.2 q (Nat.lt_of_lt_of_le h1 g3.1) h2).trans (g3.2.1 q h1 h2), fun q hq => (List.mem_append.mp hq).elim (g3.2.2 q) (fun z => hL q z)⟩
  obtain ⟨t2, a1, b1⟩ := h T'.heap (locs ++ L) (cells + (r.2.2.2.2.1 + r.2.2.2.2.2.1)) (slots + r.2.2.2.2.2.2) A hP' hI' hS' g4 (by omega) (by omega) (fun z => by
      have := g7 (by omega)
      show _ = zSZ g + r.2.1.length
      omega) (fun H' locs' pc' A' w1 w2 w3 w4 => by
      have := g8 H' locs' pc' A' w1 w2 w3 w4
      rw [show cells + (r.2.2.2.2.1 + r.2.2.2.2.2.1) + (r'.2.2.2.2.1 + r'.2.2.2.2.2.1) = cells + (r.2.2.2.2.1 + r'.2.2.2.2.1 + (r.2.2.2.2.2.1 + r'.2.2.2.2.2.1)) by omega, show slots + r.2.2.2.2.2.2 + r'.2.2.2.2.2.2 = slots + (r.2.2.2.2.2.2 + r'.2.2.2.2.2.2) by omega]
      exact this) T' rfl X'
  dsimp only at a1
  rw [List.map_append, hv] at a1
  exact ⟨t2, stp t2 a1, b1⟩
theorem zpop_spec : ∀ {n : Nat} {acc st as rr : List Value}, zpop n acc st = some (as, rr) → acc.reverse ++ st = as.reverse ++ rr ∧ as.length = n + acc.length
  | 0, acc, st, as, rr, h => by cases h; exact ⟨rfl, by omega⟩
  | n + 1, acc, [], as, rr, h => by cases h
  | n + 1, acc, v :: st, as, rr, h => by
    obtain ⟨h1, h2⟩ := zpop_spec (n := n) (acc := v :: acc) h
    refine ⟨?_, by rw [h2, List.length_cons]; omega⟩
    rw [← h1, List.reverse_cons, List.append_assoc]
    rfl
theorem zcat_sum (l : List Value) : ((l.map (zvm g)).map fun v => v.category).sum = zcat l := by
  induction l with
  | nil => rfl
  | cons v t ih =>
    simp only [List.map_cons, List.sum_cons, zvm_cat] at ih ⊢
    rw [ih]
    rfl
theorem zPre_of (hC : zCx g p m args meth c mi s) {H : Heap} {locs : List Loc} {dc : Nat} (g1 : va_P g.1 vwCl (zws g sh a b) H) (g2 : zInv g sh a) (g3 : va_S (zAr g) s.heap H locs) (hex : dc ≠ 0 → H.size + 1 = zSZ g + sh.length) (U : State) (hU : U.heap = H) (hW : s.WarmedH U.vm) : zPre g dc sh a b U := by
  obtain ⟨hx, hb, hml, hown, hts, hKs, hX, ⟨hb0, hsz, hL⟩, hN, hini, hXc⟩ := id hC
  unfold zPre
  rw [hU]
  refine ⟨g1, g2, va_K.moved hW.alike hKs, ?_, Nat.le_trans hsz g3.1, zNx_warm hW hN, hex⟩
  exact (hX.kept (g3.2.1 _ (Nat.lt_of_lt_of_le hb0 hsz) (by unfold zAr; omega))).moved hW.alike
def zRm (R : Room) (mj : zMi) (d : Nat) : Prop := zlv mj d + 1 ≤ R.frames ∧ 8 + (mj.1.2.2.1 + 11) + 64 * zlv mj d ≤ R.locals
/-- the ways to call -/
theorem zrun_V (hC : zCx g p m args meth c mi s) (hM : zMet g l mj d as sh a b r) (hok : zMok mj) {i : Nat} (hp : zpV (zC mi.2.1.1) i mj) (hR : zRm R mj d) (hn : as.length = mj.2.1.2.1) {q : Nat} {at_ : List Value} (has : as = .ref q :: at_) (hq : zokc sh q mj.2.1.1 = true) (hcl : mj.2.1.1 < 10) (hst : st = as.reverse ++ rest) (hf : zcat rest ≤ 8) (hd : decode mi.1.2.1 pc = .ok (.invokevirtual i, 3))
    (H : Heap) (locs : List Loc) (cells slots : Nat) (A : Array Slot) (g1 : va_P g.1 vwCl (zws g sh a b) H) (g2 : zInv g sh a) (g3 : va_S (zAr g) s.heap H locs) (g4 : zLV g mi.1.2.2.1 ls A) (g5 : cells + (r.2.2.2.2.1 + r.2.2.2.2.2.1) ≤ R.cells) (g6 : slots + r.2.2.2.2.2.2 ≤ R.slots) (hex : r.2.2.2.2.1 ≠ 0 → H.size + 1 = zSZ g + sh.length) :
    ∃ (av : Array Value), va_Run p l e R s m args below meth c H locs cells slots (r.2.2.2.2.1 + r.2.2.2.2.2.1) r.2.2.2.2.2.2 (F0 m pc A (st.map (zvm g))) (rest.map (zvm g)) (zPost g r av) (zAr g) := by
  obtain ⟨hx, hb, hml, hown, hts, hKs, hX, ⟨hb0, hsz, hL⟩, hN, hini, hXc⟩ := id hC
  obtain ⟨p1, p2, p3, p4, n, p5, p6⟩ := hp
  obtain ⟨o1, o2, o3, o4, o5, o6⟩ := hok
  obtain ⟨nn, rs, hs⟩ := zokc_at hq (by omega)
  have hq0 := zne0 g2 hs (by omega)
  have he := zws_get (g := g) (a := a) (b := b) hs hq0
  rw [zce_obj hcl] at he
  have hgood : GoodIn zW (wsV (zC mi.2.1.1) i mj.1.1.cls mj.1.1 (zwsM mj)) := zgood (fun w hw => by
    rcases List.mem_append.mp hw with h | h
    · simp only [List.mem_cons, List.mem_nil_iff, or_false] at h
      rcases h with h | h | h | h <;> rw [h]
      · exact p1
      · exact p2
      · exact p3
      · exact o2
    · exact zgoodM ⟨o1, o2, o3, o4, o5, o6⟩ w h)
  subst has
  refine ⟨_, va_runV (C := mj.1.1.cls) (As := at_.map (zvm g)) (rest := rest.map (zvm g)) (b := zad g q) ⟨hx, hb, hml, hown, hts⟩ hM (cwV n hts hgood rfl rfl rfl ⟨rfl, o5.1, o5.2, p6⟩ hR) ⟨zblind, ?_, fun U hU hW => ⟨rfl, zPre_of hC g1 g2 g3 hex U hU hW⟩⟩ rfl ?_ g4.1 ?_ (lv_room (by rw [zcat_sum]; exact hf)) hd ⟨g5, g6⟩⟩
  · obtain ⟨cell, h1, h2, h3⟩ := va_recv hKs g1 (zcl mj.2.1.1 hcl) he
    exact ⟨cell, h1, h2, by rw [o3]; exact h3⟩
  · rw [List.length_map]
    rw [List.length_cons] at hn
    omega
  · rw [hst]
    simp [zvm]
theorem zrun_S (hC : zCx g p m args meth c mi s) (hM : zMet g l mj d as sh a b r) (hok : zMok mj) {i : Nat} (hp : zpS (zC mi.2.1.1) i mj) (hR : zRm R mj d) (hn : as.length = mj.2.1.2.1) (hst : st = as.reverse ++ rest) (hf : zcat rest ≤ 8) (hd : decode mi.1.2.1 pc = .ok (.invokestatic i, 3))
    (H : Heap) (locs : List Loc) (cells slots : Nat) (A : Array Slot) (g1 : va_P g.1 vwCl (zws g sh a b) H) (g2 : zInv g sh a) (g3 : va_S (zAr g) s.heap H locs) (g4 : zLV g mi.1.2.2.1 ls A) (g5 : cells + (r.2.2.2.2.1 + r.2.2.2.2.2.1) ≤ R.cells) (g6 : slots + r.2.2.2.2.2.2 ≤ R.slots) (hex : r.2.2.2.2.1 ≠ 0 → H.size + 1 = zSZ g + sh.length) :
    ∃ (av : Array Value), va_Run p l e R s m args below meth c H locs cells slots (r.2.2.2.2.1 + r.2.2.2.2.2.1) r.2.2.2.2.2.2 (F0 m pc A (st.map (zvm g))) (rest.map (zvm g)) (zPost g r av) (zAr g) := by
  obtain ⟨hx, hb, hml, hown, hts, hKs, hX, ⟨hb0, hsz, hL⟩, hN, hini, hXc⟩ := id hC
  obtain ⟨p1, p2, p3, p4⟩ := hp
  obtain ⟨o1, o2, o3, o4, o5, o6⟩ := id hok
  refine ⟨_, va_runS (As := as.map (zvm g)) (rest := rest.map (zvm g)) ⟨hx, hb, hml, hown, hts⟩ hM ⟨callB_of mj.2.1.2.1 hts (zgood (zgoodM hok)) rfl rfl rfl (hts _ o2) (hts _ p1) ⟨o5.1, o5.2, p4⟩ hR, hts _ p2⟩ ⟨zblind, fun U hU hW => ⟨rfl, zPre_of hC g1 g2 g3 hex U hU hW⟩⟩ rfl ?_ g4.1 ?_ (lv_room (by rw [zcat_sum]; exact hf)) hd ⟨g5, g6⟩⟩
  · rw [List.length_map]; exact hn
  · rw [hst]
    simp
theorem zrun_I (hC : zCx g p m args meth c mi s) (hM : zMet g l mj d as sh a b r) (hok : zMok mj) {i : Nat} (hp : zpI (zC mi.2.1.1) i mj ∨ zpN (zC mi.2.1.1) i mj) (hR : zRm R mj d) (hn : as.length = mj.2.1.2.1) {q : Nat} {at_ : List Value} (has : as = .ref q :: at_) (hst : st = as.reverse ++ rest) (hf : zcat rest ≤ 8) (hd : decode mi.1.2.1 pc = .ok (.invokespecial i, 3))
    (H : Heap) (locs : List Loc) (cells slots : Nat) (A : Array Slot) (g1 : va_P g.1 vwCl (zws g sh a b) H) (g2 : zInv g sh a) (g3 : va_S (zAr g) s.heap H locs) (g4 : zLV g mi.1.2.2.1 ls A) (g5 : cells + (r.2.2.2.2.1 + r.2.2.2.2.2.1) ≤ R.cells) (g6 : slots + r.2.2.2.2.2.2 ≤ R.slots) (hex : r.2.2.2.2.1 ≠ 0 → H.size + 1 = zSZ g + sh.length) :
    ∃ (av : Array Value), va_Run p l e R s m args below meth c H locs cells slots (r.2.2.2.2.1 + r.2.2.2.2.2.1) r.2.2.2.2.2.2 (F0 m pc A (st.map (zvm g))) (rest.map (zvm g)) (zPost g r av) (zAr g) := by
  obtain ⟨hx, hb, hml, hown, hts, hKs, hX, ⟨hb0, hsz, hL⟩, hN, hini, hXc⟩ := id hC
  obtain ⟨o1, o2, o3, o4, o5, o6⟩ := id hok
  subst has
  have hstk : (F0 m pc A (st.map (zvm g))).stack = (at_.map (zvm g)).reverse ++ .ref (zad g q) :: rest.map (zvm g) := by
    rw [hst]
    simp [zvm]
  rcases hp with ⟨p1, p2, p3, p3b, p4, n, p5, p6⟩ | ⟨p1, p2, p3, p3b, p4, n, p5, p6⟩
  · have hw : zwsM mj = Cond.code mj.1.1 mj.1.2.1 mj.1.2.2.1 none :: zW := by unfold zwsM; rw [p3b]
    refine ⟨_, va_runI (As := at_.map (zvm g)) (rest := rest.map (zvm g)) (b := zad g q) ⟨hx, hb, hml, hown, hts⟩ hM (cwI n hts (zgood (zgoodM hok)) hw rfl rfl (hts _ o2) (hts _ p1) (hts _ p2) p3 ⟨o5.1, o5.2, p6⟩ hR) ⟨zblind, fun U hU hW => ⟨rfl, zPre_of hC g1 g2 g3 hex U hU hW⟩⟩ rfl ?_ g4.1 hstk (lv_room (by rw [zcat_sum]; exact hf)) hd ⟨g5, g6⟩⟩
    rw [List.length_map]
    rw [List.length_cons] at hn
    omega
  · have hw : zwsM mj = Cond.code mj.1.1 mj.1.2.1 mj.1.2.2.1 none :: zW := by unfold zwsM; rw [p3b]
    refine ⟨_, va_runIN (As := at_.map (zvm g)) (rest := rest.map (zvm g)) (b := zad g q) ⟨hx, hb, hml, hown, hts⟩ hM ⟨va_cnB n hts (zgood (zgoodM hok)) hw rfl rfl (p1 s hN) (hts _ o2) ⟨o5.1, o5.2, p6⟩ hR, p3, hts _ p2⟩ ⟨zblind, fun U hU hW => ⟨rfl, zPre_of hC g1 g2 g3 hex U hU hW⟩⟩ rfl ?_ g4.1 hstk (lv_room (by rw [zcat_sum]; exact hf)) hd ⟨g5, g6⟩⟩
    rw [List.length_map]
    rw [List.length_cons] at hn
    omega
end ZC
