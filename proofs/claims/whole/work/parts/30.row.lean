/-! The law's own row: NotWhereYesterday.row, which may throw, and the law's method that catches it. -/
theorem dX8_row_0 : decode cX8_row 0 = .ok (.iload_n 1, 1) := by decide +kernel
theorem dX8_row_1 : decode cX8_row 1 = .ok (.ifCond .lt 11, 3) := by decide +kernel
theorem dX8_row_4 : decode cX8_row 4 = .ok (.iload_n 1, 1) := by decide +kernel
theorem dX8_row_5 : decode cX8_row 5 = .ok (.aload_n 0, 1) := by decide +kernel
theorem dX8_row_6 : decode cX8_row 6 = .ok (.getfield 359, 3) := by decide +kernel
theorem dX8_row_9 : decode cX8_row 9 = .ok (.if_icmp .lt 11, 3) := by decide +kernel
theorem dX8_row_12 : decode cX8_row 12 = .ok (.new 362, 3) := by decide +kernel
theorem dX8_row_15 : decode cX8_row 15 = .ok (.dup, 1) := by decide +kernel
theorem dX8_row_16 : decode cX8_row 16 = .ok (.invokespecial 364, 3) := by decide +kernel
theorem dX8_row_19 : decode cX8_row 19 = .ok (.athrow, 1) := by decide +kernel
theorem dX8_row_20 : decode cX8_row 20 = .ok (.aload_n 0, 1) := by decide +kernel
theorem dX8_row_21 : decode cX8_row 21 = .ok (.getfield 74, 3) := by decide +kernel
theorem dX8_row_24 : decode cX8_row 24 = .ok (.iload_n 1, 1) := by decide +kernel
theorem dX8_row_25 : decode cX8_row 25 = .ok (.iaload, 1) := by decide +kernel
theorem dX8_row_26 : decode cX8_row 26 = .ok (.ireturn, 1) := by decide +kernel
theorem dL_row_0 : decode cL_row 0 = .ok (.aload_n 2, 1) := by decide +kernel
theorem dL_row_1 : decode cL_row 1 = .ok (.iconst 0, 1) := by decide +kernel
theorem dL_row_2 : decode cL_row 2 = .ok (.aload_n 0, 1) := by decide +kernel
theorem dL_row_3 : decode cL_row 3 = .ok (.iload_n 1, 1) := by decide +kernel
theorem dL_row_4 : decode cL_row 4 = .ok (.invokevirtual 7, 3) := by decide +kernel
theorem dL_row_7 : decode cL_row 7 = .ok (.i2l, 1) := by decide +kernel
theorem dL_row_8 : decode cL_row 8 = .ok (.lastore, 1) := by decide +kernel
theorem dL_row_9 : decode cL_row 9 = .ok (.goto 6, 3) := by decide +kernel
theorem dL_row_12 : decode cL_row 12 = .ok (.astore_n 3, 1) := by decide +kernel
theorem dL_row_13 : decode cL_row 13 = .ok (.iconst 1, 1) := by decide +kernel
theorem dL_row_14 : decode cL_row 14 = .ok (.ireturn, 1) := by decide +kernel
theorem dL_row_15 : decode cL_row 15 = .ok (.iconst 0, 1) := by decide +kernel
theorem dL_row_16 : decode cL_row 16 = .ok (.ireturn, 1) := by decide +kernel
def zEx : String := "java/util/NoSuchElementException"
def zat : List Cond := vx_at0 RX8 364 zEx ["java/lang/RuntimeException", "java/lang/Exception"]
abbrev zwX : List Cond := Cond.code yX8_row cX8_row 2 (some .int) :: zW
abbrev zwL : List Cond := Cond.codeWith yL_row cL_row 4 (some .int) [(0, 9, 12, 13)] :: zW
def zrmX (k n : Nat) : Room := { frames := 20, cells := k, slots := n, locals := 400 }
def zrmL (k n : Nat) : Room := { frames := 40, cells := k, slots := n, locals := 800 }
section ZRW
variable {g : zGl} {p : Program} {l : Launch} {e : Env} {R : Room} {s : State} {m : MethodId} {args : Array Value} {below : List Frame} {meth : Method} {c : Code} {Q : State → Prop} {H : Heap} {locs : List Loc} {cells slots mc ms : Nat} {r : Option Value × zSh × zA × zB × Nat × Nat × Nat} {pc : Nat} {A : Array Slot} {st0 rest : List Value} {av : Array Value}
theorem zW_call (hr : va_Run p l e R s m args below meth c H locs cells slots mc ms (F0 m pc A st0) rest (zPost g r av) (zAr g)) (g3 : va_S (zAr g) s.heap H locs)
    (kk : ∀ (H1 : Heap) (locs1 : List Loc), va_P g.1 vwCl (zws g r.2.1 r.2.2.1 r.2.2.2.1) H1 → zInv g r.2.1 r.2.2.1 → va_S (zAr g) s.heap H1 locs1 → W p l e R s m args below meth c H1 locs1 (cells + mc) (slots + ms) Q (F0 m (pc + 3) A (r.1.toList ++ rest))) : W p l e R s m args below meth c H locs cells slots Q (F0 m pc A st0) := by
  intro T hT X
  obtain ⟨v2, st₀, t, T', L, h0, X', hL, e1, e2, ⟨⟨hv2, hP', hI'⟩, hF⟩, stp⟩ := hr T hT X
  have hvv : v2 = r.1 := by cases hv2; rfl
  subst hvv
  unfold va_F at hF
  rw [h0, ← e1] at hF
  rw [← e1] at hP'
  have hS' : va_S (zAr g) s.heap T'.heap (locs ++ L) := ⟨Nat.le_trans g3.1 hF.1, fun q h1 h2 => (hF.2 q (Nat.lt_of_lt_of_le h1 g3.1) h2).trans (g3.2.1 q h1 h2), fun q hq => (List.mem_append.mp hq).elim (g3.2.2 q) (fun z => hL q z)⟩
  obtain ⟨t2, a1, b1⟩ := kk T'.heap (locs ++ L) hP' hI' hS' T' rfl X'
  exact ⟨t2, stp t2 a1, b1⟩
/-- thrown: the world as it was, cells made beside it -/
def zThr (g : zGl) (sh : zSh) (a : zA) (b : zB) : String → State → State → Prop := fun E st t => E = zEx ∧ va_P g.1 vwCl (zws g sh a b) t.heap ∧ va_F (zAr g) st t
theorem zW_callX {sh : zSh} {a : zA} {b : zB} {Qa : State → Outcome → State → Prop} (hno : ∀ st v t, ¬ Qa st (.returned v) t) (hr : vx_Run p l e R s m args below meth c H locs cells slots mc ms (F0 m pc A st0) rest Qa (zThr g sh a b) (zAr g)) (g3 : va_S (zAr g) s.heap H locs)
    (kx : ∀ (q : Addr) (ce : Cell) (H1 : Heap) (locs1 : List Loc), va_P g.1 vwCl (zws g sh a b) H1 → va_S (zAr g) s.heap H1 locs1 → H1[q]? = some ce → ce.vm = .none → s.vm.findClass zEx = some ce.cls → vx_W p l e R s m args below meth c H1 locs1 (cells + mc) (slots + ms) Q (F0 m pc A rest) q) : W p l e R s m args below meth c H locs cells slots Q (F0 m pc A st0) := by
  intro T hT X
  rcases hr T hT X with ⟨v, st₀, t, T', L, h0, X', hL, e1, e2, hq, stp⟩ | ⟨q, st₀, t, T', L, E, ce, h0, X', hL, e1, e2, ⟨hE, hP', hF⟩, hce, hcv, hcl, stp⟩
  · exact absurd hq (hno _ _ _)
  · subst hE
    unfold va_F at hF
    rw [h0, ← e1] at hF
    rw [← e1] at hP' hce
    have hS' : va_S (zAr g) s.heap T'.heap (locs ++ L) := ⟨Nat.le_trans g3.1 hF.1, fun q h1 h2 => (hF.2 q (Nat.lt_of_lt_of_le h1 g3.1) h2).trans (g3.2.1 q h1 h2), fun q hq => (List.mem_append.mp hq).elim (g3.2.2 q) (fun z => hL q z)⟩
    obtain ⟨t2, a1, b1⟩ := kx q ce T'.heap (locs ++ L) hP' hS' hce hcv hcl T' rfl X'
    exact ⟨t2, stp.trans a1, b1⟩
end ZRW
theorem zX_at : zSH[1]? = some (8, 13, [some 2, some 8, some 12, some 19, some 20, some 21, some 26, some 27, some 35, some 171, some 172, none, none]) := rfl
theorem zT_at : zSH[171]? = some (20, 32, []) := rfl
theorem zO_at : zSH[237]? = some (22, 1, []) := rfl
theorem zad_1 (g : zGl) : zad g 1 = zSZ g := by unfold zad; rw [if_neg (by decide)]; omega
set_option maxHeartbeats 4000000 in
set_option maxRecDepth 100000 in
/-- row(i), 0 .. : the number -/
theorem zm_row (g : zGl) (hg : g.2.2.1 < zSZ g ∧ g.2.2.2.1 ≤ 2560) (l : Launch) (a : zA) (b : zB) (i : Int32) (h0 : ¬ i < 0) (h1 : ¬ a 1 12 ≤ i) (h2 : zin i 32 = true) :
    Met l yX8_row zwX (zrmX 0 0) (va_Pc ([.ref 1, .int i].map (zvm g)) (zPre g 0 zSH a b)) (zPost g (some (.int (a 171 i.toNatClampNeg)), zSH, a, b, 0, 0, 0)) 0 0 (zAr g) := by
  refine Met.ofW (cc := cX8_row) (maxL := 2) (ret := some .int) (by decide +kernel) rfl ?_
  intro p e s m args below meth c s₁ B hml hv
  obtain ⟨rfl, hP, hI, hKs, hX, hsz, hN, -⟩ := hv
  have hx := B.exec
  have hb := B.bytes
  have hts : ∀ w ∈ zW, w.before ([.ref 1, .int i].map (zvm g)).toArray s = true := fun w hw => atoms_spec (ws := zwX) B.pre w (List.mem_cons_of_mem _ hw)
  have hown : s.vm.findClass RX8 = some m.cls := findClass_of_methodNamed B.named
  have hS : va_S (zAr g) s.heap s.heap [] := va_S.rf
  have hl := lv_entry ([.ref 1, .int i].map (zvm g)) (n := 2) (Nat.le_of_ble_eq_true rfl)
  rw [lg_entry_eq]
  generalize (lg_sl ([.ref 1, .int i].map (zvm g)) ++ List.replicate (2 - (lg_sl ([.ref 1, .int i].map (zvm g))).length) Slot.unset).toArray = ls at hl ⊢
  have hl : lv_has ls 2 [(0, .ref (zad g 1)), (1, .int i)] := hl
  have he1 := zws_get (g := g) (a := a) (b := b) zX_at (by decide)
  rw [zce_obj (by decide)] at he1
  have he2 := zws_get (g := g) (a := a) (b := b) zT_at (by decide)
  refine lv_iload_n hx hb dX8_row_0 rfl (lv_at hl 1 rfl) ?_
  refine lv_if_lt (tgt := 12) hx hb dX8_row_1 (by decide) (fun z => absurd z h0) (fun _ => ?_)
  refine lv_iload_n hx hb dX8_row_4 rfl (lv_at hl 1 rfl) ?_
  refine lv_aload_n hx hb dX8_row_5 rfl (lv_at hl 0 rfl) ?_
  refine va_get hx hb hts (zu_ok 8 (by decide)) hown hKs hP 0 he1 (zcl 8 (by decide)) 12 (by decide) (hts _ (show Cond.fieldLink RX8 359 (TX8 12).1 (TX8 12).2.1 (TX8 12).2.2.1 ∈ zW from (zFL_ok _ (show (8, 359, 8, 12, 0) ∈ zFL by decide +kernel)).1)) (fun _ h => h) (zfl_at (by decide)) dX8_row_6 ?_
  refine lv_icmp_lt (x := i) (y := a 1 12) (tgt := 20) hx hb dX8_row_9 (by decide) (fun _ => ?_) (fun z => absurd (Int32.not_lt.mp z) h1)
  refine lv_aload_n hx hb dX8_row_20 rfl (lv_at hl 0 rfl) ?_
  refine va_get hx hb hts (zu_ok 8 (by decide)) hown hKs hP 0 he1 (zcl 8 (by decide)) 9 (by decide) (hts _ (show Cond.fieldLink RX8 74 (TX8 9).1 (TX8 9).2.1 (TX8 9).2.2.1 ∈ zW from (zFL_ok _ (show (8, 74, 8, 9, 2) ∈ zFL by decide +kernel)).1)) (fun _ h => h) (zfl_at (by decide)) dX8_row_21 ?_
  refine lv_iload_n hx hb dX8_row_24 rfl (lv_at hl 1 rfl) ?_
  refine va_iald hx hb hKs hP 170 0 he2 rfl (z_in h2) dX8_row_25 ?_
  exact W.iret hx hb B.returns (fun t ht _ => ⟨⟨rfl, by rw [ht]; exact hP, hI⟩, hS.F ht⟩) hS.2.2 dX8_row_26 B.notSynchronized


def zbad : List Cond := zat.filter (fun w => !goodWord w)
def zbk : Cond → Bool
  | .castable _ _ => true
  | .declares _ => true
  | _ => false
theorem zbad_k : zbad.all zbk = true := by decide +kernel
theorem zbad_in : ∀ w ∈ zbad, w ∈ lw_tbl := by
  have h : (zbad.all fun w => decide (w ∈ lw_tbl)) = true := by decide +kernel
  intro w hw
  exact of_decide_eq_true (List.all_eq_true.mp h w hw)
theorem zat_in : ∀ w ∈ zat.filter goodWord, w ∈ zW := by
  have h : ((zat.filter goodWord).all fun w => decide (w ∈ lw_tbl)) = true := by decide +kernel
  intro w hw
  exact zW_in (of_decide_eq_true (List.all_eq_true.mp h w hw)) (List.mem_filter.mp hw).2
theorem zbad_warm {w : Cond} (hw : w ∈ zbad) {s U : State} (hW : s.WarmedH U.vm) (h : va_Nw w s) : va_Nw w U := by
  have hk := List.all_eq_true.mp zbad_k w hw
  cases w with
  | castable C T => exact h.warmC hW
  | declares x => exact h.warmD hW
  | _ => cases hk
theorem zbad_tab {w : Cond} (hw : w ∈ zbad) : w.onTables = true := by
  have hk := List.all_eq_true.mp zbad_k w hw
  cases w with
  | castable C T => rfl
  | declares x => rfl
  | _ => cases hk
def zPreX (g : zGl) (sh : zSh) (a : zA) (b : zB) (U : State) : Prop := zPre g 0 sh a b U ∧ vx_Zq Bundle.tN "UNASSIGNED_STACK" Bundle.steD (zAr g) U U.heap ∧ vx_Zq Bundle.tN "SUPPRESSED_SENTINEL" Bundle.listD (zAr g) U U.heap ∧ ∀ w ∈ zbad, va_Nw w U
theorem zblindX {g : zGl} {av : List Value} {sh : zSh} {a : zA} {b : zB} : FrameBlind (va_Pc av (zPreX g sh a b)) := fun as U j mk q => by
  obtain ⟨q0, q1, q2, q3, q4⟩ := q
  exact ⟨q0, (zblind (av := av) as U j mk ⟨q0, q1⟩).2, vx_Zq.moved (u := U) (U := U.calling j mk as) (Vm.Alike.refl U.vm) q2, vx_Zq.moved (u := U) (U := U.calling j mk as) (Vm.Alike.refl U.vm) q3, fun w hw => va_Nw.same (u := U) (U := U.calling j mk as) (zbad_tab hw) rfl (q4 w hw)⟩
theorem zPreX_of {g : zGl} {s : State} {sh : zSh} {a : zA} {b : zB} (h : zPreX g sh a b s) {H : Heap} {locs : List Loc} (g1 : va_P g.1 vwCl (zws g sh a b) H) (g3 : va_S (zAr g) s.heap H locs) (hg : g.2.2.1 < zSZ g) (U : State) (hU : U.heap = H) (hW : s.WarmedH U.vm) : zPreX g sh a b U := by
  obtain ⟨⟨hP, hI, hKs, hX, hsz, hN, -⟩, k2, k3, k4⟩ := h
  refine ⟨⟨by rw [hU]; exact g1, hI, va_K.moved hW.alike hKs, ?_, by rw [hU]; exact Nat.le_trans hsz g3.1, zNx_warm hW hN, fun z => absurd rfl z⟩, ?_, ?_, fun w hw => zbad_warm hw hW (k4 w hw)⟩
  · rw [hU]
    exact (hX.kept (g3.2.1 _ (Nat.lt_of_lt_of_le hg hsz) (by unfold zAr; omega))).moved hW.alike
  · rw [hU]
    exact (vx_Zq.moved hW.alike k2).kept g3.2.1
  · rw [hU]
    exact (vx_Zq.moved hW.alike k3).kept g3.2.1
set_option maxHeartbeats 4000000 in
set_option maxRecDepth 100000 in
/-- row(i), none such: it throws -/
theorem zm_rowX (g : zGl) (hg : g.2.2.1 < zSZ g ∧ g.2.2.2.1 ≤ 2560) (l : Launch) (htr : l.stackTraces = false) (a : zA) (b : zB) (i : Int32) (h0 : i < 0 ∨ a 1 12 ≤ i) :
    vx_Met l yX8_row zwX (zrmX 1 6) (va_Pc ([.ref 1, .int i].map (zvm g)) (zPreX g zSH a b)) (fun _ _ _ _ => False) (zThr g zSH a b) 1 6 (zAr g) := by
  refine vx_ofW (cc := cX8_row) (maxL := 2) (ret := some .int) (by decide +kernel) rfl ?_
  intro p e s m args below meth c s₁ B hml hnx hv
  obtain ⟨rfl, hpx⟩ := hv
  obtain ⟨⟨hP, hI, hKs, hX, hsz, hN, -⟩, k2, k3, k4⟩ := id hpx
  have hx := B.exec
  have hb := B.bytes
  have hts : ∀ w ∈ zW, w.before ([.ref 1, .int i].map (zvm g)).toArray s = true := fun w hw => atoms_spec (ws := zwX) B.pre w (List.mem_cons_of_mem _ hw)
  have hown : s.vm.findClass RX8 = some m.cls := findClass_of_methodNamed B.named
  have hS : va_S (zAr g) s.heap s.heap [] := va_S.rf
  have hl := lv_entry ([.ref 1, .int i].map (zvm g)) (n := 2) (Nat.le_of_ble_eq_true rfl)
  rw [lg_entry_eq]
  generalize (lg_sl ([.ref 1, .int i].map (zvm g)) ++ List.replicate (2 - (lg_sl ([.ref 1, .int i].map (zvm g))).length) Slot.unset).toArray = ls at hl ⊢
  have hl : lv_has ls 2 [(0, .ref (zad g 1)), (1, .int i)] := hl
  have he1 := zws_get (g := g) (a := a) (b := b) zX_at (by decide)
  rw [zce_obj (by decide)] at he1
  have thr : W p l e (headSpec zwX (zrmX 1 6)).room s m ([.ref 1, .int i].map (zvm g)).toArray below meth c s.heap [] 0 0 (vx_MQ below (fun _ _ _ _ => False) (zThr g zSH a b) ([.ref 1, .int i].map (zvm g)).toArray s 1 6 (zAr g)) (F0 m 12 ls []) := by
    refine vx_throw0 (own := RX8) (cls := zEx) (names := ["java/lang/RuntimeException", "java/lang/Exception"]) (ik := 362) (ic := 364) (mc := 1) (ms := 6) (A := zAr g) hx hb htr hown (by decide +kernel) (by decide +kernel) (hts _ (zW_in (by decide +kernel) rfl)) (hts _ (zW_in (by decide +kernel) rfl)) (vx_hat (fun w hw => hts w (zat_in w hw)) (fun w hw => hw) (fun w hw => va_Nw.use (zbad_tab hw) (k4 w hw))) ?_ k2 k3 hS (hl.1.trans hml.symm) dX8_row_12 dX8_row_15 dX8_row_16 dX8_row_19 (fun x hx => (hnx x hx).elim) (by decide) (by decide) (by decide) (by decide) B.notSynchronized (fun t _ h1 h2 => ⟨rfl, hP.kept (fun k q hq => h2 q.1 (hP k q hq).lt), h1, fun q h3 _ => h2 q h3⟩) (fun z hz => nomatch hz) (Nat.le_refl _) (Nat.le_refl _)
    have hall : (Cond.classLink RX8 362 zEx :: Cond.initialized zEx :: zat).all vx_ot = true := by decide +kernel
    exact fun w hw => List.all_eq_true.mp hall w hw
  refine lv_iload_n hx hb dX8_row_0 rfl (lv_at hl 1 rfl) ?_
  refine lv_if_lt (tgt := 12) hx hb dX8_row_1 (by decide) (fun _ => thr) (fun hn => ?_)
  refine lv_iload_n hx hb dX8_row_4 rfl (lv_at hl 1 rfl) ?_
  refine lv_aload_n hx hb dX8_row_5 rfl (lv_at hl 0 rfl) ?_
  refine va_get hx hb hts (zu_ok 8 (by decide)) hown hKs hP 0 he1 (zcl 8 (by decide)) 12 (by decide) (hts _ (show Cond.fieldLink RX8 359 (TX8 12).1 (TX8 12).2.1 (TX8 12).2.2.1 ∈ zW from (zFL_ok _ (show (8, 359, 8, 12, 0) ∈ zFL by decide +kernel)).1)) (fun _ h => h) (zfl_at (by decide)) dX8_row_6 ?_
  exact lv_icmp_lt (x := i) (y := a 1 12) (tgt := 20) hx hb dX8_row_9 (by decide) (fun z => absurd z (Int32.not_lt.mpr (h0.resolve_left hn))) (fun _ => thr)
theorem zgoodX : GoodIn zW (wsV RL 7 RX8 yX8_row zwX) := zgood (fun w hw => by
  rcases List.mem_append.mp hw with h | h
  · simp only [List.mem_cons, List.mem_nil_iff, or_false] at h
    rcases h with h | h | h | h <;> rw [h]
    · exact zW_in (by decide +kernel) rfl
    · exact zW_in (by decide +kernel) rfl
    · exact zW_in (by decide +kernel) rfl
    · exact zW_in (by decide +kernel) rfl
  · rcases List.mem_cons.mp h with h | h
    · rw [h]; exact zW_in (by decide +kernel) rfl
    · exact h)
set_option maxHeartbeats 4000000 in
set_option maxRecDepth 100000 in
/-- the law's row: told -/
theorem zm_lrow (g : zGl) (hg : g.2.2.1 < zSZ g ∧ g.2.2.2.1 ≤ 2560) (l : Launch) (a : zA) (b : zB) (i : Int32) (h0 : ¬ i < 0) (h1 : ¬ a 1 12 ≤ i) (h2 : zin i 32 = true) :
    Met l yL_row zwL (zrmL 0 0) (va_Pc ([.ref 1, .int i, .ref 237].map (zvm g)) (zPre g 0 zSH a b)) (zPost g (some (.int 0), zSH, a, zupB b 237 0 (a 171 i.toNatClampNeg).toInt64, 0, 0, 0)) 0 0 (zAr g) := by
  refine va_MetW (cc := cL_row) (maxL := 4) (ret := some .int) (by decide +kernel) rfl ?_
  intro p e s m args below meth c s₁ B hml hv
  obtain ⟨rfl, hpre⟩ := hv
  obtain ⟨hP, hI, hKs, hX, hsz, hN, -⟩ := id hpre
  have hx := B.exec
  have hb := B.bytes
  have hts : ∀ w ∈ zW, w.before ([.ref 1, .int i, .ref 237].map (zvm g)).toArray s = true := fun w hw => atoms_spec (ws := zwL) B.pre w (List.mem_cons_of_mem _ hw)
  have hown : s.vm.findClass RL = some m.cls := findClass_of_methodNamed B.named
  have hS : va_S (zAr g) s.heap s.heap [] := va_S.rf
  have hl := lv_entry ([.ref 1, .int i, .ref 237].map (zvm g)) (n := 4) (Nat.le_of_ble_eq_true rfl)
  rw [lg_entry_eq]
  generalize (lg_sl ([.ref 1, .int i, .ref 237].map (zvm g)) ++ List.replicate (4 - (lg_sl ([.ref 1, .int i, .ref 237].map (zvm g))).length) Slot.unset).toArray = ls at hl ⊢
  have hl : lv_has ls 4 [(0, .ref (zad g 1)), (1, .int i), (2, .ref (zad g 237))] := hl
  have he1 := zws_get (g := g) (a := a) (b := b) zX_at (by decide)
  rw [zce_obj (by decide)] at he1
  refine lv_aload_n hx hb dL_row_0 rfl (lv_at hl 2 rfl) ?_
  refine lv_iconst (v := 0) hx hb dL_row_1 (by decide) ?_
  refine lv_aload_n hx hb dL_row_2 rfl (lv_at hl 0 rfl) ?_
  refine lv_iload_n hx hb dL_row_3 rfl (lv_at hl 1 rfl) ?_
  refine zW_call (rest := [.int 0, .ref (zad g 237)]) (va_runV (C := RX8) (As := [.int i]) (rest := [.int 0, .ref (zad g 237)]) (b := zad g 1) ⟨hx, hb, hml, hown, hts⟩ (zm_row g hg l a b i h0 h1 h2) (cwV 1 hts zgoodX rfl rfl rfl ⟨rfl, by decide +kernel, by decide +kernel, by decide +kernel⟩ ⟨by decide, by decide⟩) ⟨zblind, va_recv hKs hP (zcl 8 (by decide)) he1, fun U hU hW => ⟨rfl, ?_⟩⟩ rfl rfl hl.1 rfl (lv_room (Nat.le_of_ble_eq_true rfl)) dL_row_4 ⟨Nat.le_refl _, Nat.le_refl _⟩) hS (fun H1 locs1 k1 k2 k3 => ?_)
  · refine ⟨by rw [hU]; exact hP, hI, va_K.moved hW.alike hKs, by rw [hU]; exact hX.moved hW.alike, by rw [hU]; exact hsz, zNx_warm hW hN, fun z => absurd rfl z⟩
  have he3 := zws_get (g := g) (a := a) (b := b) zO_at (by decide)
  refine lv_i2l (v := (a 171 i.toNatClampNeg).toInt64) hx hb dL_row_7 rfl ?_
  refine va_last (i := 0) hx hb hKs k1 (zws_D g zSH a b) k3 236 2 he3 rfl (z_in rfl) dL_row_8 (fun H2 locs2 w1 _ w3 => ?_)
  have hf : vp_updL (b 237) 0 (a 171 i.toNatClampNeg).toInt64 = zupB b 237 0 (a 171 i.toNatClampNeg).toInt64 237 := by
    funext j
    unfold zupB vp_updL
    by_cases h : j = 0
    · rw [if_pos h, if_pos ⟨rfl, h⟩]
    · rw [if_neg h, if_neg (fun z => h z.2)]
  have hset : (zws g zSH a b).set 236 (zad g 237, .inl (g.2.1 22, 1, .inr (.inl (zupB b 237 0 (a 171 i.toNatClampNeg).toInt64 237)))) = zws g zSH a (zupB b 237 0 (a 171 i.toNatClampNeg).toInt64) := zws_set (q := 237) (a' := a) (b' := zupB b 237 0 (a 171 i.toNatClampNeg).toInt64) (by decide) rfl zO_at (x := .inl (g.2.1 22, 1, .inr (.inl (zupB b 237 0 (a 171 i.toNatClampNeg).toInt64 237)))) rfl (fun j d hj hd2 _ => ⟨hd2, zce_A (fun _ => rfl) (fun y => by unfold zupB; rw [if_neg (fun z => hj z.1)])⟩)
  have w1 : va_P g.1 vwCl ((zws g zSH a b).set 236 (zad g 237, .inl (g.2.1 22, 1, .inr (.inl (vp_updL (b 237) 0 (a 171 i.toNatClampNeg).toInt64))))) H2 := w1
  rw [hf, hset] at w1
  refine lv_goto (tgt := 15) hx hb dL_row_9 (by decide) ?_
  refine lv_iconst (v := 0) hx hb dL_row_15 (by decide) ?_
  exact W.iret hx hb B.returns (fun t ht _ => ⟨⟨rfl, by rw [ht]; exact w1, hI⟩, w3.F ht⟩) w3.2.2 dL_row_16 B.notSynchronized
set_option maxHeartbeats 4000000 in
set_option maxRecDepth 100000 in
/-- the law's row: thrown and caught -/
theorem zm_lrowX (g : zGl) (hg : g.2.2.1 < zSZ g ∧ g.2.2.2.1 ≤ 2560) (l : Launch) (htr : l.stackTraces = false) (a : zA) (b : zB) (i : Int32) (h0 : i < 0 ∨ a 1 12 ≤ i) :
    Met l yL_row zwL (zrmL 1 6) (va_Pc ([.ref 1, .int i, .ref 237].map (zvm g)) (zPreX g zSH a b)) (zPost g (some (.int 1), zSH, a, b, 0, 1, 6)) 1 6 (zAr g) := by
  refine va_MetW (cc := cL_row) (maxL := 4) (ret := some .int) (by decide +kernel) rfl ?_
  intro p e s m args below meth c s₁ B hml hv
  obtain ⟨rfl, hpx⟩ := hv
  obtain ⟨⟨hP, hI, hKs, hX, hsz, hN, -⟩, x2, x3, x4⟩ := id hpx
  have hx := B.exec
  have hb := B.bytes
  have hts0 := atoms_spec (ws := zwL) B.pre
  have hts : ∀ w ∈ zW, w.before ([.ref 1, .int i, .ref 237].map (zvm g)).toArray s = true := fun w hw => hts0 w (List.mem_cons_of_mem _ hw)
  have htab := vx_table (x := yL_row) B (hts0 _ List.mem_cons_self)
  have hown : s.vm.findClass RL = some m.cls := findClass_of_methodNamed B.named
  have hS : va_S (zAr g) s.heap s.heap [] := va_S.rf
  have hl := lv_entry ([.ref 1, .int i, .ref 237].map (zvm g)) (n := 4) (Nat.le_of_ble_eq_true rfl)
  rw [lg_entry_eq]
  generalize (lg_sl ([.ref 1, .int i, .ref 237].map (zvm g)) ++ List.replicate (4 - (lg_sl ([.ref 1, .int i, .ref 237].map (zvm g))).length) Slot.unset).toArray = ls at hl ⊢
  have hl : lv_has ls 4 [(0, .ref (zad g 1)), (1, .int i), (2, .ref (zad g 237))] := hl
  have he1 := zws_get (g := g) (a := a) (b := b) zX_at (by decide)
  rw [zce_obj (by decide)] at he1
  refine lv_aload_n hx hb dL_row_0 rfl (lv_at hl 2 rfl) ?_
  refine lv_iconst (v := 0) hx hb dL_row_1 (by decide) ?_
  refine lv_aload_n hx hb dL_row_2 rfl (lv_at hl 0 rfl) ?_
  refine lv_iload_n hx hb dL_row_3 rfl (lv_at hl 1 rfl) ?_
  refine zW_callX (rest := [.int 0, .ref (zad g 237)]) (fun _ _ _ z => z) (vx_runV (C := RX8) (As := [.int i]) (rest := [.int 0, .ref (zad g 237)]) (b := zad g 1) ⟨hx, hb, hml, hown, hts⟩ (zm_rowX g hg l htr a b i h0) (cwV 1 hts zgoodX rfl rfl rfl ⟨rfl, by decide +kernel, by decide +kernel, by decide +kernel⟩ ⟨by decide, by decide⟩) ⟨zblindX, va_recv hKs hP (zcl 8 (by decide)) he1, fun U hU hW => ⟨rfl, zPreX_of hpx hP hS hg.1 U hU hW⟩⟩ rfl rfl hl.1 rfl (lv_room (Nat.le_of_ble_eq_true rfl)) dL_row_4 ⟨Nat.le_refl _, Nat.le_refl _⟩) hS (fun q ce H1 locs1 k1 k3 hce hcv hcl => ?_)
  refine vx_catch (own := RL) (name := zEx) (E := zEx) hown [] { startPc := 0, endPc := 9, handlerPc := 12, catchType := 13 } [] htab (fun z hz => nomatch hz) (by decide) (by decide) (hts _ (zW_in (by decide +kernel) rfl)) (va_Nw.use rfl (x4 (.castable zEx zEx) (by decide +kernel))) hce hcv hcl ?_
  refine lv_astore_n (lv' := [(3, .ref q), (0, .ref (zad g 1)), (1, .int i), (2, .ref (zad g 237))]) hx hb dL_row_12 rfl hl (by decide) rfl (fun ls hl => ?_)
  refine lv_iconst (v := 1) hx hb dL_row_13 (by decide) ?_
  exact W.iret hx hb B.returns (fun t ht _ => ⟨⟨rfl, by rw [ht]; exact k1, hI⟩, k3.F ht⟩) k3.2.2 dL_row_14 B.notSynchronized
theorem zgoodL : GoodIn zW (va_wsS RL 208 yL_row zwL) := zgood (fun w hw => by
  rcases List.mem_append.mp hw with h | h
  · simp only [List.mem_cons, List.mem_nil_iff, or_false] at h
    rcases h with h | h | h <;> rw [h]
    · exact zW_in (by decide +kernel) rfl
    · exact zW_in (by decide +kernel) rfl
    · exact zW_in (by decide +kernel) rfl
  · rcases List.mem_cons.mp h with h | h
    · rw [h]; exact zW_in (by decide +kernel) rfl
    · exact h)
theorem zCL208 {i : Nat} (h : (10, i, 0, 7, 1) ∈ zCL) : i = 208 := by
  have hall : ∀ f ∈ zCL, f.2.2.2.1 = 7 → f.2.1 = 208 := by decide +kernel
  exact hall _ h rfl
set_option maxHeartbeats 4000000 in
theorem zprm_ok (g : zGl) (hg : g.2.2.1 < zSZ g ∧ g.2.2.2.1 ≤ 2560) (l : Launch) (htr : l.stackTraces = false) : zPrmOK g l zprm := by
  intro p e R s m args below meth c Q mi hC h10 hR1 hR2 pc i ls rest as sh a b x a' b' dx ds hpr hd hcl hf hl3 H locs cells slots A g1 g2 g3 g4 g5 g6 K
  obtain ⟨hx, hb, hml, hown, hts, hKs, hX, ⟨hb0, hsz, hL⟩, hN, hini, hXc⟩ := id hC
  have hXc := hXc h10
  obtain rfl := zCL208 hcl
  rw [h10] at hown
  have hown : s.vm.findClass RL = some m.cls := hown
  unfold zprm at hpr
  split at hpr
  · next hsh =>
    subst hsh
    split at hpr
    · next i =>
      have hst : ((([.ref 1, .int i, .ref 237] : List Value).reverse ++ rest).map (zvm g)) = ([.ref 1, .int i, .ref 237].map (zvm g)).reverse ++ rest.map (zvm g) := by simp
      split at hpr
      · next hi =>
        cases hpr
        refine zW_call (rest := rest.map (zvm g)) (r := (some (.int 1), zSH, a, b, 0, 1, 6)) (vx_runSW (As := [.ref 1, .int i, .ref 237].map (zvm g)) (rest := rest.map (zvm g)) ⟨hx, hb, hml, hown, hts⟩ (zm_lrowX g hg l htr a b i hi) (vx_cwSW 3 hts zgoodL rfl rfl rfl ⟨by decide +kernel, by decide +kernel, by decide +kernel⟩ ⟨by show 40 + 1 ≤ _; omega, by show 8 + (4 + 11) + 800 ≤ _; omega⟩) ⟨zblindX, fun U hU hW => ⟨rfl, ⟨⟨by rw [hU]; exact g1, g2, va_K.moved hW.alike hKs, ?_, by rw [hU]; exact Nat.le_trans hsz g3.1, zNx_warm hW hN, fun z => absurd rfl z⟩, ?_, ?_, fun w hw => zbad_warm hw hW (va_Nw.of (zbad_tab hw) (hXc.2.2 w (zbad_in w hw)))⟩⟩⟩ rfl rfl g4.1 hst (lv_room (by rw [zcat_sum]; exact hf)) hd ⟨g5, g6⟩) g3 K
        · rw [hU]
          exact (hX.kept (g3.2.1 _ (Nat.lt_of_lt_of_le hb0 hsz) (by unfold zAr; omega))).moved hW.alike
        · rw [hU]
          exact (vx_Zq.moved hW.alike hXc.1).kept g3.2.1
        · rw [hU]
          exact (vx_Zq.moved hW.alike hXc.2.1).kept g3.2.1
      · next hi =>
        split at hpr
        · next hz =>
          cases hpr
          refine zW_call (rest := rest.map (zvm g)) (r := (some (.int 0), zSH, a, zupB b 237 0 (a 171 i.toNatClampNeg).toInt64, 0, 0, 0)) (vx_runSW (As := [.ref 1, .int i, .ref 237].map (zvm g)) (rest := rest.map (zvm g)) ⟨hx, hb, hml, hown, hts⟩ (zm_lrow g hg l a b i (fun z => hi (.inl z)) (fun z => hi (.inr z)) hz) (vx_cwSW 3 hts zgoodL rfl rfl rfl ⟨by decide +kernel, by decide +kernel, by decide +kernel⟩ ⟨by show 40 + 1 ≤ _; omega, by show 8 + (4 + 11) + 800 ≤ _; omega⟩) ⟨zblind, fun U hU hW => ⟨rfl, ⟨by rw [hU]; exact g1, g2, va_K.moved hW.alike hKs, ?_, by rw [hU]; exact Nat.le_trans hsz g3.1, zNx_warm hW hN, fun z => absurd rfl z⟩⟩⟩ rfl rfl g4.1 hst (lv_room (by rw [zcat_sum]; exact hf)) hd ⟨g5, g6⟩) g3 K
          rw [hU]
          exact (hX.kept (g3.2.1 _ (Nat.lt_of_lt_of_le hb0 hsz) (by unfold zAr; omega))).moved hW.alike
        · cases hpr
    · cases hpr
  · cases hpr
