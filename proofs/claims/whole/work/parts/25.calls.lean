/-! Every run of my machine is one of the given machine: calls, and the whole. -/
theorem zCL7 {i x : Nat} (h : (10, i, x, 7, 1) ∈ zCL) : x = 0 := by
  have hall : ∀ f ∈ zCL, f.2.2.2.1 = 7 → f.2.2.1 = 0 := by decide +kernel
  exact hall _ h rfl
theorem zlawrank {k : Nat} {mi : zMi} (hm : zM k = some mi) (h : mi.2.1.1 = 10) : 9 ≤ mi.2.1.2.2 := by
  have hall : ∀ mi ∈ zMl, mi.2.1.1 = 10 → 9 ≤ mi.2.1.2.2 := by
    have h2 : (zMl.all fun mi => !(Nat.beq mi.2.1.1 10) || Nat.ble 9 mi.2.1.2.2) = true := by decide +kernel
    intro mi hmi h1
    have := List.all_eq_true.mp h2 mi hmi
    rw [h1] at this
    exact Nat.le_of_ble_eq_true this
  exact hall mi (List.mem_of_getElem? hm) h
theorem zlaw {R : Room} {k d : Nat} {mi : zMi} (hR : zlv mi d ≤ R.frames) (hm : zM k = some mi) (h : mi.2.1.1 = 10) : 290 ≤ R.frames := by
  have := zlawrank hm h
  unfold zlv at hR
  omega
theorem zlaw2 {R : Room} {k d : Nat} {mi : zMi} (hR : 64 * zlv mi d ≤ R.locals) (hm : zM k = some mi) (h : mi.2.1.1 = 10) : 18560 ≤ R.locals := by
  have := zlawrank hm h
  unfold zlv at hR
  omega
section ZQ
variable {g : zGl} {p : Program} {l : Launch} {e : Env} {R : Room} {s : State} {m : MethodId} {args : Array Value} {below : List Frame} {meth : Method} {c : Code} {Q : State → Prop} {mi mj : zMi} {r r1 r2 : Option Value × zSh × zA × zB × Nat × Nat × Nat}
  {pc nx d d' k x1 x2 x3 n i ln how : Nat} {ls st rr as : List Value} {sh : zSh} {a : zA} {b : zB} {prm : zPm} {κ : zCf → zR} {vt : Bool} {ins : Instr} {v : Int32} {w : Int64} {tl : List Nat}
theorem zgoC (hg : g.2.2.1 < zSZ g ∧ g.2.2.2.1 ≤ 2560) (IH : zSnd g l prm n) (hC : zCx g p m args meth c mi s) (hR1 : zlv mi d ≤ R.frames) (hR2 : 64 * zlv mi d ≤ R.locals) (hmj : zM x1 = some mj)
    (hw : (vt = true ∧ zpV (zC mi.2.1.1) i mj ∧ decode mi.1.2.1 pc = .ok (.invokevirtual i, 3)) ∨ (zpS (zC mi.2.1.1) i mj ∧ decode mi.1.2.1 pc = .ok (.invokestatic i, 3))) (hcl : zclo x1 tl = true) (hnr : Nat.beq (znar x1) as.length = true)
    (hlv : zlv mj d' + 1 ≤ zlv mi d) (hd' : d' ≤ 31) (hrc : zrcv vt as sh tl = true) (hft : zfits rr = true) (hst : st = as.reverse ++ rr) (he : zent zM (zev zM prm n) x1 d' as sh a b = some r1) (h1 : r1.2.1.length = sh.length + r1.2.2.2.2.1) (h2 : r1.2.2.2.2.2.1 = 0) (h3 : r1.1.toList.map (zvm g) = r1.1.toList)
    (hk : zTT g p l e R s m args below meth c Q mi r2 (pc + 3, ls, r1.1.toList ++ rr, r1.2.1, r1.2.2.1, r1.2.2.2.1)) : zTT g p l e R s m args below meth c Q mi (zsum r1 r2) (pc, ls, st, sh, a, b) := by
  have hnc : mj.2.1.1 ≠ 10 := by
    rcases hw with ⟨-, q, -⟩ | ⟨q, -⟩
    · have := q.2.2.2.1; omega
    · exact q.2.2.1
  have hok := zmo_of hmj hnc
  have hM := zmet_of hg IH hmj hok hnc hd' he
  have hml9 : mj.1.2.2.1 ≤ 9 := hok.2.2.2.2.2
  have hRm : zRm R mj d' := ⟨by omega, by omega⟩
  have hn : as.length = mj.2.1.2.1 := by
    have := Nat.eq_of_beq_eq_true hnr
    unfold znar at this
    rw [hmj] at this
    exact this.symm
  refine zT_call hC h1 h2 h3 (fun H locs cells slots A g1 g2 g3 g4 g5 g6 hex => ?_) hk
  rcases hw with ⟨rfl, hp, hd⟩ | ⟨hp, hd⟩
  · unfold zrcv at hrc
    rw [cond_true] at hrc
    split at hrc
    · next q at_ =>
      split at hrc
      · next c0 _ =>
        have hc0 : c0 = mj.2.1.1 := by
          have := Nat.eq_of_beq_eq_true hcl
          unfold zcln at this
          rw [hmj] at this
          exact this
        rw [hc0] at hrc
        exact zrun_V hC hM hok hp hRm hn rfl hrc hp.2.2.2.1 hst (zfit hft) hd H locs cells slots A g1 g2 g3 g4 g5 g6 hex
      · cases hrc
    · cases hrc
  · exact zrun_S hC hM hok hp hRm hn hst (zfit hft) hd H locs cells slots A g1 g2 g3 g4 g5 g6 hex
theorem zand {x y : Bool} (h : cond x y false = true) : x = true ∧ y = true := by
  cases x with
  | true => exact ⟨rfl, h⟩
  | false => cases h
set_option maxHeartbeats 4000000 in
theorem zC_ok (hg : g.2.2.1 < zSZ g ∧ g.2.2.2.1 ≤ 2560) (IH : zSnd g l prm n) (hprm : zPrmOK g l prm) (hm : zM k = some mi) (hC : zCx g p m args meth c mi s) (hR1 : zlv mi d ≤ R.frames) (hR2 : 64 * zlv mi d ≤ R.locals) (hd31 : d ≤ 31)
    (hhow : (vt = true ∧ how = 0 ∧ ins = .invokevirtual i) ∨ (vt = false ∧ how = 1 ∧ ins = .invokestatic i) ∨ (vt = false ∧ (how = 2 ∨ how = 3) ∧ ins = .invokespecial i))
    (hdc : decode mi.1.2.1 pc = .ok (ins, 3)) (hK : zokC k mi.2.1.1 mi.2.1.2.2 ((ins, ln), nx, (x1, x2, x3), (v, w), tl) i how = true) (hnx : nx = pc + 3)
    (KK : ∀ d0 r', κ d0 = some r' → zTT g p l e R s m args below meth c Q mi r' d0) (hr : zS zM prm (zev zM prm n) κ (zdecC vt d ((ins, ln), nx, (x1, x2, x3), (v, w), tl) ls st sh a b) = some r) : zTT g p l e R s m args below meth c Q mi r (pc, ls, st, sh, a, b) := by
  subst hnx
  unfold zokC at hK
  dsimp only at hK
  rw [Bool.and_eq_true] at hK
  obtain ⟨hK1, hK2⟩ := hK
  have hw := zCL_ok _ (zb5_mem hK1)
  have hcl := zb5_mem hK1
  unfold zdecC at hr
  dsimp only at hr
  split at hr
  · exact (zS_F hr).elim
  next as rr hpop =>
  obtain ⟨hst, hlen⟩ := zpop_spec hpop
  rw [List.reverse_nil, List.nil_append] at hst
  rw [List.length_nil, Nat.add_zero] at hlen
  have hrk : ∀ mj, zM x1 = some mj → Nat.blt (zrank x1) mi.2.1.2.2 = true → zlv mj 31 + 1 ≤ zlv mi d := by
    intro mj hmj h
    have h := zblt h
    unfold zrank at h
    rw [hmj] at h
    dsimp only at h
    unfold zlv
    omega
  have hself : Nat.beq x1 k = true → zM x1 = some mi := fun h => by rw [Nat.eq_of_beq_eq_true h]; exact hm
  have wV : ∀ (kd : Nat), (kd = 0 ∨ kd = 1 ∨ kd = 2 ∨ kd = 3) → zCLp (mi.2.1.1, i, x1, kd, how) → ∃ mj, zM x1 = some mj ∧ ((vt = true ∧ zpV (zC mi.2.1.1) i mj ∧ decode mi.1.2.1 pc = .ok (.invokevirtual i, 3)) ∨ (zpS (zC mi.2.1.1) i mj ∧ decode mi.1.2.1 pc = .ok (.invokestatic i, 3))) := by
    intro kd hkd hz
    rcases hhow with ⟨q1, q2, q3⟩ | ⟨q1, q2, q3⟩ | ⟨q1, q2, q3⟩
    · subst q2
      rw [q3] at hdc
      rcases hkd with rfl | rfl | rfl | rfl <;> obtain ⟨mj, z1, z2⟩ := hz <;> exact ⟨mj, z1, .inl ⟨q1, z2, hdc⟩⟩
    · subst q2
      rw [q3] at hdc
      rcases hkd with rfl | rfl | rfl | rfl <;> obtain ⟨mj, z1, z2⟩ := hz <;> exact ⟨mj, z1, .inr ⟨z2, hdc⟩⟩
    · rcases q2 with rfl | rfl <;> rcases hkd with rfl | rfl | rfl | rfl <;> exact hz.elim
  split at hr
  · -- an int back
    simp only [Bool.and_eq_true] at hK2
    obtain ⟨⟨k1, k2⟩, k3⟩ := hK2
    have hgd := zand (zS_gd hr)
    rw [hgd.1, cond_true, hgd.2] at hr
    obtain ⟨mj, hmj, hmw⟩ := wV 0 (.inl rfl) hw
    obtain ⟨r1, he, e1, ⟨x, e2⟩, e3, hk⟩ := zS_C0 hr
    rw [← zsum0 (r := r) e3]
    exact zgoC hg IH hC hR1 hR2 hmj hmw k1 (by rw [hlen]; exact k3) (hrk mj hmj k2) (Nat.le_refl _) hgd.1 hgd.2 hst he (by rw [e1, e3]; rfl) (by rw [e3]) (by rw [e2]; rfl) (KK _ _ hk)
  · -- nothing back
    simp only [Bool.and_eq_true] at hK2
    obtain ⟨⟨k1, k2⟩, k3⟩ := hK2
    have hgd := zand (zS_gd hr)
    rw [hgd.1, cond_true, hgd.2] at hr
    obtain ⟨mj, hmj, hmw⟩ := wV 1 (.inr (.inl rfl)) hw
    obtain ⟨r1, he, e1, e2, e3, hk⟩ := zS_C1 hr
    rw [← zsum0 (r := r) e3]
    exact zgoC hg IH hC hR1 hR2 hmj hmw k1 (by rw [hlen]; exact k3) (hrk mj hmj k2) (Nat.le_refl _) hgd.1 hgd.2 hst he (by rw [e1, e3]; rfl) (by rw [e3]) (by rw [e2]; rfl) (KK _ _ hk)
  · -- itself, an int back
    simp only [Bool.and_eq_true] at hK2
    obtain ⟨⟨k1, k2⟩, k3⟩ := hK2
    split at hr
    · exact (zS_F hr).elim
    next d' =>
    have hgd := zand (zS_gd hr)
    rw [hgd.1, cond_true, hgd.2] at hr
    obtain ⟨mj, hmj, hmw⟩ := wV 2 (.inr (.inr (.inl rfl))) hw
    have hmm : mj = mi := Option.some.inj (hmj.symm.trans (hself k2))
    obtain ⟨r1, he, e1, ⟨x, e2⟩, e3, hk⟩ := zS_C0 hr
    rw [← zsum0 (r := r) e3]
    exact zgoC hg IH hC hR1 hR2 hmj hmw k1 (by rw [hlen]; exact k3) (by rw [hmm]; unfold zlv; omega) (by omega) hgd.1 hgd.2 hst he (by rw [e1, e3]; rfl) (by rw [e3]) (by rw [e2]; rfl) (KK _ _ hk)
  · -- itself, nothing back
    simp only [Bool.and_eq_true] at hK2
    obtain ⟨⟨k1, k2⟩, k3⟩ := hK2
    split at hr
    · exact (zS_F hr).elim
    next d' =>
    have hgd := zand (zS_gd hr)
    rw [hgd.1, cond_true, hgd.2] at hr
    obtain ⟨mj, hmj, hmw⟩ := wV 3 (.inr (.inr (.inr rfl))) hw
    have hmm : mj = mi := Option.some.inj (hmj.symm.trans (hself k2))
    obtain ⟨r1, he, e1, e2, e3, hk⟩ := zS_C1 hr
    rw [← zsum0 (r := r) e3]
    exact zgoC hg IH hC hR1 hR2 hmj hmw k1 (by rw [hlen]; exact k3) (by rw [hmm]; unfold zlv; omega) (by omega) hgd.1 hgd.2 hst he (by rw [e1, e3]; rfl) (by rw [e3]) (by rw [e2]; rfl) (KK _ _ hk)
  · -- a constructor
    simp only [Bool.and_eq_true] at hK2
    obtain ⟨k2, k3⟩ := hK2
    have hgd0 := zand (zS_gd hr)
    have hgd := hgd0.2
    rw [hgd0.1, cond_true, hgd] at hr
    have wI : ∃ mj, zM x1 = some mj ∧ (zpI (zC mi.2.1.1) i mj ∨ zpN (zC mi.2.1.1) i mj) ∧ decode mi.1.2.1 pc = .ok (.invokespecial i, 3) := by
      rcases hhow with ⟨q1, q2, q3⟩ | ⟨q1, q2, q3⟩ | ⟨q1, q2, q3⟩
      · subst q2
        exact False.elim hw
      · subst q2
        exact False.elim hw
      · rw [q3] at hdc
        rcases q2 with rfl | rfl
        · obtain ⟨mj, z1, z2⟩ := hw
          exact ⟨mj, z1, .inl z2, hdc⟩
        · obtain ⟨mj, z1, z2⟩ := hw
          exact ⟨mj, z1, .inr z2, hdc⟩
    obtain ⟨mj, hmj, hp, hd⟩ := wI
    have hnc : mj.2.1.1 ≠ 10 := by
      rcases hp with q | q
      · exact q.2.2.2.2.1
      · exact q.2.2.2.2.1
    have hok := zmo_of hmj hnc
    obtain ⟨r1, r2, he, e1, e2, e3, hk, e4⟩ := zS_C4 hr
    have hM := zmet_of hg IH hmj hok hnc (Nat.le_refl 31) he
    have hml9 : mj.1.2.2.1 ≤ 9 := hok.2.2.2.2.2
    have hlv := hrk mj hmj k2
    have hn : as.length = mj.2.1.2.1 := by
      have := Nat.eq_of_beq_eq_true k3
      unfold znar at this
      rw [hmj] at this
      rw [hlen]
      exact this.symm
    have hex : ∃ q at_, as = .ref q :: at_ := by
      have h := hgd0.1
      split at h
      · exact ⟨_, _, rfl⟩
      · cases h
    obtain ⟨q, at_, has⟩ := hex
    rw [e4]
    exact zT_call hC e1 e3 (by rw [e2]; rfl) (fun H locs cells slots A g1 g2 g3 g4 g5 g6 hex => zrun_I hC hM hok hp ⟨by omega, by omega⟩ hn has hst (zfit hgd) hd H locs cells slots A g1 g2 g3 g4 g5 g6 hex) (KK _ _ hk)
  · -- Object's constructor
    split at hr
    · next q =>
      obtain ⟨hf, hk⟩ := zS_G hr
      obtain ⟨hx, hb, hml, hown, hts, hKs, hX, ⟨hb0, hsz, hL⟩, hN, hini, hXc⟩ := id hC
      have hd : decode mi.1.2.1 pc = .ok (.invokespecial i, 3) ∧ zpO (zC mi.2.1.1) i := by
        rcases hhow with ⟨q1, q2, q3⟩ | ⟨q1, q2, q3⟩ | ⟨q1, q2, q3⟩
        · subst q2; exact False.elim hw
        · subst q2; exact False.elim hw
        · rw [q3] at hdc
          rcases q2 with rfl | rfl
          · exact ⟨hdc, hw⟩
          · exact False.elim hw
      obtain ⟨hd, p1, p2, p3⟩ := hd
      subst hst
      refine zT_st (fun H locs cells slots A _ _ _ hL K => ?_) (KK _ _ hk)
      have hrm := lv_room (m := m) (pc := pc) (ls := A) (rest := rr.map (zvm g)) (st := rr.map (zvm g)) (by rw [zcat_sum]; exact zfit hf)
      refine W.objInit hx hb hown (hts _ p1) (hts _ p2) (hts _ p3) (g := F0 m pc A ((([Value.ref q] : List Value).reverse ++ rr).map (zvm g))) (a := zad g q) (rest := rr.map (zvm g)) rfl (hL.1.trans hml.symm) rfl hd (by unfold zlv at hR1; omega) ?_ K
      have : 2 * (F0 m pc A ((([Value.ref q] : List Value).reverse ++ rr).map (zvm g))).monitorRoom + ((rr.map (zvm g)).map fun v => v.category).sum ≤ 8 := hrm
      unfold zlv at hR2
      omega
    · exact (zS_F hr).elim
  · -- arraycopy
    split at hr
    · next q0 sp q1 dp nn =>
      obtain ⟨hgd, hin, hk⟩ := zS_I hr
      obtain ⟨hx, hb, hml, hown, hts, hKs, hX, ⟨hb0, hsz, hL⟩, hN, hini, hXc⟩ := id hC
      have hd : decode mi.1.2.1 pc = .ok (.invokestatic i, 3) ∧ zpA (zC mi.2.1.1) i := by
        rcases hhow with ⟨q1, q2, q3⟩ | ⟨q1, q2, q3⟩ | ⟨q1, q2, q3⟩
        · subst q2; exact False.elim hw
        · subst q2; rw [q3] at hdc; exact ⟨hdc, hw⟩
        · rcases q2 with rfl | rfl <;> exact False.elim hw
      obtain ⟨hd, p1, p2, p3, p4⟩ := hd
      obtain ⟨w1, hgd⟩ := zand hgd
      obtain ⟨w2, w3⟩ := zand hgd
      simp only [Bool.and_eq_true, Bool.not_eq_true', decide_eq_false_iff_not, decide_eq_true_eq] at hin
      obtain ⟨i1, i2, i3, i4, i5⟩ := hin
      obtain ⟨n0, rs0, hs0⟩ := zokc_at w1 (by decide)
      obtain ⟨n1, rs1, hs1⟩ := zokc_at w2 (by decide)
      have hl0 : zlen sh a q0 = n0 := by unfold zlen; rw [hs0]; rfl
      have hl1 : zlen sh a q1 = n1 := by unfold zlen; rw [hs1]; rfl
      rw [hl0] at i4
      rw [hl1] at i5
      subst hst
      intro H locs cells slots A g1 g2 g3 g4 g5 g6 g7 g8
      have hq0 := zne0 g2 hs0 (by decide)
      have hq1 := zne0 g2 hs1 (by decide)
      have he0 := zws_get (g := g) (a := a) (b := b) hs0 hq0
      have he1 := zws_get (g := g) (a := a) (b := b) hs1 hq1
      have hnf : nativeFrameWords "java/lang/System" "arraycopy" 5 ≤ 7 := by decide
      refine va_copyi (rest := rr.map (zvm g)) (sp := sp) (dp := dp) (n := nn) hx hb (hml.trans g4.1.symm) hown (hts _ p1) (hts _ p2) (hts _ p3) (hts _ p4) hKs g1 (zws_D g sh a b) g3 (q0 - 1) (q1 - 1) 0 0 he0 he1 rfl rfl rfl i1 i2 i3 i4 i5 (fun _ _ => rfl) (by unfold zlv at hR1; omega) (by rw [zcat_sum]; have := zfit w3; unfold zlv at hR2; omega) hd (fun H1 locs1 k1 _ k3 => ?_)
      rw [zws_set (a' := zcp a q0 sp.toNatClampNeg q1 dp.toNatClampNeg nn.toNatClampNeg) (b' := b) hq1 rfl hs1 (x := .inl (g.2.1 20, n1, .inl (va_cpy (a q0) (a q1) sp.toNatClampNeg dp.toNatClampNeg nn.toNatClampNeg))) (by show Sum.inl (_, _, Sum.inl _) = _; congr 4; funext j; unfold zcp va_cpy; simp) (fun j d hj hd2 _ => ⟨hd2, zce_A (fun y => by unfold zcp; rw [if_neg (fun z => hj z.1)]) (fun _ => rfl)⟩)] at k1
      refine KK _ _ hk H1 locs1 cells slots A k1 ⟨g2.1, fun j hj => ?_, ?_⟩ k3 g4 g5 g6 g7 g8
      · show zcp a q0 sp.toNatClampNeg q1 dp.toNatClampNeg nn.toNatClampNeg 0 j = _
        unfold zcp
        rw [if_neg (fun z => hq1 z.1.symm)]
        exact g2.2.1 j hj
      · show zcp a q0 sp.toNatClampNeg q1 dp.toNatClampNeg nn.toNatClampNeg 0 1000000 = _
        unfold zcp
        rw [if_neg (fun z => hq1 z.1.symm)]
        exact g2.2.2
    · exact (zS_F hr).elim
  · -- max
    split at hr
    · next x y =>
      obtain ⟨hf, hk⟩ := zS_G hr
      obtain ⟨hx, hb, hml, hown, hts, hKs, hX, ⟨hb0, hsz, hL⟩, hN, hini, hXc⟩ := id hC
      have hd : decode mi.1.2.1 pc = .ok (.invokestatic i, 3) ∧ zpM (zC mi.2.1.1) i Lib.Math.max.name Lib.Math.max.code := by
        rcases hhow with ⟨q1, q2, q3⟩ | ⟨q1, q2, q3⟩ | ⟨q1, q2, q3⟩
        · subst q2; exact False.elim hw
        · subst q2; rw [q3] at hdc; exact ⟨hdc, hw⟩
        · rcases q2 with rfl | rfl <;> exact False.elim hw
      obtain ⟨hd, p1, p2, p3, p4⟩ := hd
      subst hst
      intro H locs cells slots A g1 g2 g3 g4 g5 g6 g7 g8
      exact va_mmax (rest := rr.map (zvm g)) hx hb (hml.trans g4.1.symm) hown (hts _ p1) (hts _ p2) (hts _ p3) (hts _ p4) (by unfold zlv at hR1; omega) (by rw [zcat_sum]; have := zfit hf; unfold zlv at hR2; omega) (by omega) (by omega) hd (KK _ _ hk H locs cells slots A g1 g2 g3 g4 g5 g6 g7 g8)
    · exact (zS_F hr).elim
  · -- min
    split at hr
    · next x y =>
      obtain ⟨hf, hk⟩ := zS_G hr
      obtain ⟨hx, hb, hml, hown, hts, hKs, hX, ⟨hb0, hsz, hL⟩, hN, hini, hXc⟩ := id hC
      have hd : decode mi.1.2.1 pc = .ok (.invokestatic i, 3) ∧ zpM (zC mi.2.1.1) i Lib.Math.min.name Lib.Math.min.code := by
        rcases hhow with ⟨q1, q2, q3⟩ | ⟨q1, q2, q3⟩ | ⟨q1, q2, q3⟩
        · subst q2; exact False.elim hw
        · subst q2; rw [q3] at hdc; exact ⟨hdc, hw⟩
        · rcases q2 with rfl | rfl <;> exact False.elim hw
      obtain ⟨hd, p1, p2, p3, p4⟩ := hd
      subst hst
      intro H locs cells slots A g1 g2 g3 g4 g5 g6 g7 g8
      exact va_mmin (rest := rr.map (zvm g)) hx hb (hml.trans g4.1.symm) hown (hts _ p1) (hts _ p2) (hts _ p3) (hts _ p4) (by unfold zlv at hR1; omega) (by rw [zcat_sum]; have := zfit hf; unfold zlv at hR2; omega) (by omega) (by omega) hd (KK _ _ hk H locs cells slots A g1 g2 g3 g4 g5 g6 g7 g8)
    · exact (zS_F hr).elim
  · -- the law's row
    have hf := zS_gd hr
    rw [hf] at hr
    have hd : decode mi.1.2.1 pc = .ok (.invokestatic i, 3) ∧ mi.2.1.1 = 10 ∧ how = 1 := by
      rcases hhow with ⟨q1, q2, q3⟩ | ⟨q1, q2, q3⟩ | ⟨q1, q2, q3⟩
      · subst q2; exact False.elim hw
      · subst q2; rw [q3] at hdc; exact ⟨hdc, hw, rfl⟩
      · rcases q2 with rfl | rfl <;> exact False.elim hw
    obtain ⟨hd, hten, rfl⟩ := hd
    have hl3 : as.length = 3 := by rw [hlen]; exact (Nat.eq_of_beq_eq_true hK2).symm
    rw [hten] at hcl
    have hx0 : x1 = 0 := zCL7 hcl
    rw [hx0] at hcl
    have hr : zPR prm as sh a b (fun x a' b' => κ (pc + 3, ls, .int x :: rr, sh, a', b')) = some r := hr
    unfold zPR at hr
    split at hr
    · next x a' b' dx ds hpr =>
      split at hr
      · next v2 sh2 a2 b2 x2' s2 hk =>
        cases hr
        subst hst
        intro H locs cells slots A g1 g2 g3 g4 g5 g6 g7 g8
        dsimp only at g1 g2 g3 g4 g5 g6 g7 g8
        refine hprm p e R s m args below meth c Q mi hC hten (zlaw hR1 hm hten) (zlaw2 hR2 hm hten) pc i ls rr as sh a b x a' b' dx ds hpr hd hcl (zfit hf) hl3 H locs cells slots A g1 g2 g3 g4 (by omega) (by omega) (fun H' locs' k1 k2 k3 => ?_)
        refine KK _ _ hk H' locs' (cells + dx) (slots + ds) A k1 k2 k3 g4 (by show cells + dx + (0 + x2') ≤ _; omega) (by show slots + ds + s2 ≤ _; omega) (fun z => absurd rfl z) (fun H2 locs2 pc2 A2 w1 w2 w3 w4 => ?_)
        have := g8 H2 locs2 pc2 A2 w1 w2 w3 w4
        rw [show cells + dx + (0 + x2') = cells + (0 + (dx + x2')) by omega, show slots + ds + s2 = slots + (ds + s2) by omega]
        exact this
      · cases hr
    · cases hr
  · exact (zS_F hr).elim
end ZQ
