/-! One instruction of my machine is one of the given machine. -/
/-- what the law's own row wants of the start: it throws -/
def zXc (g : zGl) (args : Array Value) (s : State) : Prop := vx_Zq Bundle.tN "UNASSIGNED_STACK" Bundle.steD (zAr g) s s.heap ∧ vx_Zq Bundle.tN "SUPPRESSED_SENTINEL" Bundle.listD (zAr g) s s.heap ∧ ∀ w ∈ lw_tbl, w.before args s = true
section ZS
variable (g : zGl) (p : Program) (l : Launch) (e : Env) (R : Room) (s : State) (m : MethodId) (args : Array Value) (below : List Frame) (meth : Method) (c : Code) (Q : State → Prop) (mi : zMi)
/-- an activation of method mi -/
def zCx (s : State) : Prop := p.tables.exec = Jvm.exec ∧ c.code = mi.1.2.1 ∧ c.maxLocals = mi.1.2.2.1 ∧ s.vm.findClass (zC mi.2.1.1) = some m.cls ∧ (∀ w ∈ zW, w.before args s = true) ∧ va_K g.1 vwCl (ztys g) s ∧ va_X g.2.2.1 g.2.2.2.1 g.2.2.2.2.1 s s.heap ∧ (g.2.2.1 < zSZ g ∧ zSZ g ≤ s.heap.size ∧ g.2.2.2.1 ≤ 2560) ∧ zNx s ∧ (decide (mi.1.1.name = "<init>") = true → meth.name = "<init>") ∧ (mi.2.1.1 = 10 → zXc g args s)
def zEnd (v : Option Value) (pc : Nat) : Prop := match v with
  | none => decode mi.1.2.1 pc = .ok (.return_, 1) ∧ mi.1.2.2.2 = none
  | some v => decode mi.1.2.1 pc = .ok (.ireturn, 1) ∧ ∃ x, v = .int x ∧ (mi.1.2.2.2 = some .int ∨ (mi.1.2.2.2 = some .boolean ∧ narrow .boolean (.int x) = .int x))
def zTT (r : Option Value × zSh × zA × zB × Nat × Nat × Nat) (cf : zCf) : Prop :=
  ∀ (H : Heap) (locs : List Loc) (cells slots : Nat) (A : Array Slot), va_P g.1 vwCl (zws g cf.2.2.2.1 cf.2.2.2.2.1 cf.2.2.2.2.2) H → zInv g cf.2.2.2.1 cf.2.2.2.2.1 → va_S (zAr g) s.heap H locs → zLV g mi.1.2.2.1 cf.2.1 A →
    cells + (r.2.2.2.2.1 + r.2.2.2.2.2.1) ≤ R.cells → slots + r.2.2.2.2.2.2 ≤ R.slots → (r.2.2.2.2.1 ≠ 0 → s.heap.size + 1 + cells = zSZ g + cf.2.2.2.1.length) →
    (∀ (H' : Heap) (locs' : List Loc) (pc' : Nat) (A' : Array Slot), va_P g.1 vwCl (zws g r.2.1 r.2.2.1 r.2.2.2.1) H' → zInv g r.2.1 r.2.2.1 → va_S (zAr g) s.heap H' locs' → zEnd mi r.1 pc' →
      W p l e R s m args below meth c H' locs' (cells + (r.2.2.2.2.1 + r.2.2.2.2.2.1)) (slots + r.2.2.2.2.2.2) Q (F0 m pc' A' r.1.toList)) →
    W p l e R s m args below meth c H locs cells slots Q (F0 m cf.1 A (cf.2.2.1.map (zvm g)))
end ZS
section ZS2
variable {g : zGl} {p : Program} {l : Launch} {e : Env} {R : Room} {s : State} {m : MethodId} {args : Array Value} {below : List Frame} {meth : Method} {c : Code} {Q : State → Prop} {mi : zMi} {r : Option Value × zSh × zA × zB × Nat × Nat × Nat}
  {pc nx : Nat} {ls ls' st st' : List Value} {sh sh' : zSh} {a a' : zA} {b b' : zB}
theorem zT_st (row : ∀ (H : Heap) (locs : List Loc) (cells slots : Nat) (A : Array Slot), va_P g.1 vwCl (zws g sh a b) H → zInv g sh a → va_S (zAr g) s.heap H locs → zLV g mi.1.2.2.1 ls A → W p l e R s m args below meth c H locs cells slots Q (F0 m nx A (st'.map (zvm g))) → W p l e R s m args below meth c H locs cells slots Q (F0 m pc A (st.map (zvm g))))
    (h : zTT g p l e R s m args below meth c Q mi r (nx, ls, st', sh, a, b)) : zTT g p l e R s m args below meth c Q mi r (pc, ls, st, sh, a, b) :=
  fun H locs cells slots A h1 h2 h3 h4 h5 h6 h7 h8 => row H locs cells slots A h1 h2 h3 h4 (h H locs cells slots A h1 h2 h3 h4 h5 h6 h7 h8)
/-- locals change -/
theorem zT_lv (row : ∀ (H : Heap) (locs : List Loc) (cells slots : Nat) (A : Array Slot), zLV g mi.1.2.2.1 ls A → (∀ A' : Array Slot, zLV g mi.1.2.2.1 ls' A' → W p l e R s m args below meth c H locs cells slots Q (F0 m nx A' (st'.map (zvm g)))) → W p l e R s m args below meth c H locs cells slots Q (F0 m pc A (st.map (zvm g))))
    (h : zTT g p l e R s m args below meth c Q mi r (nx, ls', st', sh, a, b)) : zTT g p l e R s m args below meth c Q mi r (pc, ls, st, sh, a, b) :=
  fun H locs cells slots A h1 h2 h3 h4 h5 h6 h7 h8 => row H locs cells slots A h4 fun A' h4' => h H locs cells slots A' h1 h2 h3 h4' h5 h6 h7 h8
/-- the memory changes -/
theorem zT_mm (hl : sh'.length = sh.length) (hi : zInv g sh a → zInv g sh' a') (row : ∀ (H : Heap) (locs : List Loc) (cells slots : Nat) (A : Array Slot), va_P g.1 vwCl (zws g sh a b) H → zInv g sh a → va_S (zAr g) s.heap H locs → (∀ (H' : Heap) (locs' : List Loc), va_P g.1 vwCl (zws g sh' a' b') H' → va_S (zAr g) s.heap H' locs' → W p l e R s m args below meth c H' locs' cells slots Q (F0 m nx A (st'.map (zvm g)))) → W p l e R s m args below meth c H locs cells slots Q (F0 m pc A (st.map (zvm g))))
    (h : zTT g p l e R s m args below meth c Q mi r (nx, ls, st', sh', a', b')) : zTT g p l e R s m args below meth c Q mi r (pc, ls, st, sh, a, b) :=
  fun H locs cells slots A h1 h2 h3 h4 h5 h6 h7 h8 => row H locs cells slots A h1 h2 h3 fun H' locs' h1' h3' => h H' locs' cells slots A h1' (hi h2) h3' h4 h5 h6 (fun q => by show _ = zSZ g + sh'.length; rw [hl]; exact h7 q) h8
variable {prm : zPm} {f : zEv} {κ : zCf → zR}
theorem zS_F (h : zS zM prm f κ zF = some r) : False := by cases h
theorem zS_G {t : Bool} {d : zCf} (h : zS zM prm f κ (zG t d) = some r) : t = true ∧ κ d = some r := by
  cases t with
  | true => exact ⟨rfl, h⟩
  | false => cases h
theorem zS_I {t u : Bool} {d : zCf} (h : zS zM prm f κ (zI t u d) = some r) : t = true ∧ u = true ∧ κ d = some r := by
  cases t with
  | true => cases u with
    | true => exact ⟨rfl, rfl, h⟩
    | false => cases h
  | false => cases h
theorem zS_D {t : Bool} {d : zCf} (h : zS zM prm f κ (true, .inl ([(t, none)], some d, none)) = some r) : t = false ∧ κ d = some r := by
  cases t with
  | true => cases h
  | false => exact ⟨rfl, h⟩
theorem zS_B {t : Bool} {d d2 : zCf} (h : zS zM prm f κ (true, .inl ([(t, some d)], some d2, none)) = some r) : (t = true ∧ κ d = some r) ∨ (t = false ∧ κ d2 = some r) := by
  cases t with
  | true => exact .inl ⟨rfl, h⟩
  | false => exact .inr ⟨rfl, h⟩
theorem z_in {i : Int32} {n : Nat} (h : zin i n = true) : vp_in i n := by
  unfold zin at h
  simp only [Bool.and_eq_true, Bool.not_eq_true', decide_eq_false_iff_not, decide_eq_true_eq] at h
  exact fun q => q.elim h.1 (fun q => Nat.not_le.mpr h.2 q)
theorem zlv_get {nL : Nat} {A : Array Slot} {i : Nat} {v : Value} (h : zLV g nL ls A) (e : zget ls i = v) (hne : v ≠ .retAddr 0) : A[i]? = some (.val (zvm g v)) := h.2.2 i v e hne
/-- a branch: the condition as it is told, and as it is decided -/
theorem zT_br (x : Nat) (d1 d2 : Nat) (t : Bool) (P : Prop) (hP : t = true ↔ P) (row : ∀ (H : Heap) (locs : List Loc) (cells slots : Nat) (A : Array Slot), (P → W p l e R s m args below meth c H locs cells slots Q (F0 m d1 A (st'.map (zvm g)))) → (¬ P → W p l e R s m args below meth c H locs cells slots Q (F0 m d2 A (st'.map (zvm g)))) → W p l e R s m args below meth c H locs cells slots Q (F0 m pc A (st.map (zvm g))))
    (h1 : t = true → zTT g p l e R s m args below meth c Q mi r (d1, ls, st', sh, a, b)) (h2 : t = false → zTT g p l e R s m args below meth c Q mi r (d2, ls, st', sh, a, b)) : zTT g p l e R s m args below meth c Q mi r (pc, ls, st, sh, a, b) :=
  fun H locs cells slots A h3 h4 h5 h6 h7 h8 h9 h10 => row H locs cells slots A (fun q => h1 (hP.mpr q) H locs cells slots A h3 h4 h5 h6 h7 h8 h9 h10) (fun q => h2 (by cases t with | true => exact absurd (hP.mp rfl) q | false => rfl) H locs cells slots A h3 h4 h5 h6 h7 h8 h9 h10)
theorem zbr_ok {cd : Jvm.ClassFile.Cond} {x y : Int32} {t d : Nat} (h : zS zM prm f κ (zbr cd x y (t, ls, st', sh, a, b) (d, ls, st', sh, a, b)) = some r)
    (KK : ∀ d r', κ d = some r' → zTT g p l e R s m args below meth c Q mi r' d)
    (row : ∀ (H : Heap) (locs : List Loc) (cells slots : Nat) (A : Array Slot) (P : Prop), (match cd with | .eq => P ↔ x = y | .ne => P ↔ ¬ x = y | .lt => P ↔ x < y | .ge => P ↔ y ≤ x | .gt => P ↔ y < x | .le => P ↔ x ≤ y) → (P → W p l e R s m args below meth c H locs cells slots Q (F0 m t A (st'.map (zvm g)))) → (¬ P → W p l e R s m args below meth c H locs cells slots Q (F0 m d A (st'.map (zvm g)))) → W p l e R s m args below meth c H locs cells slots Q (F0 m pc A (st.map (zvm g)))) :
    zTT g p l e R s m args below meth c Q mi r (pc, ls, st, sh, a, b) := by
  have nl : ∀ u v : Int32, v ≤ u ↔ ¬ u < v := fun u v => Int32.not_lt.symm
  intro H locs cells slots A h3 h4 h5 h6 h7 h8 h9 h10
  have go1 : ∀ d', κ (d', ls, st', sh, a, b) = some r → W p l e R s m args below meth c H locs cells slots Q (F0 m d' A (st'.map (zvm g))) := fun d' hk => KK _ r hk H locs cells slots A h3 h4 h5 h6 h7 h8 h9 h10
  cases cd with
  | eq => rcases zS_B h with ⟨q, hk⟩ | ⟨q, hk⟩
          · exact row H locs cells slots A (x = y) Iff.rfl (fun _ => go1 _ hk) (fun z => absurd (of_decide_eq_true q) z)
          · exact row H locs cells slots A (x = y) Iff.rfl (fun z => absurd z (of_decide_eq_false q)) (fun _ => go1 _ hk)
  | ne => rcases zS_B h with ⟨q, hk⟩ | ⟨q, hk⟩
          · exact row H locs cells slots A (¬ x = y) Iff.rfl (fun z => absurd (of_decide_eq_true q) z) (fun _ => go1 _ hk)
          · exact row H locs cells slots A (¬ x = y) Iff.rfl (fun _ => go1 _ hk) (fun z => absurd (of_decide_eq_false q) z)
  | lt => rcases zS_B h with ⟨q, hk⟩ | ⟨q, hk⟩
          · exact row H locs cells slots A (x < y) Iff.rfl (fun _ => go1 _ hk) (fun z => absurd (of_decide_eq_true q) z)
          · exact row H locs cells slots A (x < y) Iff.rfl (fun z => absurd z (of_decide_eq_false q)) (fun _ => go1 _ hk)
  | ge => rcases zS_B h with ⟨q, hk⟩ | ⟨q, hk⟩
          · exact row H locs cells slots A (y ≤ x) Iff.rfl (fun z => absurd (of_decide_eq_true q) ((nl x y).mp z)) (fun _ => go1 _ hk)
          · exact row H locs cells slots A (y ≤ x) Iff.rfl (fun _ => go1 _ hk) (fun z => absurd ((nl x y).mpr (of_decide_eq_false q)) z)
  | gt => rcases zS_B h with ⟨q, hk⟩ | ⟨q, hk⟩
          · exact row H locs cells slots A (y < x) Iff.rfl (fun _ => go1 _ hk) (fun z => absurd (of_decide_eq_true q) z)
          · exact row H locs cells slots A (y < x) Iff.rfl (fun z => absurd z (of_decide_eq_false q)) (fun _ => go1 _ hk)
  | le => rcases zS_B h with ⟨q, hk⟩ | ⟨q, hk⟩
          · exact row H locs cells slots A (x ≤ y) Iff.rfl (fun z => absurd (of_decide_eq_true q) ((nl y x).mp z)) (fun _ => go1 _ hk)
          · exact row H locs cells slots A (x ≤ y) Iff.rfl (fun _ => go1 _ hk) (fun z => absurd ((nl y x).mpr (of_decide_eq_false q)) z)
/-- a switch -/
theorem zswt_ok {x : Int32} {C : Nat → zCf} {d : Option zCf} : ∀ (tl : List Nat) (v : Int32) (lo : Int), v.toInt = lo → 0 ≤ lo → lo + (tl.length : Int) ≤ 1001 → ∀ {rr}, zbrs none (fun c x y => cond c x y) κ (zswt x v C tl) d = some rr →
    (∃ (i : Nat) (t : Nat), tl[i]? = some t ∧ x.toInt = lo + (i : Int) ∧ κ (C t) = some rr) ∨ ((x.toInt < lo ∨ lo + (tl.length : Int) ≤ x.toInt) ∧ zop none κ d = some rr)
  | [], v, lo, _, _, _, rr, h => .inr ⟨by simp only [List.length_nil]; omega, h⟩
  | t :: tl, v, lo, hv, h0, hb, rr, h => by
    unfold zswt zbrs at h
    simp only [List.length_cons] at hb ⊢
    by_cases hx : x = v
    · rw [decide_eq_true hx] at h
      exact .inl ⟨0, t, rfl, by rw [hx, hv]; simp, h⟩
    · rw [decide_eq_false hx] at h
      have hv1 : (v + 1).toInt = lo + 1 := by
        rw [Int32.toInt_add, hv]
        show Int.bmod (lo + 1) (2 ^ 32) = lo + 1
        rw [Int.bmod_eq_of_le] <;> omega
      have hne : x.toInt ≠ lo := fun q => hx (Int32.toInt_inj.mp (q.trans hv.symm))
      rcases zswt_ok tl (v + 1) (lo + 1) hv1 (by omega) (by omega) h with ⟨i, t', h1, h2, h3⟩ | ⟨h1, h2⟩
      · exact .inl ⟨i + 1, t', h1, by rw [h2]; push_cast; omega, h3⟩
      · refine .inr ⟨?_, h2⟩
        omega
end ZS2
