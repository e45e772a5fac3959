/-! Every instruction but calls. -/
theorem zb5_mem {l : List (Nat × Nat × Nat × Nat × Nat)} {x y z u v : Nat} (h : zb5 l x y z u v = true) : (x, y, z, u, v) ∈ l := by
  obtain ⟨f, hf, e⟩ := List.any_eq_true.mp h
  simp only [Bool.and_eq_true] at e
  obtain ⟨e1, e2, e3, e4, e5⟩ := e
  rw [← Nat.eq_of_beq_eq_true e1, ← Nat.eq_of_beq_eq_true e2, ← Nat.eq_of_beq_eq_true e3, ← Nat.eq_of_beq_eq_true e4, ← Nat.eq_of_beq_eq_true e5]
  exact hf
theorem zb3_mem {l : List (Nat × Nat × Nat)} {x y z : Nat} (h : zb3 l x y z = true) : (x, y, z) ∈ l := by
  obtain ⟨f, hf, e⟩ := List.any_eq_true.mp h
  simp only [Bool.and_eq_true] at e
  obtain ⟨e1, e2, e3⟩ := e
  rw [← Nat.eq_of_beq_eq_true e1, ← Nat.eq_of_beq_eq_true e2, ← Nat.eq_of_beq_eq_true e3]
  exact hf
theorem zbc_mem {l : List (Nat × Nat × Int32)} {x y : Nat} {z : Int32} (h : zbc l x y z = true) : (x, y, z) ∈ l := by
  obtain ⟨f, hf, e⟩ := List.any_eq_true.mp h
  simp only [Bool.and_eq_true, decide_eq_true_eq] at e
  obtain ⟨e1, e2, e3⟩ := e
  rw [← Nat.eq_of_beq_eq_true e1, ← Nat.eq_of_beq_eq_true e2, ← e3]
  exact hf
theorem zbcl_mem {l : List (Nat × Nat × Int64)} {x y : Nat} {z : Int64} (h : zbcl l x y z = true) : (x, y, z) ∈ l := by
  obtain ⟨f, hf, e⟩ := List.any_eq_true.mp h
  simp only [Bool.and_eq_true, decide_eq_true_eq] at e
  obtain ⟨e1, e2, e3⟩ := e
  rw [← Nat.eq_of_beq_eq_true e1, ← Nat.eq_of_beq_eq_true e2, ← e3]
  exact hf
theorem zblt {x y : Nat} (h : Nat.blt x y = true) : x < y := Nat.le_of_ble_eq_true h
theorem zisB_nar {x : Int32} (h : zisB x = true) : narrow .boolean (.int x) = .int x := by
  unfold zisB at h
  simp only [Bool.or_eq_true, decide_eq_true_eq] at h
  rcases h with rfl | rfl <;> rfl
theorem zisB_fit {x : Int32} (h : zisB x = true) : fits .boolean (.int x) = true := by
  unfold zisB at h
  simp only [Bool.or_eq_true, decide_eq_true_eq] at h
  rcases h with rfl | rfl <;> rfl
section Z1
variable {g : zGl} {p : Program} {l : Launch} {e : Env} {R : Room} {s : State} {m : MethodId} {args : Array Value} {below : List Frame} {meth : Method} {c : Code} {Q : State → Prop} {mi : zMi} {r : Option Value × zSh × zA × zB × Nat × Nat × Nat}
  {pc nx : Nat} {ls ls' st st' : List Value} {sh sh' : zSh} {a a' : zA} {b b' : zB} {prm : zPm} {f : zEv} {κ : zCf → zR}
theorem zS_N {t : Bool} {d : zCf} {n : Nat} (h : zS zM prm f κ (true, .inl ([(t, some d)], none, some n)) = some r) : t = true ∧ ∃ r', κ d = some r' ∧ r = (r'.1, r'.2.1, r'.2.2.1, r'.2.2.2.1, 1 + r'.2.2.2.2.1, 0 + r'.2.2.2.2.2.1, n + r'.2.2.2.2.2.2) := by
  have h : zadd 1 0 n (cond t (κ d) none) = some r := h
  cases t with
  | false => cases h
  | true =>
    obtain ⟨y, h1, h2⟩ := zadd_ex h
    exact ⟨rfl, y, h1, (Option.some.inj h2).symm⟩
theorem zS_N0 {d : zCf} {n : Nat} (h : zS zM prm f κ (true, .inl ([], some d, some n)) = some r) : ∃ r', κ d = some r' ∧ r = (r'.1, r'.2.1, r'.2.2.1, r'.2.2.2.1, 1 + r'.2.2.2.2.1, 0 + r'.2.2.2.2.2.1, n + r'.2.2.2.2.2.2) := by
  have h : zadd 1 0 n (κ d) = some r := h
  obtain ⟨y, h1, h2⟩ := zadd_ex h
  exact ⟨y, h1, (Option.some.inj h2).symm⟩
/-- a cell is made: its number is the next one -/
theorem zT_al {n : Nat} {cl : Nat × Nat × List (Option Nat)} {x : va_E} (hx : zce g cl sh.length (zzA a sh.length) (zzB b sh.length) = x)
    (row : ∀ (H : Heap) (locs : List Loc) (cells slots : Nat) (A : Array Slot), va_P g.1 vwCl (zws g sh a b) H → va_S (zAr g) s.heap H locs → cells + 1 ≤ R.cells → slots + n ≤ R.slots →
      (∀ (q : Nat) (H1 : Heap), va_P g.1 vwCl (zws g sh a b ++ [(q, x)]) H1 → va_D (zAr g) (zws g sh a b ++ [(q, x)]) → va_S (zAr g) s.heap H1 locs → W p l e R s m args below meth c H1 locs (cells + 1) (slots + n) Q (F0 m nx A (.ref q :: st'.map (zvm g)))) → W p l e R s m args below meth c H locs cells slots Q (F0 m pc A (st.map (zvm g))))
    {r' : Option Value × zSh × zA × zB × Nat × Nat × Nat} (h : zTT g p l e R s m args below meth c Q mi r' (nx, ls, .ref sh.length :: st', sh ++ [cl], zzA a sh.length, zzB b sh.length)) :
    zTT g p l e R s m args below meth c Q mi (r'.1, r'.2.1, r'.2.2.1, r'.2.2.2.1, 1 + r'.2.2.2.2.1, 0 + r'.2.2.2.2.2.1, n + r'.2.2.2.2.2.2) (pc, ls, st, sh, a, b) := by
  intro H locs cells slots A g1 g2 g3 g4 g5 g6 g7 g8
  dsimp only at g1 g2 g3 g4 g5 g6 g7 g8
  have hex := g7 (by omega)
  have hl0 : 0 < sh.length := (List.getElem?_eq_some_iff.mp g2.1).1
  refine row H locs cells slots A g1 g3 (by omega) (by omega) (fun q H1 k1 k2 k3 => ?_)
  intro T hT X
  have hsize := X.heapSize
  rw [hT] at hsize
  have hlast : (zws g sh a b ++ [(q, x)])[(zws g sh a b).length]? = some (q, x) := by simp
  have hq1 : q < H1.size := (k1 _ _ hlast).lt
  have hq2 : zSZ g ≤ q := k2.2 _ _ hlast
  have hq3 : ∀ i, i < sh.length - 1 → q ≠ zSZ g + i := by
    intro i hi e0
    have h1 : (zws g sh a b ++ [(q, x)])[i]? = some (zSZ g + i, zce g (sh.getD (i + 1) (0, 0, [])) (i + 1) a b) := by
      rw [List.getElem?_append_left (by rw [zws_len]; exact hi), zws_at, if_pos hi]
    have := k2.1 _ _ _ _ h1 hlast e0.symm
    rw [zws_len] at this
    omega
  have hq4 : q = zad g sh.length := by
    unfold zad
    rw [if_neg (by omega)]
    by_cases h9 : q - zSZ g < sh.length - 1
    · exact absurd (by omega) (hq3 (q - zSZ g) h9)
    · omega
  subst hq4
  rw [zws_push hl0 hx (fun i d hi hi0 => zce_A (fun j => by unfold zzA; rw [if_neg (by omega)]) (fun j => by unfold zzB; rw [if_neg (by omega)]))] at k1
  refine h H1 locs (cells + 1) (slots + n) A k1 ⟨?_, fun j hj => ?_, ?_⟩ k3 g4 (by omega) (by omega) (fun _ => ?_) (fun H' locs' pc' A' w1 w2 w3 w4 => ?_) T hT X
  · show (sh ++ [cl])[0]? = _
    rw [List.getElem?_append_left hl0]
    exact g2.1
  · show zzA a sh.length 0 j = _
    unfold zzA
    rw [if_neg (by omega)]
    exact g2.2.1 j hj
  · show zzA a sh.length 0 1000000 = _
    unfold zzA
    rw [if_neg (by omega)]
    exact g2.2.2
  · show _ = zSZ g + (sh ++ [cl]).length
    rw [List.length_append, List.length_singleton]
    omega
  · have := g8 H' locs' pc' A' w1 w2 w3 w4
    rw [show cells + 1 + (r'.2.2.2.2.1 + r'.2.2.2.2.2.1) = cells + (1 + r'.2.2.2.2.1 + (0 + r'.2.2.2.2.2.1)) by omega, show slots + n + r'.2.2.2.2.2.2 = slots + (n + r'.2.2.2.2.2.2) by omega]
    exact this
set_option maxHeartbeats 40000000 in
theorem z1_ok (hC : zCx g p m args meth c mi s) {ins : Instr} {ln x1 x2 x3 : Nat} {v : Int32} {w : Int64} {tl : List Nat} {k rank : Nat}
    (hd : decode mi.1.2.1 pc = .ok (ins, ln)) (hn : nx = pc + ln) (hz : zln ins ln = true) (hK : zchkE (decide (mi.1.1.name = "<init>")) k mi.2.1.1 rank pc ((ins, ln), nx, (x1, x2, x3), (v, w), tl) = true)
    (KK : ∀ d r', κ d = some r' → zTT g p l e R s m args below meth c Q mi r' d) (hr : zS zM prm f κ (zdec1 mi ((ins, ln), nx, (x1, x2, x3), (v, w), tl) ls st sh a b) = some r) : zTT g p l e R s m args below meth c Q mi r (pc, ls, st, sh, a, b) := by
  obtain ⟨hx, hb, hml, hown, hts, hKs, hX, ⟨hb0, hsz, hL⟩, hN, hini, hXc⟩ := id hC
  cases ins with
  | iadd =>
    obtain rfl : ln = 1 := Nat.eq_of_beq_eq_true hz
    subst hn
    dsimp only [zdec1] at hr
    split at hr
    · obtain ⟨-, hk⟩ := zS_G hr
      exact zT_st (fun _ _ _ _ _ _ _ _ _ K => lv_iadd hx hb hd K) (KK _ _ hk)
    · exact (zS_F hr).elim
  | isub =>
    obtain rfl : ln = 1 := Nat.eq_of_beq_eq_true hz
    subst hn
    dsimp only [zdec1] at hr
    split at hr
    · obtain ⟨-, hk⟩ := zS_G hr
      exact zT_st (fun _ _ _ _ _ _ _ _ _ K => lv_isub hx hb hd K) (KK _ _ hk)
    · exact (zS_F hr).elim
  | imul =>
    obtain rfl : ln = 1 := Nat.eq_of_beq_eq_true hz
    subst hn
    dsimp only [zdec1] at hr
    split at hr
    · obtain ⟨-, hk⟩ := zS_G hr
      exact zT_st (fun _ _ _ _ _ _ _ _ _ K => lv_imul hx hb hd K) (KK _ _ hk)
    · exact (zS_F hr).elim
  | iand =>
    obtain rfl : ln = 1 := Nat.eq_of_beq_eq_true hz
    subst hn
    dsimp only [zdec1] at hr
    split at hr
    · obtain ⟨-, hk⟩ := zS_G hr
      exact zT_st (fun _ _ _ _ _ _ _ _ _ K => lv_iand hx hb hd K) (KK _ _ hk)
    · exact (zS_F hr).elim
  | ior =>
    obtain rfl : ln = 1 := Nat.eq_of_beq_eq_true hz
    subst hn
    dsimp only [zdec1] at hr
    split at hr
    · obtain ⟨-, hk⟩ := zS_G hr
      exact zT_st (fun _ _ _ _ _ _ _ _ _ K => lv_ior hx hb hd K) (KK _ _ hk)
    · exact (zS_F hr).elim
  | ixor =>
    obtain rfl : ln = 1 := Nat.eq_of_beq_eq_true hz
    subst hn
    dsimp only [zdec1] at hr
    split at hr
    · obtain ⟨-, hk⟩ := zS_G hr
      exact zT_st (fun _ _ _ _ _ _ _ _ _ K => lv_ixor hx hb hd K) (KK _ _ hk)
    · exact (zS_F hr).elim
  | ishl =>
    obtain rfl : ln = 1 := Nat.eq_of_beq_eq_true hz
    subst hn
    dsimp only [zdec1] at hr
    split at hr
    · obtain ⟨-, hk⟩ := zS_G hr
      exact zT_st (fun _ _ _ _ _ _ _ _ _ K => lv_ishl hx hb hd K) (KK _ _ hk)
    · exact (zS_F hr).elim
  | ishr =>
    obtain rfl : ln = 1 := Nat.eq_of_beq_eq_true hz
    subst hn
    dsimp only [zdec1] at hr
    split at hr
    · obtain ⟨-, hk⟩ := zS_G hr
      exact zT_st (fun _ _ _ _ _ _ _ _ _ K => lv_ishr hx hb hd K) (KK _ _ hk)
    · exact (zS_F hr).elim
  | ladd =>
    obtain rfl : ln = 1 := Nat.eq_of_beq_eq_true hz
    subst hn
    dsimp only [zdec1] at hr
    split at hr
    · obtain ⟨-, hk⟩ := zS_G hr
      exact zT_st (fun _ _ _ _ _ _ _ _ _ K => lv_ladd hx hb hd K) (KK _ _ hk)
    · exact (zS_F hr).elim
  | lsub =>
    obtain rfl : ln = 1 := Nat.eq_of_beq_eq_true hz
    subst hn
    dsimp only [zdec1] at hr
    split at hr
    · obtain ⟨-, hk⟩ := zS_G hr
      exact zT_st (fun _ _ _ _ _ _ _ _ _ K => lv_lsub hx hb hd K) (KK _ _ hk)
    · exact (zS_F hr).elim
  | land =>
    obtain rfl : ln = 1 := Nat.eq_of_beq_eq_true hz
    subst hn
    dsimp only [zdec1] at hr
    split at hr
    · obtain ⟨-, hk⟩ := zS_G hr
      exact zT_st (fun _ _ _ _ _ _ _ _ _ K => lv_land hx hb hd K) (KK _ _ hk)
    · exact (zS_F hr).elim
  | lor =>
    obtain rfl : ln = 1 := Nat.eq_of_beq_eq_true hz
    subst hn
    dsimp only [zdec1] at hr
    split at hr
    · obtain ⟨-, hk⟩ := zS_G hr
      exact zT_st (fun _ _ _ _ _ _ _ _ _ K => lv_lor hx hb hd K) (KK _ _ hk)
    · exact (zS_F hr).elim
  | lxor =>
    obtain rfl : ln = 1 := Nat.eq_of_beq_eq_true hz
    subst hn
    dsimp only [zdec1] at hr
    split at hr
    · obtain ⟨-, hk⟩ := zS_G hr
      exact zT_st (fun _ _ _ _ _ _ _ _ _ K => lv_lxor hx hb hd K) (KK _ _ hk)
    · exact (zS_F hr).elim
  | ineg =>
    obtain rfl : ln = 1 := Nat.eq_of_beq_eq_true hz
    subst hn
    dsimp only [zdec1] at hr
    split at hr
    · obtain ⟨-, hk⟩ := zS_G hr
      exact zT_st (fun _ _ _ _ _ _ _ _ _ K => lv_ineg hx hb hd K) (KK _ _ hk)
    · exact (zS_F hr).elim
  | iushr =>
    obtain rfl : ln = 1 := Nat.eq_of_beq_eq_true hz
    subst hn
    dsimp only [zdec1] at hr
    split at hr
    · obtain ⟨-, hk⟩ := zS_G hr
      exact zT_st (fun _ _ _ _ _ _ _ _ _ K => lv_iushr hx hb hd rfl K) (KK _ _ hk)
    · exact (zS_F hr).elim
  | lshl =>
    obtain rfl : ln = 1 := Nat.eq_of_beq_eq_true hz
    subst hn
    dsimp only [zdec1] at hr
    split at hr
    · obtain ⟨-, hk⟩ := zS_G hr
      exact zT_st (fun _ _ _ _ _ _ _ _ _ K => lv_lshl hx hb hd rfl K) (KK _ _ hk)
    · exact (zS_F hr).elim
  | lushr =>
    obtain rfl : ln = 1 := Nat.eq_of_beq_eq_true hz
    subst hn
    dsimp only [zdec1] at hr
    split at hr
    · obtain ⟨-, hk⟩ := zS_G hr
      exact zT_st (fun _ _ _ _ _ _ _ _ _ K => lv_lushr hx hb hd rfl K) (KK _ _ hk)
    · exact (zS_F hr).elim
  | i2l =>
    obtain rfl : ln = 1 := Nat.eq_of_beq_eq_true hz
    subst hn
    dsimp only [zdec1] at hr
    split at hr
    · obtain ⟨-, hk⟩ := zS_G hr
      exact zT_st (fun _ _ _ _ _ _ _ _ _ K => lv_i2l hx hb hd rfl K) (KK _ _ hk)
    · exact (zS_F hr).elim
  | l2i =>
    obtain rfl : ln = 1 := Nat.eq_of_beq_eq_true hz
    subst hn
    dsimp only [zdec1] at hr
    split at hr
    · obtain ⟨-, hk⟩ := zS_G hr
      exact zT_st (fun _ _ _ _ _ _ _ _ _ K => lv_l2i hx hb hd rfl K) (KK _ _ hk)
    · exact (zS_F hr).elim
  | i2b =>
    obtain rfl : ln = 1 := Nat.eq_of_beq_eq_true hz
    subst hn
    dsimp only [zdec1] at hr
    split at hr
    · obtain ⟨-, hk⟩ := zS_G hr
      exact zT_st (fun _ _ _ _ _ _ _ _ _ K => lv_i2b hx hb hd rfl K) (KK _ _ hk)
    · exact (zS_F hr).elim
  | i2s =>
    obtain rfl : ln = 1 := Nat.eq_of_beq_eq_true hz
    subst hn
    dsimp only [zdec1] at hr
    split at hr
    · obtain ⟨-, hk⟩ := zS_G hr
      exact zT_st (fun _ _ _ _ _ _ _ _ _ K => lv_i2s hx hb hd rfl K) (KK _ _ hk)
    · exact (zS_F hr).elim
  | lcmp =>
    obtain rfl : ln = 1 := Nat.eq_of_beq_eq_true hz
    subst hn
    dsimp only [zdec1] at hr
    split at hr
    · obtain ⟨-, hk⟩ := zS_G hr
      exact zT_st (fun _ _ _ _ _ _ _ _ _ K => W.lcmp hx hb hd K) (KK _ _ hk)
    · exact (zS_F hr).elim
  | idiv =>
    obtain rfl : ln = 1 := Nat.eq_of_beq_eq_true hz
    subst hn
    dsimp only [zdec1] at hr
    split at hr
    · obtain ⟨hy, hk⟩ := zS_D hr
      exact zT_st (fun _ _ _ _ _ _ _ _ _ K => lv_idiv hx hb hd (of_decide_eq_false hy) K) (KK _ _ hk)
    · exact (zS_F hr).elim
  | irem =>
    obtain rfl : ln = 1 := Nat.eq_of_beq_eq_true hz
    subst hn
    dsimp only [zdec1] at hr
    split at hr
    · obtain ⟨hy, hk⟩ := zS_D hr
      exact zT_st (fun _ _ _ _ _ _ _ _ _ K => lv_irem hx hb hd (of_decide_eq_false hy) K) (KK _ _ hk)
    · exact (zS_F hr).elim
  | aload_n i =>
    obtain rfl : ln = 1 := Nat.eq_of_beq_eq_true hz
    subst hn
    dsimp only [zdec1] at hr
    split at hr
    · next q hq =>
      obtain ⟨-, hk⟩ := zS_G hr
      exact zT_st (fun _ _ _ _ _ _ _ _ hL K => lv_aload_n hx hb hd rfl (zlv_get hL hq (fun z => by cases z)) K) (KK _ _ hk)
    · exact (zS_F hr).elim
  | aload i =>
    obtain rfl : ln = 2 := Nat.eq_of_beq_eq_true hz
    subst hn
    dsimp only [zdec1] at hr
    split at hr
    · next q hq =>
      obtain ⟨-, hk⟩ := zS_G hr
      exact zT_st (fun _ _ _ _ _ _ _ _ hL K => lv_aload hx hb hd (zlv_get hL hq (fun z => by cases z)) K) (KK _ _ hk)
    · exact (zS_F hr).elim
  | iload_n i =>
    obtain rfl : ln = 1 := Nat.eq_of_beq_eq_true hz
    subst hn
    dsimp only [zdec1] at hr
    split at hr
    · next q hq =>
      obtain ⟨-, hk⟩ := zS_G hr
      exact zT_st (fun _ _ _ _ _ _ _ _ hL K => lv_iload_n hx hb hd rfl (zlv_get hL hq (fun z => by cases z)) K) (KK _ _ hk)
    · exact (zS_F hr).elim
  | iload i =>
    obtain rfl : ln = 2 := Nat.eq_of_beq_eq_true hz
    subst hn
    dsimp only [zdec1] at hr
    split at hr
    · next q hq =>
      obtain ⟨-, hk⟩ := zS_G hr
      exact zT_st (fun _ _ _ _ _ _ _ _ hL K => lv_iload hx hb hd (zlv_get hL hq (fun z => by cases z)) K) (KK _ _ hk)
    · exact (zS_F hr).elim
  | lload_n i =>
    obtain rfl : ln = 1 := Nat.eq_of_beq_eq_true hz
    subst hn
    dsimp only [zdec1] at hr
    split at hr
    · next q hq =>
      obtain ⟨-, hk⟩ := zS_G hr
      exact zT_st (fun _ _ _ _ _ _ _ _ hL K => lv_lload_n hx hb hd rfl (zlv_get hL hq (fun z => by cases z)) K) (KK _ _ hk)
    · exact (zS_F hr).elim
  | lload i =>
    obtain rfl : ln = 2 := Nat.eq_of_beq_eq_true hz
    subst hn
    dsimp only [zdec1] at hr
    split at hr
    · next q hq =>
      obtain ⟨-, hk⟩ := zS_G hr
      exact zT_st (fun _ _ _ _ _ _ _ _ hL K => lv_lload hx hb hd (zlv_get hL hq (fun z => by cases z)) K) (KK _ _ hk)
    · exact (zS_F hr).elim
  | istore_n i =>
    obtain rfl : ln = 1 := Nat.eq_of_beq_eq_true hz
    subst hn
    dsimp only [zdec1] at hr
    split at hr
    · obtain ⟨hg, hk⟩ := zS_G hr
      exact zT_lv (fun _ _ _ _ _ hL K => lv_istore_n hx hb hd rfl (zLV_has hL) (zblt hg) rfl (fun A' h' => K A' (zLV_st1 hL h'))) (KK _ _ hk)
    · exact (zS_F hr).elim
  | istore i =>
    obtain rfl : ln = 2 := Nat.eq_of_beq_eq_true hz
    subst hn
    dsimp only [zdec1] at hr
    split at hr
    · obtain ⟨hg, hk⟩ := zS_G hr
      exact zT_lv (fun _ _ _ _ _ hL K => lv_istore hx hb hd (zLV_has hL) (zblt hg) rfl (fun A' h' => K A' (zLV_st1 hL h'))) (KK _ _ hk)
    · exact (zS_F hr).elim
  | astore_n i =>
    obtain rfl : ln = 1 := Nat.eq_of_beq_eq_true hz
    subst hn
    dsimp only [zdec1] at hr
    split at hr
    · obtain ⟨hg, hk⟩ := zS_G hr
      exact zT_lv (fun _ _ _ _ _ hL K => lv_astore_n hx hb hd rfl (zLV_has hL) (zblt hg) rfl (fun A' h' => K A' (zLV_st1 hL h'))) (KK _ _ hk)
    · exact (zS_F hr).elim
  | lstore_n i =>
    obtain rfl : ln = 1 := Nat.eq_of_beq_eq_true hz
    subst hn
    dsimp only [zdec1] at hr
    split at hr
    · obtain ⟨hg, hk⟩ := zS_G hr
      exact zT_lv (fun _ _ _ _ _ hL K => lv_lstore_n hx hb hd rfl (zLV_has hL) (zblt hg) rfl (fun A' h' => K A' (zLV_st2 hL h'))) (KK _ _ hk)
    · exact (zS_F hr).elim
  | iinc i n =>
    obtain rfl : ln = 3 := Nat.eq_of_beq_eq_true hz
    subst hn
    dsimp only [zdec1] at hr
    split at hr
    · next x hq =>
      obtain ⟨hg, hk⟩ := zS_G hr
      refine zT_lv (fun _ _ _ _ _ hL K => ?_) (KK _ _ hk)
      have hne : zget ls i ≠ .retAddr 0 := by rw [hq]; exact fun z => by cases z
      have h1 := zkn_in (g := g) (zblt hg) hne
      rw [hq] at h1
      obtain ⟨k1, hk1⟩ := List.getElem?_of_mem h1
      exact lv_iinc hx hb hd (zLV_has hL) hk1 (by rw [of_decide_eq_true hK]) (zblt hg) rfl (fun A' h' => K A' (zLV_st1 hL h'))
    · exact (zS_F hr).elim
  | iconst i =>
    obtain rfl : ln = 1 := Nat.eq_of_beq_eq_true hz
    subst hn
    dsimp only [zdec1] at hr
    obtain ⟨-, hk⟩ := zS_G hr
    exact zT_st (fun _ _ _ _ _ _ _ _ _ K => lv_iconst hx hb hd (of_decide_eq_true hK) K) (KK _ _ hk)
  | bipush i =>
    obtain rfl : ln = 2 := Nat.eq_of_beq_eq_true hz
    subst hn
    dsimp only [zdec1] at hr
    obtain ⟨-, hk⟩ := zS_G hr
    exact zT_st (fun _ _ _ _ _ _ _ _ _ K => lv_bipush hx hb hd (of_decide_eq_true hK) K) (KK _ _ hk)
  | sipush i =>
    obtain rfl : ln = 3 := Nat.eq_of_beq_eq_true hz
    subst hn
    dsimp only [zdec1] at hr
    obtain ⟨-, hk⟩ := zS_G hr
    exact zT_st (fun _ _ _ _ _ _ _ _ _ K => lv_sipush hx hb hd (of_decide_eq_true hK) K) (KK _ _ hk)
  | lconst i =>
    obtain rfl : ln = 1 := Nat.eq_of_beq_eq_true hz
    subst hn
    dsimp only [zdec1] at hr
    obtain ⟨-, hk⟩ := zS_G hr
    exact zT_st (fun _ _ _ _ _ _ _ _ _ K => lv_lconst hx hb hd (of_decide_eq_true hK) K) (KK _ _ hk)
  | ldc i =>
    obtain rfl : ln = 2 := Nat.eq_of_beq_eq_true hz
    subst hn
    dsimp only [zdec1] at hr
    obtain ⟨-, hk⟩ := zS_G hr
    exact zT_st (fun _ _ _ _ _ _ _ _ _ K => lv_ldc hx hb hown (hts _ (zCO_ok _ (zbc_mem hK))) hd K) (KK _ _ hk)
  | ldc_w i =>
    obtain rfl : ln = 3 := Nat.eq_of_beq_eq_true hz
    subst hn
    dsimp only [zdec1] at hr
    obtain ⟨-, hk⟩ := zS_G hr
    exact zT_st (fun _ _ _ _ _ _ _ _ _ K => lv_ldcw hx hb hown (hts _ (zCO_ok _ (zbc_mem hK))) hd K) (KK _ _ hk)
  | ldc2_w i =>
    obtain rfl : ln = 3 := Nat.eq_of_beq_eq_true hz
    subst hn
    dsimp only [zdec1] at hr
    obtain ⟨-, hk⟩ := zS_G hr
    exact zT_st (fun _ _ _ _ _ _ _ _ _ K => lv_ldc2 hx hb hown (hts _ (zCOL_ok _ (zbcl_mem hK))) hd K) (KK _ _ hk)
  | goto i =>
    obtain rfl : ln = 3 := Nat.eq_of_beq_eq_true hz
    subst hn
    dsimp only [zdec1] at hr
    obtain ⟨-, hk⟩ := zS_G hr
    exact zT_st (fun _ _ _ _ _ _ _ _ _ K => lv_goto hx hb hd (of_decide_eq_true hK) K) (KK _ _ hk)
  | ifCond cd i =>
    obtain rfl : ln = 3 := Nat.eq_of_beq_eq_true hz
    subst hn
    dsimp only [zdec1] at hr
    split at hr
    · refine zbr_ok hr KK (fun H locs cells slots A P hP k1 k2 => ?_)
      cases cd with
      | eq => exact lv_if_eq hx hb hd (of_decide_eq_true hK) (fun q => k1 (hP.mpr q)) (fun q => k2 (fun z => q (hP.mp z)))
      | ne => exact lv_if_ne hx hb hd (of_decide_eq_true hK) (fun q => k1 (hP.mpr q)) (fun q => k2 (fun z => (hP.mp z) q))
      | lt => exact lv_if_lt hx hb hd (of_decide_eq_true hK) (fun q => k1 (hP.mpr q)) (fun q => k2 (fun z => q (hP.mp z)))
      | ge => exact lv_if_ge hx hb hd (of_decide_eq_true hK) (fun q => k1 (hP.mpr q)) (fun q => k2 (fun z => q (hP.mp z)))
      | gt => exact lv_if_gt hx hb hd (of_decide_eq_true hK) (fun q => k1 (hP.mpr q)) (fun q => k2 (fun z => q (hP.mp z)))
      | le => exact lv_if_le hx hb hd (of_decide_eq_true hK) (fun q => k1 (hP.mpr q)) (fun q => k2 (fun z => q (hP.mp z)))
    · exact (zS_F hr).elim
  | if_icmp cd i =>
    obtain rfl : ln = 3 := Nat.eq_of_beq_eq_true hz
    subst hn
    dsimp only [zdec1] at hr
    split at hr
    · refine zbr_ok hr KK (fun H locs cells slots A P hP k1 k2 => ?_)
      cases cd with
      | eq => exact lv_icmp_eq hx hb hd (of_decide_eq_true hK) (fun q => k1 (hP.mpr q)) (fun q => k2 (fun z => q (hP.mp z)))
      | ne => exact lv_icmp_ne hx hb hd (of_decide_eq_true hK) (fun q => k1 (hP.mpr q)) (fun q => k2 (fun z => (hP.mp z) q))
      | lt => exact lv_icmp_lt hx hb hd (of_decide_eq_true hK) (fun q => k1 (hP.mpr q)) (fun q => k2 (fun z => q (hP.mp z)))
      | ge => exact lv_icmp_ge hx hb hd (of_decide_eq_true hK) (fun q => k1 (hP.mpr q)) (fun q => k2 (fun z => q (hP.mp z)))
      | gt => exact lv_icmp_gt hx hb hd (of_decide_eq_true hK) (fun q => k1 (hP.mpr q)) (fun q => k2 (fun z => q (hP.mp z)))
      | le => exact lv_icmp_le hx hb hd (of_decide_eq_true hK) (fun q => k1 (hP.mpr q)) (fun q => k2 (fun z => q (hP.mp z)))
    · exact (zS_F hr).elim
  | tableswitch dd lo hi os =>
    dsimp only [zdec1] at hr
    subst hn
    split at hr
    · next x rr =>
      simp only [zchkE, Bool.and_eq_true, decide_eq_true_eq] at hK
      obtain ⟨h1, h2, h3, h4, h5, h6⟩ := hK
      have hlen : os.size = tl.length := by
        have := congrArg List.length h4
        simpa using this
      have hr' : zbrs none (fun c x y => cond c x y) κ (zswt x v (fun t => (t, ls, rr, sh, a, b)) tl) (some (x1, ls, rr, sh, a, b)) = some r := hr
      intro H locs cells slots A g1 g2 g3 g4 g5 g6 g7 g8
      rcases zswt_ok tl v lo h2 h5 (by omega) hr' with ⟨i, t, e1, e2, e3⟩ | ⟨e1, e2⟩
      · have hi : i < tl.length := (List.getElem?_eq_some_iff.mp e1).1
        have ho : ∃ off, os[i]? = some off ∧ (pc : Int) + off = (t : Int) := by
          have hq := congrArg (fun z => z[i]?) h4
          simp only [List.getElem?_map, e1, Option.map_some] at hq
          cases hoi : os.toList[i]? with
          | none => rw [hoi] at hq; cases hq
          | some off =>
            rw [hoi] at hq
            exact ⟨off, by rw [← Array.getElem?_toList]; exact hoi, Option.some.inj hq⟩
        obtain ⟨off, ho1, ho2⟩ := ho
        refine lv_tableIn hx hb hd (by omega) (by omega) (off := off) (by rw [show (x.toInt - lo).toNat = i by omega]; exact ho1) ho2 ?_
        exact KK _ _ e3 H locs cells slots A g1 g2 g3 g4 g5 g6 g7 g8
      · refine lv_tableOut hx hb hd (by omega) h1 ?_
        exact KK _ _ e2 H locs cells slots A g1 g2 g3 g4 g5 g6 g7 g8
    · exact (zS_F hr).elim
  | dup =>
    obtain rfl : ln = 1 := Nat.eq_of_beq_eq_true hz
    subst hn
    dsimp only [zdec1] at hr
    split at hr
    · obtain ⟨hg, hk⟩ := zS_G hr
      exact zT_st (fun _ _ _ _ _ _ _ _ _ K => lv_dup hx hb hd ((zvm_cat _).trans (Nat.eq_of_beq_eq_true hg)) K) (KK _ _ hk)
    · exact (zS_F hr).elim
  | pop =>
    obtain rfl : ln = 1 := Nat.eq_of_beq_eq_true hz
    subst hn
    dsimp only [zdec1] at hr
    split at hr
    · obtain ⟨hg, hk⟩ := zS_G hr
      exact zT_st (fun _ _ _ _ _ _ _ _ _ K => lv_pop hx hb hd ((zvm_cat _).trans (Nat.eq_of_beq_eq_true hg)) K) (KK _ _ hk)
    · exact (zS_F hr).elim
  | dup2 =>
    obtain rfl : ln = 1 := Nat.eq_of_beq_eq_true hz
    subst hn
    dsimp only [zdec1] at hr
    split at hr
    · next v1 v2 rr =>
      obtain ⟨hg, hk⟩ := zS_G hr
      have h1 : Nat.beq v1.category 1 = true := by
        cases hq : Nat.beq v1.category 1 with
        | true => rfl
        | false => rw [hq] at hg; cases hg
      rw [h1] at hg
      exact zT_st (fun _ _ _ _ _ _ _ _ _ K => lv_dup2_11 hx hb hd ((zvm_cat _).trans (Nat.eq_of_beq_eq_true h1)) ((zvm_cat _).trans (Nat.eq_of_beq_eq_true hg)) K) (KK _ _ hk)
    · exact (zS_F hr).elim
  | getfield i =>
    obtain rfl : ln = 3 := Nat.eq_of_beq_eq_true hz
    subst hn
    obtain ⟨f1, f2, f3, f4⟩ := zFL_ok _ (zb5_mem hK)
    dsimp only at f1 f2 f3 f4
    have go : ∀ (q : Nat) (rr : List Value) (val : Value), zokc sh q x1 = true → (∀ n rs, sh[q]? = some (x1, n, rs) → zfv g (zty x1 x2) (a q x2) (b q x2) (rs[x2]?).join = zvm g val) → κ (pc + 3, ls, val :: rr, sh, a, b) = some r → zTT g p l e R s m args below meth c Q mi r (pc, ls, .ref q :: rr, sh, a, b) := by
      intro q rr val hg hval hk
      obtain ⟨n, rs, hs⟩ := zokc_at hg (by omega)
      refine zT_st (fun H _ _ _ _ hP hI _ _ K => ?_) (KK _ _ hk)
      have hq := zne0 hI hs (by omega)
      have he := zws_get (g := g) (a := a) (b := b) hs hq
      rw [zce_obj f2] at he
      exact va_get hx hb hts (zu_ok x1 f2) hown hKs hP (q - 1) he (zcl x1 f2) x2 f3 (hts _ f1) (fun _ h => h) (by rw [zfl_at f3, hval n rs hs]) hd K
    dsimp only [zdec1] at hr
    split at hr
    · next q rr =>
      split at hr
      · obtain ⟨hg, hk⟩ := zS_G hr
        exact go q rr _ hg (fun n rs _ => by rw [f4]; rfl) hk
      · obtain ⟨hg, hk⟩ := zS_G hr
        exact go q rr _ hg (fun n rs _ => by rw [f4]; rfl) hk
      · split at hr
        · next t ht =>
          obtain ⟨hg, hk⟩ := zS_G hr
          refine go q rr _ hg (fun n rs hs => ?_) hk
          have hj : (rs[x2]?).join = some t := by
            unfold zrf at ht
            rw [hs] at ht
            dsimp only at ht
            cases h5 : rs[x2]? with
            | none => rw [h5] at ht; cases ht
            | some y => rw [h5] at ht; exact ht
          rw [hj]
          unfold zfv
          unfold zrfty at f4
          cases hty : zty x1 x2 with
          | object _ => rfl
          | array _ => rfl
          | _ => rw [hty] at f4; cases f4
        · exact (zS_F hr).elim
      · next h0 h1 h2 =>
        obtain ⟨hg, hk⟩ := zS_G hr
        refine go q rr _ hg (fun n rs _ => ?_) hk
        have f5 : zty x1 x2 = .boolean := by
          match x3, h0, h1, h2, f4 with
          | 0, h0, _, _, _ => exact absurd rfl h0
          | 1, _, h1, _, _ => exact absurd rfl h1
          | 2, _, _, h2, _ => exact absurd rfl h2
          | x + 3, _, _, _, f4 => exact f4
        rw [f5]; rfl
    · exact (zS_F hr).elim
  | putfield i =>
    obtain rfl : ln = 3 := Nat.eq_of_beq_eq_true hz
    subst hn
    simp only [zchkE, Bool.and_eq_true, Bool.or_eq_true, Bool.not_eq_true'] at hK
    obtain ⟨hK1, hK2⟩ := hK
    obtain ⟨f1, f2, f3, f4⟩ := zFL_ok _ (zb5_mem hK1)
    dsimp only at f1 f2 f3 f4
    have go : ∀ (q : Nat) (rr : List Value) (val : Value) (sh' : zSh) (a' : zA) (b' : zB), zokc sh q x1 = true → (∀ n rs, sh[q]? = some (x1, n, rs) → q ≠ 0 → sh'.length = sh.length ∧ (zInv g sh a → zInv g sh' a') ∧ narrow (zty x1 x2) (zvm g val) = zvm g val ∧ fits (zty x1 x2) (zvm g val) = true ∧ ∀ H, va_P g.1 vwCl ((zws g sh a b).set (q - 1) (zad g q, .inr (x1, (zfl g x1 q rs a b).set x2 (zvm g val)))) H → va_P g.1 vwCl (zws g sh' a' b') H) →
        κ (pc + 3, ls, rr, sh', a', b') = some r → zTT g p l e R s m args below meth c Q mi r (pc, ls, val :: .ref q :: rr, sh, a, b) := by
      intro q rr val sh' a' b' hg hval hk
      obtain ⟨n, rs, hs⟩ := zokc_at hg (by omega)
      intro H locs cells slots A g1 g2 g3 g4 g5 g6 g7 g8
      have hq := zne0 g2 hs (by omega)
      obtain ⟨w1, w2, w3, w4, w5⟩ := hval n rs hs hq
      have he := zws_get (g := g) (a := a) (b := b) hs hq
      rw [zce_obj f2] at he
      have fin : ∀ (H1 : Heap) (locs1 : List Loc), va_P g.1 vwCl ((zws g sh a b).set (q - 1) (zad g q, .inr (x1, (zfl g x1 q rs a b).set x2 (zvm g val)))) H1 → va_S (zAr g) s.heap H1 locs1 → W p l e R s m args below meth c H1 locs1 cells slots Q (F0 m (pc + 3) A (rr.map (zvm g))) :=
        fun H1 locs1 k1 k3 => KK _ _ hk H1 locs1 cells slots A (w5 H1 k1) (w2 g2) k3 g4 g5 g6 (fun z => by show _ = zSZ g + sh'.length; rw [w1]; exact g7 z) g8
      cases hf : (zTX x1 x2).2.2.2 with
      | false => exact va_put hx hb hts (zu_ok x1 f2) (zty x1) (zty_ok x1 f2) (znm_ok x1 f2) hown hKs g1 (zws_D g sh a b) g3 (q - 1) he (zcl x1 f2) x2 f3 (hts _ f1) (fun _ h => h) hf (zty_ok x1 f2 x2 f3) w3 w4 (by rw [zfl_len]; exact f3) hd (fun H1 locs1 k1 _ k3 => fin H1 locs1 k1 k3)
      | true =>
        rcases hK2 with h | ⟨h1, h2⟩
        · rw [show zfin x1 x2 = true from hf] at h; cases h
        · have h2 : mi.2.1.1 = x1 := Nat.eq_of_beq_eq_true h2
          have hdec : (zTX x1 x2).1 = zC mi.2.1.1 := by
            rw [h2]
            exact zdecl x1 f2 x2 f3
          exact va_putF hx hb hts (zu_ok x1 f2) (zty x1) (zty_ok x1 f2) (znm_ok x1 f2) hown hKs g1 (zws_D g sh a b) g3 (q - 1) he (zcl x1 f2) x2 f3 (hts _ f1) (fun _ h => h) hf (hini h1) hdec (zty_ok x1 f2 x2 f3) w3 w4 (by rw [zfl_len]; exact f3) hd (fun H1 locs1 k1 _ k3 => fin H1 locs1 k1 k3)
    have setI : ∀ (q : Nat) (x : Int32) (n : Nat) (rs : List (Option Nat)), sh[q]? = some (x1, n, rs) → q ≠ 0 → (zty x1 x2 = .int ∨ zty x1 x2 = .boolean) → ∀ H, va_P g.1 vwCl ((zws g sh a b).set (q - 1) (zad g q, .inr (x1, (zfl g x1 q rs a b).set x2 (.int x)))) H → va_P g.1 vwCl (zws g sh (zup a q x2 x) b) H := by
      intro q x n rs hs hq hty H h
      rw [zws_set (a' := zup a q x2 x) (b' := b) hq rfl hs (x := .inr (x1, (zfl g x1 q rs a b).set x2 (.int x))) ?_ (fun i d hi hd2 _ => ⟨hd2, zce_A (fun j => by unfold zup; rw [if_neg (fun z => hi z.1)]) (fun _ => rfl)⟩)] at h
      · exact h
      · rw [zce_obj f2, zfl_set f3 (rs' := rs) (a' := zup a q x2 x) (b' := b) (v := .int x) (by unfold zup zfv; rw [if_pos ⟨rfl, rfl⟩]; rcases hty with h | h <;> rw [h]) (fun j hj => ⟨by unfold zup; rw [if_neg (fun z => hj z.2)], rfl, rfl⟩)]
    dsimp only [zdec1] at hr
    split at hr
    · split at hr
      · next x q rr =>
        obtain ⟨hg, hk⟩ := zS_G hr
        exact go q rr _ _ _ _ hg (fun n rs hs hq => ⟨rfl, fun hi => zInv_up hi hq, by rw [f4]; rfl, by rw [f4]; rfl, setI q x n rs hs hq (.inl f4)⟩) hk
      · exact (zS_F hr).elim
    · split at hr
      · next x q rr =>
        obtain ⟨hg, hk⟩ := zS_G hr
        refine go q rr _ _ _ _ hg (fun n rs hs hq => ⟨rfl, fun hi => hi, by rw [f4]; rfl, by rw [f4]; rfl, fun H h => ?_⟩) hk
        have h : va_P g.1 vwCl ((zws g sh a b).set (q - 1) (zad g q, .inr (x1, (zfl g x1 q rs a b).set x2 (.long x)))) H := h
        rw [zws_set (a' := a) (b' := zupB b q x2 x) hq rfl hs (x := .inr (x1, (zfl g x1 q rs a b).set x2 (.long x))) ?_ (fun i d hi hd2 _ => ⟨hd2, zce_A (fun _ => rfl) (fun j => by unfold zupB; rw [if_neg (fun z => hi z.1)])⟩)] at h
        · exact h
        · rw [zce_obj f2, zfl_set f3 (rs' := rs) (a' := a) (b' := zupB b q x2 x) (v := .long x) (by unfold zupB zfv; rw [if_pos ⟨rfl, rfl⟩, f4]) (fun j hj => ⟨rfl, by unfold zupB; rw [if_neg (fun z => hj z.2)], rfl⟩)]
      · exact (zS_F hr).elim
    · split at hr
      · next x q rr =>
        obtain ⟨hg, hk⟩ := zS_G hr
        have hg1 : zokc sh q x1 = true := by
          cases hq : zokc sh q x1 with
          | true => rfl
          | false => rw [hq] at hg; cases hg
        rw [hg1, cond_true] at hg
        have hg2 : Nat.blt x sh.length = true := by
          cases hq : Nat.blt x sh.length with
          | true => rfl
          | false => rw [hq] at hg; cases hg
        rw [hg2, cond_true] at hg
        have hg3 : Nat.blt 0 x = true := by
          cases hq : Nat.blt 0 x with
          | true => rfl
          | false => rw [hq] at hg; cases hg
        rw [hg3, cond_true] at hg
        have hr2 : zrfty (zty x1 x2) = true := f4
        refine go q rr _ _ _ _ hg1 (fun n rs hs hq => ?_) hk
        have hsl : q < sh.length := (List.getElem?_eq_some_iff.mp hs).1
        have hsr : zsrf sh q x2 x = sh.set q (x1, n, rs.set x2 (some x)) := by unfold zsrf; rw [hs]
        have hlr : x2 < rs.length := by
          have := zblt hg
          unfold zrl at this
          rw [hs] at this
          exact this
        refine ⟨by rw [hsr, List.length_set], fun hi => ?_, ?_, ?_, fun H h => ?_⟩
        · refine ⟨?_, hi.2⟩
          rw [hsr, List.getElem?_set, if_neg hq]
          exact hi.1
        · cases hty : zty x1 x2 <;> first | rfl | (rw [hty] at hr2; cases hr2)
        · cases hty : zty x1 x2 <;> first | rfl | (rw [hty] at hr2; cases hr2)
        · have h : va_P g.1 vwCl ((zws g sh a b).set (q - 1) (zad g q, .inr (x1, (zfl g x1 q rs a b).set x2 (.ref (zad g x))))) H := h
          rw [zws_set (sh := sh) (sh' := zsrf sh q x2 x) (a' := a) (b' := b) hq (by rw [hsr, List.length_set]) (c := (x1, n, rs.set x2 (some x))) (by rw [hsr, List.getElem?_set, if_pos rfl, if_pos hsl]) (x := .inr (x1, (zfl g x1 q rs a b).set x2 (.ref (zad g x)))) ?_ (fun i d hi hd2 _ => ⟨by rw [hsr, List.getElem?_set, if_neg (fun z => hi z.symm)]; exact hd2, rfl⟩)] at h
          · exact h
          · rw [zce_obj f2, zfl_set f3 (rs' := rs.set x2 (some x)) (a' := a) (b' := b) (v := .ref (zad g x)) ?_ (fun j hj => ⟨rfl, rfl, by rw [List.getElem?_set, if_neg (fun z => hj z.symm)]⟩)]
            rw [List.getElem?_set, if_pos rfl, if_pos hlr]
            cases hty : zty x1 x2 <;> first | rfl | (rw [hty] at hr2; cases hr2)
      · exact (zS_F hr).elim
    · next h0 h1 h2 =>
      have f5 : zty x1 x2 = .boolean := by
        match x3, h0, h1, h2, f4 with
        | 0, h0, _, _, _ => exact absurd rfl h0
        | 1, _, h1, _, _ => exact absurd rfl h1
        | 2, _, _, h2, _ => exact absurd rfl h2
        | x + 3, _, _, _, f4 => exact f4
      split at hr
      · next x q rr =>
        obtain ⟨hg, hg2, hk⟩ := zS_I hr
        exact go q rr _ _ _ _ hg (fun n rs hs hq => ⟨rfl, fun hi => zInv_up hi hq, by rw [f5]; exact zisB_nar hg2, by rw [f5]; exact zisB_fit hg2, setI q x n rs hs hq (.inr f5)⟩) hk
      · exact (zS_F hr).elim
  | iaload =>
    obtain rfl : ln = 1 := Nat.eq_of_beq_eq_true hz
    subst hn
    dsimp only [zdec1] at hr
    split at hr
    · next i q rr =>
      obtain ⟨hg, hg2, hk⟩ := zS_I hr
      refine zT_st (fun H _ _ _ _ hP hI hS _ K => ?_) (KK _ _ hk)
      by_cases h20 : Nat.beq (zkd sh q) 20 = true
      · obtain ⟨n, rs, hs⟩ := zokc_at (k := 20) h20 (by decide)
        have hq := zne0 hI hs (by decide)
        have he := zws_get (g := g) (a := a) (b := b) hs hq
        have hl : zlen sh a q = n := by unfold zlen; rw [hs]; rfl
        exact va_iald hx hb hKs hP (q - 1) 0 he rfl (by rw [← hl]; exact z_in hg2) hd K
      · unfold zokI at hg
        rw [Bool.not_eq_true _ |>.mp h20, cond_false] at hg
        have h0 : Nat.beq q 0 = true := by
          cases hq : Nat.beq q 0 with
          | true => rfl
          | false => rw [hq] at hg; cases hg
        obtain rfl := Nat.eq_of_beq_eq_true h0
        have hl : zlen sh a 0 = g.2.2.2.1 := by
          unfold zlen
          rw [hI.1]
          dsimp only
          rw [show Nat.beq 25 25 = true from rfl, cond_true, hI.2.2]
          exact Int32.toNatClampNeg_ofNat_of_lt (by omega)
        have hin := z_in hg2
        rw [hl] at hin
        have hlt : i.toNatClampNeg < g.2.2.2.1 := Nat.not_le.mp fun z => hin (Or.inr z)
        rw [List.map_cons, show zvm g (.int (a 0 i.toNatClampNeg)) = .int (g.2.2.2.2.1 i.toNatClampNeg) by rw [hI.2.1 _ hlt]; rfl] at K
        exact va_sld (b := g.2.2.1) hx hb hX (by omega) (by unfold zAr; omega) hS hin hd K
    · exact (zS_F hr).elim
  | arraylength =>
    obtain rfl : ln = 1 := Nat.eq_of_beq_eq_true hz
    subst hn
    dsimp only [zdec1] at hr
    split at hr
    · next q rr =>
      obtain ⟨hg, hk⟩ := zS_G hr
      refine zT_st (fun H _ _ _ _ hP hI hS _ K => ?_) (KK _ _ hk)
      unfold zokY at hg
      by_cases h24 : cond (Nat.ble 20 (zkd sh q)) (Nat.ble (zkd sh q) 24) false = true
      · have h1 : 20 ≤ zkd sh q ∧ zkd sh q ≤ 24 := by
          cases h : Nat.ble 20 (zkd sh q) with
          | true => rw [h] at h24; exact ⟨Nat.le_of_ble_eq_true h, Nat.le_of_ble_eq_true h24⟩
          | false => rw [h] at h24; cases h24
        obtain ⟨n, rs, hs⟩ := zkd_at (sh := sh) (q := q) rfl (by omega)
        generalize zkd sh q = kk at hs h1
        have hq := zne0 hI hs (by omega)
        have he := zws_get (g := g) (a := a) (b := b) hs hq
        have hl : zlen sh a q = n := by
          unfold zlen
          rw [hs]
          dsimp only
          rw [show Nat.beq kk 25 = false from by cases h : Nat.beq kk 25 with | true => have := Nat.eq_of_beq_eq_true h; omega | false => rfl]
          rfl
        rw [hl] at K
        match kk, h1, he with
        | 20, _, he => exact va_alen hx hb hKs hP (q - 1) 0 he rfl rfl hd K
        | 21, _, he => exact va_alen hx hb hKs hP (q - 1) 1 he rfl rfl hd K
        | 22, _, he => exact va_alen hx hb hKs hP (q - 1) 2 he rfl rfl hd K
        | 23, _, he => exact va_alen hx hb hKs hP (q - 1) 3 he rfl rfl hd K
        | 24, _, he => exact va_alen hx hb hKs hP (q - 1) 4 he rfl rfl hd K
        | k + 25, h, _ => exact absurd h.2 (by omega)
      · rw [Bool.not_eq_true _ |>.mp h24, cond_false] at hg
        have h0 : Nat.beq q 0 = true := by
          cases hq : Nat.beq q 0 with
          | true => rfl
          | false => rw [hq] at hg; cases hg
        obtain rfl := Nat.eq_of_beq_eq_true h0
        have hl : zlen sh a 0 = g.2.2.2.1 := by
          unfold zlen
          rw [hI.1]
          dsimp only
          rw [show Nat.beq 25 25 = true from rfl, cond_true, hI.2.2]
          exact Int32.toNatClampNeg_ofNat_of_lt (by omega)
        rw [hl] at K
        exact va_slen (b := g.2.2.1) hx hb hX (by omega) (by unfold zAr; omega) hS hd K
    · exact (zS_F hr).elim
  | baload =>
    obtain rfl : ln = 1 := Nat.eq_of_beq_eq_true hz
    subst hn
    dsimp only [zdec1] at hr
    split at hr
    · next i q rr =>
      obtain ⟨hg, hg2, hk⟩ := zS_I hr
      refine zT_st (fun H _ _ _ _ hP hI hS _ K => ?_) (KK _ _ hk)
      obtain ⟨n, rs, hs⟩ := zokc_at hg (by decide)
      have hq := zne0 hI hs (by decide)
      have he := zws_get (g := g) (a := a) (b := b) hs hq
      have hl : zlen sh a q = n := by unfold zlen; rw [hs]; rfl
      exact va_zald hx hb hKs hP (q - 1) 1 he rfl (by rw [← hl]; exact z_in hg2) hd K
    · exact (zS_F hr).elim
  | laload =>
    obtain rfl : ln = 1 := Nat.eq_of_beq_eq_true hz
    subst hn
    dsimp only [zdec1] at hr
    split at hr
    · next i q rr =>
      obtain ⟨hg, hg2, hk⟩ := zS_I hr
      refine zT_st (fun H _ _ _ _ hP hI hS _ K => ?_) (KK _ _ hk)
      obtain ⟨n, rs, hs⟩ := zokc_at hg (by decide)
      have hq := zne0 hI hs (by decide)
      have he := zws_get (g := g) (a := a) (b := b) hs hq
      have hl : zlen sh a q = n := by unfold zlen; rw [hs]; rfl
      exact va_lald hx hb hKs hP (q - 1) 2 he rfl (by rw [← hl]; exact z_in hg2) hd K
    · exact (zS_F hr).elim
  | aaload =>
    obtain rfl : ln = 1 := Nat.eq_of_beq_eq_true hz
    subst hn
    dsimp only [zdec1] at hr
    split at hr
    · next i q rr =>
        obtain ⟨hg, hg3, hk⟩ := zS_I hr
        rw [Bool.and_eq_true] at hg3
        obtain ⟨hg2, hg4⟩ := hg3
        obtain ⟨t, ht⟩ : ∃ t, zrf sh q i.toNatClampNeg = some t := by
          unfold zrs at hg4
          split at hg4
          · next t ht => exact ⟨t, ht⟩
          · cases hg4
        have hzg : zrg sh q i.toNatClampNeg = t := by unfold zrg; rw [ht]
        rw [hzg] at hk
        refine zT_st (fun H _ _ _ _ hP hI hS _ K => ?_) (KK _ _ hk)
        have hkk : zkd sh q = 23 ∨ zkd sh q = 24 := by
          cases h : Nat.beq (zkd sh q) 23 with
          | true => exact .inl (Nat.eq_of_beq_eq_true h)
          | false => rw [h] at hg; exact .inr (Nat.eq_of_beq_eq_true hg)
        obtain ⟨n, rs, hs⟩ := zkd_at (sh := sh) (q := q) rfl (by omega)
        have hj : (rs[i.toNatClampNeg]?).join = some t := by
          unfold zrf at ht
          rw [hs] at ht
          dsimp only at ht
          cases h5 : rs[i.toNatClampNeg]? with
          | none => rw [h5] at ht; cases ht
          | some y => rw [h5] at ht; exact ht
        have hq := zne0 hI hs (by omega)
        have he := zws_get (g := g) (a := a) (b := b) hs hq
        have hl : zlen sh a q = n := by
          unfold zlen
          rw [hs]
          dsimp only
          rcases hkk with h | h <;> rw [h] <;> rfl
        have hin := z_in hg2
        rw [hl] at hin
        rcases hkk with h | h
        · rw [h] at he
          refine va_aldq hx hb hKs hP (q - 1) 3 he rfl hin hd ?_
          rw [hj]
          exact K
        · rw [h] at he
          refine va_aldq hx hb hKs hP (q - 1) 4 he rfl hin hd ?_
          rw [hj]
          exact K
    · exact (zS_F hr).elim
  | iastore =>
    obtain rfl : ln = 1 := Nat.eq_of_beq_eq_true hz
    subst hn
    dsimp only [zdec1] at hr
    split at hr
    · next x i q rr =>
      obtain ⟨hg, hg2, hk⟩ := zS_I hr
      obtain ⟨n, rs, hs⟩ := zokc_at hg (by decide)
      have hl : zlen sh a q = n := by unfold zlen; rw [hs]; rfl
      have hin := z_in hg2
      rw [hl] at hin
      intro H locs cells slots A g1 g2 g3 g4 g5 g6 g7 g8
      have hq := zne0 g2 hs (by decide)
      have he := zws_get (g := g) (a := a) (b := b) hs hq
      refine va_iast hx hb hKs g1 (zws_D g sh a b) g3 (q - 1) 0 he rfl hin hd (fun H1 locs1 k1 _ k3 => ?_)
      rw [zws_set (a' := zup a q i.toNatClampNeg x) (b' := b) hq rfl hs (x := .inl (g.2.1 20, n, .inl (upd (a q) i.toNatClampNeg x))) (by show Sum.inl (_, _, Sum.inl _) = _; congr 4; funext j; unfold zup upd; by_cases h : j = i.toNatClampNeg <;> simp [h]) (fun j d hj hd2 _ => ⟨hd2, zce_A (fun y => by unfold zup; rw [if_neg (fun z => hj z.1)]) (fun _ => rfl)⟩)] at k1
      exact KK _ _ hk H1 locs1 cells slots A k1 (zInv_up g2 hq) k3 g4 g5 g6 g7 g8
    · exact (zS_F hr).elim
  | bastore =>
    obtain rfl : ln = 1 := Nat.eq_of_beq_eq_true hz
    subst hn
    dsimp only [zdec1] at hr
    split at hr
    · next x i q rr =>
      obtain ⟨hg, hg3, hk⟩ := zS_I hr
      rw [Bool.and_eq_true] at hg3
      obtain ⟨hg2, hgb⟩ := hg3
      obtain ⟨n, rs, hs⟩ := zokc_at hg (by decide)
      have hl : zlen sh a q = n := by unfold zlen; rw [hs]; rfl
      have hin := z_in hg2
      rw [hl] at hin
      intro H locs cells slots A g1 g2 g3 g4 g5 g6 g7 g8
      have hq := zne0 g2 hs (by decide)
      have he := zws_get (g := g) (a := a) (b := b) hs hq
      have hnx : vp_nar .boolean x = x := by unfold vp_nar; rw [zisB_nar hgb]
      refine va_zast hx hb hKs g1 (zws_D g sh a b) g3 (q - 1) 1 he rfl hin hd (fun H1 locs1 k1 _ k3 => ?_)
      rw [hnx] at k1
      rw [zws_set (a' := zup a q i.toNatClampNeg x) (b' := b) hq rfl hs (x := .inl (g.2.1 21, n, .inl (upd (a q) i.toNatClampNeg x))) (by show Sum.inl (_, _, Sum.inl _) = _; congr 4; funext j; unfold zup upd; by_cases h : j = i.toNatClampNeg <;> simp [h]) (fun j d hj hd2 _ => ⟨hd2, zce_A (fun y => by unfold zup; rw [if_neg (fun z => hj z.1)]) (fun _ => rfl)⟩)] at k1
      exact KK _ _ hk H1 locs1 cells slots A k1 (zInv_up g2 hq) k3 g4 g5 g6 g7 g8
    · exact (zS_F hr).elim
  | aastore =>
    obtain rfl : ln = 1 := Nat.eq_of_beq_eq_true hz
    subst hn
    dsimp only [zdec1] at hr
    split at hr
    · next x i q rr =>
      obtain ⟨hg, hg3, hk⟩ := zS_I hr
      rw [Bool.and_eq_true] at hg3
      obtain ⟨hg2, hgr⟩ := hg3
      have hgr : i.toNatClampNeg < zrl sh q := of_decide_eq_true hgr
      have go : ∀ (kq kx : Nat) (r0 : vw_C) (t0 : Nat), kq ≠ 25 → kq ≠ 99 → kx < 10 → zokc sh q kq = true → zokc sh x kx = true → vwCl[kx]? = some r0 → (ztys g)[t0]? = some (g.2.1 kq, .object r0.1) → (∀ (n : Nat) (rs : List (Option Nat)) (j : Nat) (a : zA) (b : zB), zce g (kq, n, rs) j a b = .inl (g.2.1 kq, n, .inr (.inr (.inr (.inr (fun j => ((rs[j]?).join).map (zad g))))))) → zTT g p l e R s m args below meth c Q mi r (pc, ls, .ref x :: .int i :: .ref q :: rr, sh, a, b) := by
        intro kq kx r0 t0 h25 h99 hkx hq1 hx1 hc0 ht0 hce
        obtain ⟨n, rs, hs⟩ := zokc_at hq1 h99
        obtain ⟨nx', rsx, hsx⟩ := zokc_at hx1 (by omega)
        intro H locs cells slots A g1 g2 g3 g4 g5 g6 g7 g8
        have hq := zne0 g2 hs h25
        have hxq := zne0 g2 hsx (by omega)
        have he := zws_get (g := g) (a := a) (b := b) hs hq
        rw [hce] at he
        have hex := zws_get (g := g) (a := a) (b := b) hsx hxq
        rw [zce_obj hkx] at hex
        have hl : zlen sh a q = n := by
          unfold zlen
          rw [hs]
          dsimp only
          rw [show Nat.beq kq 25 = false from by cases h : Nat.beq kq 25 with | true => exact absurd (Nat.eq_of_beq_eq_true h) h25 | false => rfl]
          rfl
        have hin := z_in hg2
        rw [hl] at hin
        have hsl : q < sh.length := (List.getElem?_eq_some_iff.mp hs).1
        have hsr : zsrf sh q i.toNatClampNeg x = sh.set q (kq, n, rs.set i.toNatClampNeg (some x)) := by unfold zsrf; rw [hs]
        have hlr : i.toNatClampNeg < rs.length := by
          unfold zrl at hgr
          rw [hs] at hgr
          exact hgr
        refine va_astq hx hb hKs g1 (zws_D g sh a b) g3 (q - 1) t0 (x - 1) kx he ht0 hex hc0 hin hd (fun H1 locs1 k1 _ k3 => ?_)
        rw [zws_set (sh' := zsrf sh q i.toNatClampNeg x) (a' := a) (b' := b) hq (by rw [hsr, List.length_set]) (c := (kq, n, rs.set i.toNatClampNeg (some x))) (by rw [hsr, List.getElem?_set, if_pos rfl, if_pos hsl]) (x := .inl (g.2.1 kq, n, .inr (.inr (.inr (.inr (va_up (fun j => ((rs[j]?).join).map (zad g)) i.toNatClampNeg (some (zad g x)))))))) ?_ (fun j d hj hd2 _ => ⟨by rw [hsr, List.getElem?_set, if_neg (fun z => hj z.symm)]; exact hd2, rfl⟩)] at k1
        · exact KK _ _ hk H1 locs1 cells slots A k1 ⟨by show (zsrf sh q i.toNatClampNeg x)[0]? = _; rw [hsr, List.getElem?_set, if_neg hq]; exact g2.1, g2.2⟩ k3 g4 g5 g6 (fun z => by show _ = zSZ g + (zsrf sh q i.toNatClampNeg x).length; rw [hsr, List.length_set]; exact g7 z) g8
        · rw [hce]
          congr 7
          funext j
          unfold va_up
          rw [List.getElem?_set]
          by_cases h : j = i.toNatClampNeg
          · subst h
            rw [if_pos rfl, if_pos hlr, if_pos rfl]
            rfl
          · rw [if_neg (fun z => h z.symm), if_neg h]
      cases h23 : zokc sh q 23 with
      | true =>
        rw [h23, cond_true] at hg
        exact go 23 3 _ 3 (by decide) (by decide) (by decide) h23 hg rfl rfl (fun _ _ _ _ _ => rfl)
      | false =>
        rw [h23, cond_false] at hg
        cases h24 : zokc sh q 24 with
        | true =>
          rw [h24, cond_true] at hg
          exact go 24 6 _ 4 (by decide) (by decide) (by decide) h24 hg rfl rfl (fun _ _ _ _ _ => rfl)
        | false => rw [h24] at hg; cases hg
    · exact (zS_F hr).elim
  | ireturn =>
    obtain rfl : ln = 1 := Nat.eq_of_beq_eq_true hz
    subst hn
    dsimp only [zdec1] at hr
    split at hr
    · next x =>
      split at hr
      · next hrt =>
        have hr2 : zRET (some (.int x)) sh a b = some r := hr
        cases hr2
        intro H locs cells slots A g1 g2 g3 g4 g5 g6 g7 g8
        exact g8 H locs pc A g1 g2 g3 ⟨hd, x, rfl, .inl hrt⟩
      · next hrt =>
        have hr2 : cond (zisB x) (zRET (some (.int x)) sh a b) none = some r := hr
        cases hzb : zisB x with
        | false => rw [hzb] at hr2; cases hr2
        | true =>
          rw [hzb] at hr2
          cases hr2
          intro H locs cells slots A g1 g2 g3 g4 g5 g6 g7 g8
          exact g8 H locs pc A g1 g2 g3 ⟨hd, x, rfl, .inr ⟨hrt, zisB_nar hzb⟩⟩
      · exact (zS_F hr).elim
    · exact (zS_F hr).elim
  | return_ =>
    obtain rfl : ln = 1 := Nat.eq_of_beq_eq_true hz
    subst hn
    dsimp only [zdec1] at hr
    split at hr
    · split at hr
      · next hrt =>
        have hr2 : zRET none sh a b = some r := hr
        cases hr2
        intro H locs cells slots A g1 g2 g3 g4 g5 g6 g7 g8
        exact g8 H locs pc A g1 g2 g3 ⟨hd, hrt⟩
      · exact (zS_F hr).elim
    · exact (zS_F hr).elim
  | newarray t =>
    obtain rfl : ln = 2 := Nat.eq_of_beq_eq_true hz
    subst hn
    dsimp only [zdec1] at hr
    split at hr
    · next n rr =>
      obtain ⟨hin, r', hk, rfl⟩ := zS_N hr
      have hin2 := z_in hin
      have hn0 : ¬ n < 0 := fun z => hin2 (.inl z)
      have hn1 : n.toNatClampNeg < 1000000 := Nat.not_le.mp fun z => hin2 (.inr z)
      cases t with
      | int =>
        obtain rfl : x1 = 20 := Nat.eq_of_beq_eq_true hK
        refine zT_al (cl := (20, n.toNatClampNeg, [])) (x := .inl (g.2.1 20, n.toNatClampNeg, .inl (fun _ => 0))) (by show Sum.inl (_, _, Sum.inl _) = _; congr 4; funext j; simp [zzA]) (fun H locs cells slots A hP hS hc1 hs1 K => ?_) (KK _ _ hk)
        refine va_newa (atype := .int) (ty := .int) (a0 := (n.toNatClampNeg, .inl (fun _ => 0))) hx hb (hts _ zar_I) rfl hKs hP (zws_D g sh a b) hS (fun q h => Nat.le_trans hsz h) (fun cA => rfl) hn0 rfl (by show _ * 4 ≤ _; omega) hc1 hs1 hd (fun q cA H1 k0 k1 k2 k3 => ?_)
        obtain rfl : cA = g.2.1 20 := Option.some.inj (((k0.2 5 _ rfl).2).symm.trans ((hKs.2 0 _ rfl).2))
        exact K q H1 k1 k2 k3
      | boolean =>
        obtain rfl : x1 = 21 := Nat.eq_of_beq_eq_true hK
        refine zT_al (cl := (21, n.toNatClampNeg, [])) (x := .inl (g.2.1 21, n.toNatClampNeg, .inl (fun _ => 0))) (by show Sum.inl (_, _, Sum.inl _) = _; congr 4; funext j; simp [zzA]) (fun H locs cells slots A hP hS hc1 hs1 K => ?_) (KK _ _ hk)
        refine va_newa (atype := .boolean) (ty := .boolean) (a0 := (n.toNatClampNeg, .inl (fun _ => 0))) hx hb (hts _ zar_Z) rfl hKs hP (zws_D g sh a b) hS (fun q h => Nat.le_trans hsz h) (fun cA => rfl) hn0 rfl (by show _ * 1 ≤ _; omega) hc1 hs1 hd (fun q cA H1 k0 k1 k2 k3 => ?_)
        obtain rfl : cA = g.2.1 21 := Option.some.inj (((k0.2 5 _ rfl).2).symm.trans ((hKs.2 1 _ rfl).2))
        exact K q H1 k1 k2 k3
      | long =>
        obtain rfl : x1 = 22 := Nat.eq_of_beq_eq_true hK
        refine zT_al (cl := (22, n.toNatClampNeg, [])) (x := .inl (g.2.1 22, n.toNatClampNeg, .inr (.inl (fun _ => 0)))) (by show Sum.inl (_, _, Sum.inr (Sum.inl _)) = _; congr 5; funext j; simp [zzB]) (fun H locs cells slots A hP hS hc1 hs1 K => ?_) (KK _ _ hk)
        refine va_newa (atype := .long) (ty := .long) (a0 := (n.toNatClampNeg, .inr (.inl (fun _ => 0)))) hx hb (hts _ zar_J) rfl hKs hP (zws_D g sh a b) hS (fun q h => Nat.le_trans hsz h) (fun cA => rfl) hn0 rfl (by show _ * 8 ≤ _; omega) hc1 hs1 hd (fun q cA H1 k0 k1 k2 k3 => ?_)
        obtain rfl : cA = g.2.1 22 := Option.some.inj (((k0.2 5 _ rfl).2).symm.trans ((hKs.2 2 _ rfl).2))
        exact K q H1 k1 k2 k3
      | _ => cases hK
    · exact (zS_F hr).elim
  | anewarray i =>
    obtain rfl : ln = 3 := Nat.eq_of_beq_eq_true hz
    subst hn
    simp only [zchkE, Bool.and_eq_true, Bool.or_eq_true] at hK
    obtain ⟨hK1, hK2⟩ := hK
    have hw := zNW_ok _ (zb3_mem hK1)
    dsimp only [zdec1] at hr
    split at hr
    · next n rr =>
      obtain ⟨hin, r', hk, rfl⟩ := zS_N hr
      have hin2 := z_in hin
      have hn0 : ¬ n < 0 := fun z => hin2 (.inl z)
      have hn1 : n.toNatClampNeg < 1000000 := Nat.not_le.mp fun z => hin2 (.inr z)
      have hrep : (fun j : Nat => (((List.replicate n.toNatClampNeg (none : Option Nat))[j]?).join).map (zad g)) = fun _ => none := by
        funext j
        rw [List.getElem?_replicate]
        split <;> rfl
      rcases hK2 with h | h
      · obtain rfl : x1 = 23 := Nat.eq_of_beq_eq_true h
        refine zT_al (cl := (23, n.toNatClampNeg, List.replicate n.toNatClampNeg none)) (x := .inl (g.2.1 23, n.toNatClampNeg, .inr (.inr (.inr (.inr (fun _ => none)))))) (by show Sum.inl (_, _, Sum.inr (Sum.inr (Sum.inr (Sum.inr _)))) = _; rw [hrep]) (fun H locs cells slots A hP hS hc1 hs1 K => ?_) (KK _ _ hk)
        refine va_newq hx hb hown (hts _ hw) hN.2.1 hKs hP (zws_D g sh a b) hS (fun q h => Nat.le_trans hsz h) hn0 rfl (by omega) hc1 hs1 hd (fun q cA H1 k0 k1 k2 k3 => ?_)
        obtain ⟨_, _, _, _, _, e1⟩ := (k0.2 5 _ rfl).2
        obtain ⟨_, _, _, _, _, e2⟩ := (hKs.2 3 _ rfl).2
        obtain rfl : cA = g.2.1 23 := Option.some.inj (e1.symm.trans e2)
        exact K q H1 k1 k2 k3
      · obtain rfl : x1 = 24 := Nat.eq_of_beq_eq_true h
        refine zT_al (cl := (24, n.toNatClampNeg, List.replicate n.toNatClampNeg none)) (x := .inl (g.2.1 24, n.toNatClampNeg, .inr (.inr (.inr (.inr (fun _ => none)))))) (by show Sum.inl (_, _, Sum.inr (Sum.inr (Sum.inr (Sum.inr _)))) = _; rw [hrep]) (fun H locs cells slots A hP hS hc1 hs1 K => ?_) (KK _ _ hk)
        refine va_newq hx hb hown (hts _ hw) hN.2.2 hKs hP (zws_D g sh a b) hS (fun q h => Nat.le_trans hsz h) hn0 rfl (by omega) hc1 hs1 hd (fun q cA H1 k0 k1 k2 k3 => ?_)
        obtain ⟨_, _, _, _, _, e1⟩ := (k0.2 5 _ rfl).2
        obtain ⟨_, _, _, _, _, e2⟩ := (hKs.2 4 _ rfl).2
        obtain rfl : cA = g.2.1 24 := Option.some.inj (e1.symm.trans e2)
        exact K q H1 k1 k2 k3
    · exact (zS_F hr).elim
  | new i =>
    obtain rfl : ln = 3 := Nat.eq_of_beq_eq_true hz
    subst hn
    simp only [zchkE, Bool.and_eq_true] at hK
    obtain ⟨hK1, hK2, hK3⟩ := hK
    obtain rfl : x2 = zsz x1 := Nat.eq_of_beq_eq_true hK2
    have f2 : x1 < 10 := zblt hK3
    have hw : Cond.classLink (zC mi.2.1.1) i (zC x1) ∈ zW ∧ Cond.instantiable (zC x1) (zsz x1) ∈ zW ∧ Cond.initialized (zC x1) ∈ zW := by
      have hw := zNW_ok _ (zb3_mem hK1)
      unfold zNWp at hw
      dsimp only at hw
      split at hw
      · omega
      · omega
      · exact hw
    dsimp only [zdec1] at hr
    obtain ⟨r', hk, rfl⟩ := zS_N0 hr
    refine zT_al (cl := (x1, zsz x1, List.replicate (zsz x1) none)) (x := .inr (x1, zfl g x1 sh.length (List.replicate (zsz x1) none) (zzA a sh.length) (zzB b sh.length))) (zce_obj f2) (fun H locs cells slots A hP hS hc1 hs1 K => ?_) (KK _ _ hk)
    refine va_new hx hb hts (zu_ok x1 f2) (zty x1) (zty_ok x1 f2) hown (hts _ hw.1) (hts _ hw.2.1) (hts _ hw.2.2) hKs hP (zws_D g sh a b) hS (fun q h => Nat.le_trans hsz h) (zcl x1 f2) (fun j hj => ?_) hc1 hs1 hd K
    unfold vp_V
    rw [List.getD, zfl_at hj, List.getElem?_replicate, if_pos hj]
    rcases zdef x1 f2 j hj with h | h | h | ⟨_, h⟩ | ⟨_, h⟩ <;> rw [h] <;> simp [zfv, zzA, zzB, defaultValue, va_rf]
  | _ => exact (zS_F (show zS zM prm f κ zF = some r from hr)).elim
end Z1
