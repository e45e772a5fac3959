/-! What is told, number by number; what the class shows is the same wherever its own cells are. -/
def xT (a : zA) (l : List Int32) : zA := xList 0 l (zup a 1 12 0)
def mT (a : zA) (l : List Int32) : zA := mList 0 l (zup a 194 1 0)
theorem xList_sn : ∀ (l : List Int32) (N : Nat) (a : zA) (x : Int32), xList N (l ++ [x]) a = xTell (N + l.length) x (xList N l a)
  | [], _, _, _ => rfl
  | y :: l, N, a, x => by
    show xList (N + 1) (l ++ [x]) (xTell N y a) = _
    rw [xList_sn l, List.length_cons, Nat.add_right_comm, Nat.add_assoc]
    rfl
theorem mList_sn : ∀ (l : List Int32) (N : Nat) (a : zA) (x : Int32), mList N (l ++ [x]) a = mEnt (N + l.length) x (mList N l a)
  | [], _, _, _ => rfl
  | y :: l, N, a, x => by
    show mList (N + 1) (l ++ [x]) (mEnt N y a) = _
    rw [mList_sn l, List.length_cons, Nat.add_right_comm, Nat.add_assoc]
    rfl
theorem x_clear (a : zA) (b : zB) : X_clearRow a b = okV (xT a []) b := s_clearRow a b
theorem x_tell {l : List Int32} (h : l.length < 32) (x : Int32) (a : zA) (b : zB) : X_tell x (xT a l) b = okV (xT a (l ++ [x])) b := by
  unfold xT
  rw [xList_sn, Nat.zero_add]
  exact s_tell ((xList_n l 0 _ (zup_eq a 1 12 0)).trans (by rw [Nat.zero_add])) h x
theorem m_ent {l : List Int32} (h : l.length < 40) (x : Int32) (a : zA) (b : zB) : M_enters x (mT a l) b = okV (mT a (l ++ [x])) b := by
  unfold mT
  rw [mList_sn, Nat.zero_add]
  exact s_enters ((mList_n l 0 _ (zup_eq a 194 1 0)).trans (by rw [Nat.zero_add])) h x
theorem mT_0 (a : zA) : zup a 194 1 0 = mT a [] := rfl
theorem xT_q {a : zA} {l : List Int32} {q : Nat} (h : q ≠ 1 ∧ q ≠ 171) : xT a l q = a q := by
  unfold xT
  rw [xList_row h, zup_row h.1]
theorem mT_q {a : zA} {l : List Int32} {q : Nat} (h : q ≠ 194 ∧ q ≠ 195) : mT a l q = a q := by
  unfold mT
  rw [mList_row h, zup_row h.1]
theorem mT_j {a : zA} {l : List Int32} {j : Nat} (h : j ≠ 1) : mT a l 194 j = a 194 j := by
  unfold mT
  rw [mList_1 h, zup_nj h]
theorem xT_m (a : zA) (l : List Int32) : zmask (xT a l) = xT (zmask a) l := by
  unfold xT
  rw [xList_mask, zmask_u rfl]
theorem mT_m (a : zA) (l : List Int32) : zmask (mT a l) = mT (zmask a) l := by
  unfold mT
  rw [mList_mask, zmask_u rfl]
/-- told alike: Rel holds, whatever scratch was written -/
theorem rel_tell {L : Nat} {xs : Nat → Int32} {P Q T G N : Nat} {m : zA} {a1 a2 : zA} {b : zB} {l : List Int32} (h : rAll L xs P Q T G N m) (hl : l.length ≤ 32) (h1 : zmask a1 = xT m l) (h2 : zmask a2 = mT (zmask a1) l) : Rel L xs a2 b := by
  refine ⟨P, Q, T, G, l.length, ?_⟩
  rw [h2, h1]
  exact rel_told h l hl
/-- the class's own cells -/
def sameX (a' a : zA) : Prop := ∀ q, 2 ≤ q → q ≤ 18 → a' q = a q
theorem sx_u {q j : Nat} {a : zA} {x : Int32} (h : q < 2 ∨ 18 < q) : sameX (zup a q j x) a := fun r h1 h2 => zup_row (by omega)
theorem sx_t {a : zA} {l : List Int32} : sameX (xT a l) a := fun r h1 h2 => xT_q (by omega)
theorem sx_r (a : zA) : sameX a a := fun _ _ _ => rfl
theorem sx_trans {a b c : zA} (h : sameX a b) (g : sameX b c) : sameX a c := fun q h1 h2 => (h q h1 h2).trans (g q h1 h2)
theorem vw_s {P Q T W S : Nat} {a a' c : zA} (h : vw P Q T W S a c) (g : sameX a' a) : vw P Q T W S a' c := vw_x h g
theorem vw_mT {P Q T W S : Nat} {a c : zA} {l : List Int32} (h : vw P Q T W S a c) : vw P Q T W S a (mT c l) :=
  vw_c h (fun j hj => mT_j (fun e => kf_1 (e ▸ hj))) (fun q h1 h2 => mT_q (by omega))
theorem v0_mT {c : zA} {l : List Int32} (h : v0 c) : v0 (mT c l) := ⟨(mT_j (by decide)).trans h.1, (mT_j (by decide)).trans h.2⟩
theorem xE_s {a a' : zA} (h : sameX a' a) : xE a' = xE a := by
  unfold xE
  rw [h 13 (by decide) (by decide)]
theorem yWhy_s {a a' : zA} (h : sameX a' a) : yWhy a' = yWhy a := by
  unfold yWhy
  rw [xE_s h, h 11 (by decide) (by decide), h 8 (by decide) (by decide), h 10 (by decide) (by decide)]
theorem yAble_s {a a' : zA} (h : sameX a' a) : yAble a' = yAble a := by
  unfold yAble
  rw [h 4 (by decide) (by decide), h 17 (by decide) (by decide)]
theorem yPair_s {a a' : zA} (h : sameX a' a) : yPair a' = yPair a := by
  unfold yPair
  rw [xE_s h]
theorem yRea_s {a a' : zA} (cr : Bool) (h : sameX a' a) : yRea cr a' = yRea cr a := by
  unfold yRea
  rw [xE_s h, yWhy_s h, yAble_s h, yPair_s h]
theorem yBad_s {a a' : zA} (cr : Bool) (h : sameX a' a) : yBad cr a' = yBad cr a := by
  unfold yBad
  rw [yRea_s cr h]
/-- the numbers told by a loop -/
theorem fF_list {f : Nat → Int32} : ∀ k j l, fF (fun i l => l ++ [f i]) j k l = l ++ (List.range' j k).map f
  | 0, j, l => (List.append_nil l).symm
  | k + 1, j, l => by
    show fF (fun i l => l ++ [f i]) (j + 1) k (l ++ [f j]) = _
    rw [fF_list k, List.append_assoc]
    rfl
theorem x_t0 (x : Int32) (a : zA) (b : zB) : X_tell x (xT a []) b = okV (xT a [x]) b := x_tell (Nat.le_of_ble_eq_true rfl) x a b
theorem m_e0 (x : Int32) (a : zA) (b : zB) : M_enters x (mT a []) b = okV (mT a [x]) b := m_ent (Nat.le_of_ble_eq_true rfl) x a b
theorem x_t1 (y1 : Int32) (x : Int32) (a : zA) (b : zB) : X_tell x (xT a [y1]) b = okV (xT a [y1, x]) b := x_tell (Nat.le_of_ble_eq_true rfl) x a b
theorem m_e1 (y1 : Int32) (x : Int32) (a : zA) (b : zB) : M_enters x (mT a [y1]) b = okV (mT a [y1, x]) b := m_ent (Nat.le_of_ble_eq_true rfl) x a b
theorem x_t2 (y1 y2 : Int32) (x : Int32) (a : zA) (b : zB) : X_tell x (xT a [y1, y2]) b = okV (xT a [y1, y2, x]) b := x_tell (Nat.le_of_ble_eq_true rfl) x a b
theorem m_e2 (y1 y2 : Int32) (x : Int32) (a : zA) (b : zB) : M_enters x (mT a [y1, y2]) b = okV (mT a [y1, y2, x]) b := m_ent (Nat.le_of_ble_eq_true rfl) x a b
theorem x_t3 (y1 y2 y3 : Int32) (x : Int32) (a : zA) (b : zB) : X_tell x (xT a [y1, y2, y3]) b = okV (xT a [y1, y2, y3, x]) b := x_tell (Nat.le_of_ble_eq_true rfl) x a b
theorem m_e3 (y1 y2 y3 : Int32) (x : Int32) (a : zA) (b : zB) : M_enters x (mT a [y1, y2, y3]) b = okV (mT a [y1, y2, y3, x]) b := m_ent (Nat.le_of_ble_eq_true rfl) x a b
theorem x_t4 (y1 y2 y3 y4 : Int32) (x : Int32) (a : zA) (b : zB) : X_tell x (xT a [y1, y2, y3, y4]) b = okV (xT a [y1, y2, y3, y4, x]) b := x_tell (Nat.le_of_ble_eq_true rfl) x a b
theorem m_e4 (y1 y2 y3 y4 : Int32) (x : Int32) (a : zA) (b : zB) : M_enters x (mT a [y1, y2, y3, y4]) b = okV (mT a [y1, y2, y3, y4, x]) b := m_ent (Nat.le_of_ble_eq_true rfl) x a b
