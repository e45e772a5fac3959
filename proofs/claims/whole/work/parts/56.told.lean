/-! What is told: rows of both. -/
def okV (a : zA) (b : zB) : zR := some (none, zSH, a, b, 0, 0, 0)
theorem zcV_ok (a : zA) (b : zB) (k : zA → zB → zR) : zcV (okV a b) k = k a b := by
  unfold zcV okV
  simp only [eq_self, if_true]
set_option maxRecDepth 100000 in
theorem okV_ret (a : zA) (b : zB) : zRET none zSH a b = okV a b := rfl
def xTell (N : Nat) (x : Int32) (a : zA) : zA := zup (zup a 171 N x) 1 12 (nI (N + 1))
def mEnt (N : Nat) (x : Int32) (a : zA) : zA := zup (zup a 195 N x) 194 1 (nI (N + 1))
theorem s_tell {N : Nat} {a : zA} {b : zB} (h : a 1 12 = nI N) (hN : N < 32) (x : Int32) : X_tell x a b = okV (xTell N x a) b := by
  rw [q_X_tell, h, zcond_t (show nI N < 32 from nI_lt (b := 32) hN (by decide)), zin_nI (n := 32) hN (by decide), cond_true, q_X_tell_32, nI_clamp (by omega), zup_ne (by decide), h, nI_1]
  exact okV_ret _ _
theorem s_clearRow (a : zA) (b : zB) : X_clearRow a b = okV (zup a 1 12 0) b := by
  rw [q_X_clearRow]
  exact okV_ret _ _
theorem s_enters {N : Nat} {a : zA} {b : zB} (h : a 194 1 = nI N) (hN : N < 40) (x : Int32) : M_enters x a b = okV (mEnt N x a) b := by
  rw [q_M_enters, h, zin_nI (n := 40) hN (by decide), cond_true, nI_clamp (by omega), zup_ne (by decide), h, nI_1]
  exact okV_ret _ _
def xList : Nat → List Int32 → zA → zA
  | _, [], a => a
  | N, x :: l, a => xList (N + 1) l (xTell N x a)
def mList : Nat → List Int32 → zA → zA
  | _, [], a => a
  | N, x :: l, a => mList (N + 1) l (mEnt N x a)
theorem xList_row {q : Nat} (h : q ≠ 1 ∧ q ≠ 171) : ∀ (l : List Int32) (N : Nat) (a : zA), xList N l a q = a q
  | [], _, _ => rfl
  | x :: l, N, a => by
    unfold xList
    rw [xList_row h l]
    unfold xTell
    rw [zup_row h.1, zup_row h.2]
theorem mList_row {q : Nat} (h : q ≠ 194 ∧ q ≠ 195) : ∀ (l : List Int32) (N : Nat) (a : zA), mList N l a q = a q
  | [], _, _ => rfl
  | x :: l, N, a => by
    unfold mList
    rw [mList_row h l]
    unfold mEnt
    rw [zup_row h.1, zup_row h.2]
theorem xList_1 {j : Nat} (h : j ≠ 12) : ∀ (l : List Int32) (N : Nat) (a : zA), xList N l a 1 j = a 1 j
  | [], _, _ => rfl
  | x :: l, N, a => by
    unfold xList
    rw [xList_1 h l]
    unfold xTell
    rw [zup_nj h, zup_ne (by decide)]
theorem mList_1 {j : Nat} (h : j ≠ 1) : ∀ (l : List Int32) (N : Nat) (a : zA), mList N l a 194 j = a 194 j
  | [], _, _ => rfl
  | x :: l, N, a => by
    unfold mList
    rw [mList_1 h l]
    unfold mEnt
    rw [zup_nj h, zup_ne (by decide)]
theorem xList_n : ∀ (l : List Int32) (N : Nat) (a : zA), a 1 12 = nI N → xList N l a 1 12 = nI (N + l.length)
  | [], _, _, h => h
  | x :: l, N, a, _ => by
    unfold xList
    rw [xList_n l (N + 1) _ (by unfold xTell; exact zup_eq _ _ _ _), show N + 1 + l.length = N + (x :: l).length from by rw [List.length_cons]; omega]
theorem mList_n : ∀ (l : List Int32) (N : Nat) (a : zA), a 194 1 = nI N → mList N l a 194 1 = nI (N + l.length)
  | [], _, _, h => h
  | x :: l, N, a, _ => by
    unfold mList
    rw [mList_n l (N + 1) _ (by unfold mEnt; exact zup_eq _ _ _ _), show N + 1 + l.length = N + (x :: l).length from by rw [List.length_cons]; omega]
theorem xList_lo {j : Nat} : ∀ (l : List Int32) (N : Nat) (a : zA), j < N → xList N l a 171 j = a 171 j
  | [], _, _, _ => rfl
  | x :: l, N, a, h => by
    unfold xList
    rw [xList_lo l (N + 1) _ (by omega)]
    unfold xTell
    rw [zup_ne (by decide), zup_nj (by omega)]
theorem mList_lo {j : Nat} : ∀ (l : List Int32) (N : Nat) (a : zA), j < N → mList N l a 195 j = a 195 j
  | [], _, _, _ => rfl
  | x :: l, N, a, h => by
    unfold mList
    rw [mList_lo l (N + 1) _ (by omega)]
    unfold mEnt
    rw [zup_ne (by decide), zup_nj (by omega)]
theorem xList_at : ∀ (l : List Int32) (N : Nat) (a : zA) (k : Nat), k < l.length → xList N l a 171 (N + k) = l.getD k 0
  | [], _, _, _, h => absurd h (Nat.not_lt_zero _)
  | x :: l, N, a, 0, _ => by
    unfold xList
    rw [xList_lo l (N + 1) _ (by omega)]
    unfold xTell
    rw [zup_ne (by decide), Nat.add_zero, zup_eq]
    rfl
  | x :: l, N, a, k + 1, h => by
    unfold xList
    rw [show N + (k + 1) = N + 1 + k from by omega, xList_at l (N + 1) _ k (by rw [List.length_cons] at h; omega)]
    rfl
theorem mList_at : ∀ (l : List Int32) (N : Nat) (a : zA) (k : Nat), k < l.length → mList N l a 195 (N + k) = l.getD k 0
  | [], _, _, _, h => absurd h (Nat.not_lt_zero _)
  | x :: l, N, a, 0, _ => by
    unfold mList
    rw [mList_lo l (N + 1) _ (by omega)]
    unfold mEnt
    rw [zup_ne (by decide), Nat.add_zero, zup_eq]
    rfl
  | x :: l, N, a, k + 1, h => by
    unfold mList
    rw [show N + (k + 1) = N + 1 + k from by omega, mList_at l (N + 1) _ k (by rw [List.length_cons] at h; omega)]
    rfl
theorem xList_mask : ∀ (l : List Int32) (N : Nat) (a : zA), zmask (xList N l a) = xList N l (zmask a)
  | [], _, _ => rfl
  | x :: l, N, a => by
    unfold xList
    rw [xList_mask l]
    unfold xTell
    rw [zmask_u rfl, zmask_u rfl]
theorem mList_mask : ∀ (l : List Int32) (N : Nat) (a : zA), zmask (mList N l a) = mList N l (zmask a)
  | [], _, _ => rfl
  | x :: l, N, a => by
    unfold mList
    rw [mList_mask l]
    unfold mEnt
    rw [zmask_u rfl, zmask_u rfl]
/-- memories that differ in rows 1, 171, 194, 195 at most -/
theorem rel_rows {L : Nat} {xs : Nat → Int32} {P Q T G N N' : Nat} {m M : zA} (h : rAll L xs P Q T G N m) (row : ∀ q, (q ≠ 1 ∧ q ≠ 171 ∧ q ≠ 194 ∧ q ≠ 195) → M q = m q) (e1 : ∀ j, j ≠ 12 → M 1 j = m 1 j) (e : ∀ j, j ≠ 1 → M 194 j = m 194 j) (hN : N' ≤ 32) (f1 : M 1 12 = nI N') (f2 : M 194 1 = nI N') (ht : ∀ j, j < N' → M 171 j = M 195 j) : rAll L xs P Q T G N' M := by
  obtain ⟨h0, ⟨n1, n2, n3, n4, n5, n6, n7⟩, ⟨u1, u2, u3, u4, u5⟩, ⟨w1, w2⟩, hD, hW, hRu, hTa, -, hKe, hKn⟩ := h
  refine ⟨(row 0 (by decide)).trans h0, ⟨?_, ?_, ?_, ?_, ⟨f1, f2, hN⟩, (e 37 (by decide)).trans n6, (e 38 (by decide)).trans n7⟩, ⟨?_, ?_, ?_, ?_, ?_⟩, ⟨?_, ?_⟩, ?_, ?_, rRule_c (fun j h _ => e j (by omega)) ?_, ?_, ht, ⟨?_, ?_, ?_⟩, ?_⟩
  · rw [row 2 (by decide), e 3 (by decide)]; exact n1
  · rw [row 2 (by decide), e 7 (by decide)]; exact n2
  · rw [row 12 (by decide), e 15 (by decide)]; exact n3
  · rw [e1 11 (by decide), e 34 (by decide)]; exact n4
  · rw [row 3 (by decide), row 197 (by decide)]; exact u1
  · rw [row 4 (by decide), row 199 (by decide)]; exact u2
  · rw [row 5 (by decide), row 200 (by decide)]; exact u3
  · rw [row 6 (by decide), row 201 (by decide)]; exact u4
  · rw [row 7 (by decide), row 202 (by decide)]; exact u5
  · rw [row 17 (by decide), row 196 (by decide)]; exact w1
  · rw [row 18 (by decide), row 198 (by decide)]; exact w2
  · rw [row 13 (by decide), row 206 (by decide)]; exact hD
  · rw [row 14 (by decide), row 204 (by decide), row 15 (by decide), row 203 (by decide), row 16 (by decide), row 205 (by decide)]; exact hW
  · rw [row 8 (by decide), row 9 (by decide), row 10 (by decide), row 11 (by decide), row 207 (by decide), row 208 (by decide), row 209 (by decide), row 210 (by decide)]; exact hRu
  · rw [row 20 (by decide), row 215 (by decide)]; exact hTa
  · rw [row 173 (by decide), row 174 (by decide), row 175 (by decide), row 176 (by decide), row 177 (by decide), row 178 (by decide), row 179 (by decide), row 233 (by decide), row 234 (by decide), row 235 (by decide), row 236 (by decide), row 3 (by decide), row 6 (by decide)]; exact hKe.1
  · rw [row 180 (by decide), row 181 (by decide), row 182 (by decide), row 183 (by decide), row 184 (by decide), row 185 (by decide), row 186 (by decide), row 233 (by decide), row 234 (by decide), row 235 (by decide), row 236 (by decide), row 3 (by decide), row 6 (by decide)]; exact hKe.2.1
  · rw [row 187 (by decide), row 188 (by decide), row 189 (by decide), row 190 (by decide), row 191 (by decide), row 192 (by decide), row 193 (by decide), row 233 (by decide), row 234 (by decide), row 235 (by decide), row 236 (by decide), row 3 (by decide), row 6 (by decide)]; exact hKe.2.2
  · rw [row 27 (by decide), row 33 (by decide), row 15 (by decide), row 6 (by decide), row 18 (by decide), row 3 (by decide)]; exact hKn
/-- both rows cleared, then the same told -/
theorem rel_told {L : Nat} {xs : Nat → Int32} {P Q T G N : Nat} {m : zA} (h : rAll L xs P Q T G N m) (l : List Int32) (hl : l.length ≤ 32) : rAll L xs P Q T G l.length (mList 0 l (zup (xList 0 l (zup m 1 12 0)) 194 1 0)) := by
  refine rel_rows h (fun q g => ?_) (fun j g => ?_) (fun j g => ?_) hl ?_ ?_ (fun j hj => ?_)
  · rw [mList_row ⟨g.2.2.1, g.2.2.2⟩, zup_row g.2.2.1, xList_row ⟨g.1, g.2.1⟩, zup_row g.1]
  · rw [mList_row (by decide), zup_ne (by decide), xList_1 g, zup_nj g]
  · rw [mList_1 g, zup_nj g, xList_row (by decide), zup_ne (by decide)]
  · rw [mList_row (by decide), zup_ne (by decide), xList_n l 0 (zup m 1 12 0) (zup_eq m 1 12 0), Nat.zero_add]
  · rw [mList_n l 0 (zup (xList 0 l (zup m 1 12 0)) 194 1 0) (zup_eq _ 194 1 0), Nat.zero_add]
  · have h1 := xList_at l 0 (zup m 1 12 0) j hj
    have h2 := mList_at l 0 (zup (xList 0 l (zup m 1 12 0)) 194 1 0) j hj
    rw [Nat.zero_add] at h1 h2
    rw [h2, mList_row (by decide), zup_ne (by decide), h1]
