/-! What was done at a post: works. -/
/-- what both told lies behind as Rel has it -/
theorem rel_of_told {L : Nat} {xs : Nat → Int32} {P Q T G N : Nat} {a : zA} {b : zB} (h : rAll L xs P Q T G N (zmask a)) (l : List Int32) (hl : l.length ≤ 32) : Rel L xs (mList 0 l (zup (zup (xList 0 l (zup a 1 12 0)) 194 0 0) 194 1 0)) b := by
  refine ⟨P, Q, T, G, l.length, ?_⟩
  rw [mList_mask, zmask_u rfl, zmask_f rfl, xList_mask, zmask_u rfl]
  exact rel_told h l hl
theorem r_works {L : Nat} {xs : Nat → Int32} (x1 : Int32) : zAns (Rel L xs) (X_works x1) (M_works x1) := by
  intro a b hr
  obtain ⟨P, Q, T, G, N, hall⟩ := id hr
  obtain ⟨h0, ⟨n0, ⟨n1, n2, n3⟩, -⟩, hH, hC, hD, ⟨k1, k2, k3, k4⟩, -⟩ := id hall
  have p1 : a 2 1 = nI Q := n1
  have p2 : a 194 7 = nI Q := n2
  have k1 : rSame 10 0 (nI T) (a 14) (a 204) := k1
  have k2 : rSame 10 0 89 (a 15) (a 203) := k2
  have k3 : ∀ j, j < Q → a 16 j = a 205 j ∧ rOne P (a 16 j) := k3
  have d00 : decide ((0 : Int32) = 0) = true := by decide
  have d10 : decide ((1 : Int32) = 0) = false := by decide
  by_cases c0 : ¬ x1 < 0 ∧ x1 < nI Q
  · obtain ⟨p, hp, hp2, rfl⟩ := s_idx c0
    have kp : (nI p).toNatClampNeg = p := nI_clamp hp2
    have zp : zin (nI p) 10 = true := zin_nI (by omega) (by decide)
    have t0 : zup a 1 12 0 1 12 = nI 0 := zup_eq a 1 12 0
    have t1 : xTell 0 (a 15 p) (zup a 1 12 0) 1 12 = nI 1 := zup_eq _ 1 12 _
    have r1 : zup a 1 12 0 15 p = a 15 p := zup_ne (by decide)
    have r2 : xTell 0 (a 15 p) (zup a 1 12 0) 16 p = a 16 p := (congrFun (xList_row (q := 16) (by decide) [a 15 p] 0 (zup a 1 12 0)) p).trans (zup_ne (by decide))
    have r3 : xTell 1 (a 16 p) (xTell 0 (a 15 p) (zup a 1 12 0)) 14 p = a 14 p := (congrFun (xList_row (q := 14) (by decide) [a 15 p, a 16 p] 0 (zup a 1 12 0)) p).trans (zup_ne (by decide))
    have xr : ∀ q j, (q ≠ 1 ∧ q ≠ 171) → xList 0 [a 15 p, a 16 p] (zup a 1 12 0) q j = a q j := fun q j h => (congrFun (xList_row h [a 15 p, a 16 p] 0 (zup a 1 12 0)) j).trans (zup_ne h.1)
    refine ⟨a 14 p, xList 0 [a 15 p, a 16 p] (zup a 1 12 0), b, mList 0 [a 15 p, a 16 p] (zup (zup (xList 0 [a 15 p, a 16 p] (zup a 1 12 0)) 194 0 0) 194 1 0), b, ?_, fun j => xr 0 j (by decide), ?_, rel_of_told hall _ (Nat.le_of_ble_eq_true rfl)⟩
    · rw [q_X_works, s_hasPost p1, zcI_ok, if_pos c0, d10, cond_false, s_clearRow, zcV_ok, zp, cond_true, kp, r1, s_tell t0 (by decide), zcV_ok, cond_true, r2, s_tell t1 (by decide), zcV_ok, cond_true, r3]
      exact okI_ret _ _ _
    · generalize hA : xList 0 [a 15 p, a 16 p] (zup a 1 12 0) = A at xr ⊢
      have p3 : zup A 194 0 0 194 7 = nI Q := (zup_nj (by decide)).trans ((xr 194 7 (by decide)).trans p2)
      have u0 : zup (zup A 194 0 0) 194 1 0 194 1 = nI 0 := zup_eq _ 194 1 0
      have u1 : mEnt 0 (a 15 p) (zup (zup A 194 0 0) 194 1 0) 194 1 = nI 1 := zup_eq _ 194 1 _
      have v1 : zup (zup A 194 0 0) 194 1 0 203 p = a 15 p := (zup_ne (by decide)).trans ((zup_ne (by decide)).trans ((xr 203 p (by decide)).trans (k2 p (by omega)).1.symm))
      have v2 : mEnt 0 (a 15 p) (zup (zup A 194 0 0) 194 1 0) 205 p = a 16 p := (congrFun (mList_row (q := 205) (by decide) [a 15 p] 0 (zup (zup A 194 0 0) 194 1 0)) p).trans ((zup_ne (by decide)).trans ((zup_ne (by decide)).trans ((xr 205 p (by decide)).trans (k3 p hp).1.symm)))
      have v3 : mEnt 1 (a 16 p) (mEnt 0 (a 15 p) (zup (zup A 194 0 0) 194 1 0)) 204 p = a 14 p := (congrFun (mList_row (q := 204) (by decide) [a 15 p, a 16 p] 0 (zup (zup A 194 0 0) 194 1 0)) p).trans ((zup_ne (by decide)).trans ((zup_ne (by decide)).trans ((xr 204 p (by decide)).trans (k1 p (by omega)).1.symm)))
      rw [q_M_works, s_isPost p3 (by omega), zcI_ok, if_pos c0, d10, cond_false, zp, cond_true, kp, v1, s_enters u0 (by decide), zcV_ok, cond_true, v2, s_enters u1 (by decide), zcV_ok, cond_true, v3]
      exact okI_ret _ _ _
  · have p3 : zup a 194 0 0 194 7 = nI Q := (zup_nj (by decide)).trans p2
    refine ⟨-1, a, b, zup a 194 0 0, b, ?_, fun _ => rfl, ?_, rel_thr hr⟩
    · rw [q_X_works, s_hasPost p1, zcI_ok, if_neg c0, d00, cond_true]; exact okI_ret _ _ _
    · rw [q_M_works, s_isPost p3 (by omega), zcI_ok, if_neg c0, d00, cond_true]; exact okI_ret _ _ _
