/-! Who can do a post. -/
theorem s_and1 (x : Int32) : x &&& 1 = 0 ∨ x &&& 1 = 1 := by
  have h : (x &&& 1).toBitVec.toNat ≤ 1 := by
    rw [Int32.toBitVec_and, BitVec.toNat_and]
    exact Nat.and_le_right
  have e : (x &&& 1).toInt = ((x &&& 1).toBitVec.toNat : Int) := by
    show (x &&& 1).toBitVec.toInt = _
    exact BitVec.toInt_eq_toNat_of_lt (by omega)
  by_cases c : (x &&& 1).toBitVec.toNat = 0
  · exact .inl (Int32.toInt_inj.mp (by rw [e, c]; decide))
  · exact .inr (Int32.toInt_inj.mp (by rw [e, show (x &&& 1).toBitVec.toNat = 1 by omega]; decide))
theorem s_has (x c : Int32) (a : zA) (b : zB) : M_has x c a b = okI (if ((x >>> (c &&& 31)) &&& 1) = 0 then 0 else 1) a b := by
  rw [q_M_has, q_M_has_14, q_M_has_14]
  rcases s_and1 (x >>> (c &&& 31)) with h | h
  · rw [h, zcond_f (by decide), if_pos rfl]; exact okI_ret _ _ _
  · rw [h, zcond_t rfl, if_neg (by decide)]; exact okI_ret _ _ _
theorem s_able {w p : Nat} (hw : w < 10) (hp : p < 10) {a a' : zA} {b b' : zB} (h1 : a 4 p = a' 199 p) (h2 : a 17 w = a' 196 w) : ∃ y, (y = 0 ∨ y = 1) ∧ S_isAble (nI w) (nI p) a b = okI y a b ∧ M_canDo (nI w) (nI p) a' b' = okI y a' b' := by
  have kp : (nI p).toNatClampNeg = p := nI_clamp (by omega)
  have kw : (nI w).toNatClampNeg = w := nI_clamp (by omega)
  have zp : zin (nI p) 10 = true := zin_nI hp (by decide)
  have zw : zin (nI w) 10 = true := zin_nI hw (by decide)
  have x1 : S_isAble_27 a b = okI 1 a b := by rw [q_S_isAble_27, q_S_isAble_32]; exact okI_ret _ _ _
  have x0 : S_isAble_32 0 a b = okI 0 a b := by rw [q_S_isAble_32]; exact okI_ret _ _ _
  have m1 : M_canDo_27 a' b' = okI 1 a' b' := by rw [q_M_canDo_27, q_M_canDo_32]; exact okI_ret _ _ _
  have m0 : M_canDo_32 0 a' b' = okI 0 a' b' := by rw [q_M_canDo_32]; exact okI_ret _ _ _
  rw [q_S_isAble, q_M_canDo, zp, zw, kp, kw, cond_true, cond_true, cond_true, cond_true, cond_true, ← h1, ← h2, x1, x0]
  by_cases c : a 4 p < 0
  · rw [zcond_t c, zcond_t c]
    exact ⟨1, .inr rfl, rfl, m1⟩
  · rw [zcond_f c, zcond_f c, s_has, zcI_ok]
    by_cases c2 : ((a 17 w >>> (a 4 p &&& 31)) &&& 1) = 0
    · rw [zcond_t c2, if_pos c2, zcond_t rfl]
      exact ⟨0, .inl rfl, rfl, m0⟩
    · rw [zcond_f c2, if_neg c2, zcond_f (by decide)]
      exact ⟨1, .inr rfl, rfl, m1⟩
