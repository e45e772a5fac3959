/-! Marks: sets of nodes in two longs. -/
def hK (b : zB) (q n : Nat) : Bool := if n < 64 then (b q 0).toBitVec.getLsbD n else (b q 1).toBitVec.getLsbD (n - 64)
theorem k_bit (v : Int64) (n : Fin 64) : (decide ((((v.toUInt64 >>> ((nI n.val).toInt64.toUInt64 &&& Int64.toUInt64 63)).toInt64) &&& 1) = 0)) = !v.toBitVec.getLsbD n.val := by
  have e : ((nI n.val).toInt64.toUInt64 &&& Int64.toUInt64 63).toBitVec = BitVec.ofNat 64 n.val := by
    have : ∀ m : Fin 64, ((nI m.val).toInt64.toUInt64 &&& Int64.toUInt64 63).toBitVec = BitVec.ofNat 64 m.val := by decide +kernel
    exact this n
  rw [Bool.eq_iff_iff, decide_eq_true_iff, Bool.not_eq_true']
  rw [← Int64.toBitVec_inj]
  have h1 : (((v.toUInt64 >>> ((nI n.val).toInt64.toUInt64 &&& Int64.toUInt64 63)).toInt64) &&& 1).toBitVec = (v.toBitVec >>> n.val) &&& 1#64 := by
    rw [Int64.toBitVec_and]
    show (v.toUInt64 >>> ((nI n.val).toInt64.toUInt64 &&& Int64.toUInt64 63)).toBitVec &&& 1#64 = _
    rw [UInt64.toBitVec_shiftRight, e]
    have : (BitVec.ofNat 64 n.val % 64).toNat = n.val := by
      have := n.isLt
      simp
    rw [BitVec.ushiftRight_eq', this]
    rfl
  rw [h1]
  constructor
  · intro h
    have := congrArg (fun x => x.getLsbD 0) h
    simpa using this
  · intro h
    refine BitVec.eq_of_getLsbD_eq (fun i hi => ?_)
    cases i with
    | zero => simpa using h
    | succ i => simp
theorem lg_z (x : Int64) : (lg_cmp x 0 = 0) ↔ x = 0 := by
  have h1 := lg_cmp_lt x 0
  have h2 := lg_cmp_gt x 0
  constructor
  · intro e
    rw [e] at h1 h2
    have a1 : ¬ x < 0 := fun z => absurd (h1.mpr z) (by decide)
    have a2 : ¬ 0 < x := fun z => absurd (h2.mpr z) (by decide)
    rw [Int64.lt_iff_toInt_lt] at a1 a2
    exact Int64.toInt_inj.mp (by omega)
  · rintro rfl
    decide
theorem k_has {q n : Nat} (hq : zokc zSH q 3 = true) (hn : n < 128) (a : zA) (b : zB) : K_has q (nI n) a b = okI (bI (hK b q n)) a b := by
  have k48 : ∀ x : Bool, K_has_48 (bI x) a b = okI (bI x) a b := fun x => by
    rw [q_K_has_48]
    cases x
    · exact okI_ret _ _ _
    · exact okI_ret _ _ _
  have fin : ∀ (v : Int64) (m : Fin 64), cond (decide (lg_cmp (((v.toUInt64 >>> ((nI m.val).toInt64.toUInt64 &&& Int64.toUInt64 63)).toInt64) &&& 1) 0 = 0)) (K_has_48 0 a b) (K_has_48 1 a b) = okI (bI (v.toBitVec.getLsbD m.val)) a b := fun v m => by
    have e := k_bit v m
    have e2 : decide (lg_cmp (((v.toUInt64 >>> ((nI m.val).toInt64.toUInt64 &&& Int64.toUInt64 63)).toInt64) &&& 1) 0 = 0) = !v.toBitVec.getLsbD m.val := by
      rw [← e, Bool.eq_iff_iff, decide_eq_true_iff, decide_eq_true_iff, lg_z]
    rw [e2]
    cases v.toBitVec.getLsbD m.val
    · exact k48 false
    · exact k48 true
  unfold hK
  rw [q_K_has, hq, cond_true, cond_true]
  by_cases c : n < 64
  · rw [zcond_t (show nI n < 64 from nI_lt (b := 64) c (by decide)), if_pos c]
    exact fin (b q 0) ⟨n, c⟩
  · rw [zcond_f (show ¬ nI n < 64 from nI_nlt (b := 64) (by omega) (by omega)), if_neg c, show nI n - 64 = nI (n - 64) from pk_sub (b := 64) (by omega)]
    exact fin (b q 1) ⟨n - 64, by omega⟩
theorem k_clear {q : Nat} (hq : zokc zSH q 3 = true) (a : zA) (b : zB) : K_clear q a b = okV a (zupB (zupB b q 0 0) q 1 0) ∧ ∀ n, hK (zupB (zupB b q 0 0) q 1 0) q n = false := by
  refine ⟨?_, fun n => ?_⟩
  · rw [q_K_clear, hq, cond_true, cond_true]
    exact okV_ret _ _
  · unfold hK zupB
    by_cases c : n < 64
    · rw [if_pos c, if_neg (by omega), if_pos ⟨rfl, rfl⟩]
      exact BitVec.getLsbD_zero
    · rw [if_neg c, if_pos ⟨rfl, rfl⟩]
      exact BitVec.getLsbD_zero
