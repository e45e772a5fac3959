/-! Marks: add. -/
theorem k_one (m : Fin 64) (i : Fin 64) : ((1 : Int64) <<< ((nI m.val).toInt64 &&& 63)).toBitVec.getLsbD i.val = decide (i = m) := by
  revert m i
  decide +kernel
def addK (b : zB) (q n : Nat) : zB := if n < 64 then zupB b q 0 (b q 0 ||| ((1 : Int64) <<< ((nI n).toInt64 &&& 63))) else zupB b q 1 (b q 1 ||| ((1 : Int64) <<< ((nI (n - 64)).toInt64 &&& 63)))
theorem k_add {q n : Nat} (hq : zokc zSH q 3 = true) (hn : n < 128) (a : zA) (b : zB) : K_add q (nI n) a b = okV a (addK b q n) := by
  have k36 : ∀ b, K_add_36 a b = okV a b := fun b => by rw [q_K_add_36]; exact okV_ret _ _
  unfold addK
  rw [q_K_add, hq, cond_true, cond_true, cond_true, cond_true]
  by_cases c : n < 64
  · rw [zcond_t (show nI n < 64 from nI_lt (b := 64) c (by decide)), if_pos c, k36]
  · rw [zcond_f (show ¬ nI n < 64 from nI_nlt (b := 64) (by omega) (by omega)), if_neg c, k36, show nI n - 64 = nI (n - 64) from pk_sub (b := 64) (by omega)]
theorem hK_add {b : zB} {q n i : Nat} (hn : n < 128) (hi : i < 128) : hK (addK b q n) q i = (hK b q i || decide (i = n)) := by
  unfold hK addK zupB
  by_cases c : n < 64
  · rw [if_pos c]
    by_cases d : i < 64
    · rw [if_pos d, if_pos ⟨rfl, rfl⟩, if_pos d, Int64.toBitVec_or, BitVec.getLsbD_or, k_one ⟨n, c⟩ ⟨i, d⟩]
      congr 1
      rw [Bool.eq_iff_iff, decide_eq_true_iff, decide_eq_true_iff, Fin.mk.injEq]
    · rw [if_neg d, if_neg (by omega), if_neg d, decide_eq_false (show ¬ i = n by omega), Bool.or_false]
  · rw [if_neg c]
    by_cases d : i < 64
    · rw [if_pos d, if_neg (by omega), if_pos d, decide_eq_false (show ¬ i = n by omega), Bool.or_false]
    · rw [if_neg d, if_pos ⟨rfl, rfl⟩, if_neg d, Int64.toBitVec_or, BitVec.getLsbD_or, k_one ⟨n - 64, by omega⟩ ⟨i - 64, by omega⟩]
      congr 1
      rw [Bool.eq_iff_iff, decide_eq_true_iff, decide_eq_true_iff, Fin.mk.injEq]
      omega
theorem addK_q {b : zB} {q n q' : Nat} (h : q' ≠ q) : addK b q n q' = b q' := by
  funext j
  unfold addK zupB
  by_cases c : n < 64
  · rw [if_pos c]
    exact if_neg (fun z => h z.1)
  · rw [if_neg c]
    exact if_neg (fun z => h z.1)
