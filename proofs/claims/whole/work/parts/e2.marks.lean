/-! Marks: all that is done with sets of nodes. -/
def seB (b : zB) (q : Nat) (x y : Int64) : zB := zupB (zupB b q 0 x) q 1 y
theorem se_q {b : zB} {q q' : Nat} {x y : Int64} (h : q' ≠ q) : seB b q x y q' = b q' := by
  funext j
  unfold seB zupB
  rw [if_neg (fun z => h z.1), if_neg (fun z => h z.1)]
theorem se_h {b : zB} {q n : Nat} {x y : Int64} : hK (seB b q x y) q n = if n < 64 then x.toBitVec.getLsbD n else y.toBitVec.getLsbD (n - 64) := by
  have e0 : seB b q x y q 0 = x := by
    unfold seB zupB
    rw [if_neg (fun z => absurd z.2 (by decide)), if_pos ⟨rfl, rfl⟩]
  have e1 : seB b q x y q 1 = y := by
    unfold seB zupB
    rw [if_pos ⟨rfl, rfl⟩]
  unfold hK
  rw [e0, e1]
theorem u1_1 {b : zB} {q r : Nat} {x : Int64} : zupB b q 0 x r 1 = b r 1 := if_neg (fun z => absurd z.2 (by decide))
theorem hK_q {b b' : zB} {q n : Nat} (h : b' q = b q) : hK b' q n = hK b q n := by
  unfold hK
  rw [h]
theorem k_become {q r : Nat} (hq : zokc zSH q 3 = true) (hr : zokc zSH r 3 = true) (a : zA) (b : zB) : ∃ b', K_become q r a b = okV a b' ∧ ((∀ n, n < 128 → hK b' q n = hK b r n) ∧ ∀ q', q' ≠ q → b' q' = b q') := by
  refine ⟨seB b q (b r 0) (b r 1), ?_, fun n _ => se_h, fun q' h => se_q h⟩
  rw [q_K_become, hq, hr, cond_true, cond_true, cond_true, cond_true, u1_1]
  exact okV_ret _ _
theorem k_addAll {q r : Nat} (hq : zokc zSH q 3 = true) (hr : zokc zSH r 3 = true) (a : zA) (b : zB) : ∃ b', K_addAll q r a b = okV a b' ∧ ((∀ n, n < 128 → hK b' q n = (hK b q n || hK b r n)) ∧ ∀ q', q' ≠ q → b' q' = b q') := by
  refine ⟨seB b q (b q 0 ||| b r 0) (b q 1 ||| b r 1), ?_, fun n _ => ?_, fun q' h => se_q h⟩
  · rw [q_K_addAll, hq, hr, cond_true, cond_true, cond_true, cond_true, cond_true, cond_true, u1_1, u1_1]
    exact okV_ret _ _
  · rw [se_h, Int64.toBitVec_or, Int64.toBitVec_or, BitVec.getLsbD_or, BitVec.getLsbD_or]
    show _ = (hK b q n || hK b r n)
    unfold hK
    by_cases c : n < 64
    · rw [if_pos c, if_pos c, if_pos c]
    · rw [if_neg c, if_neg c, if_neg c]
theorem k_keepOnly {q r : Nat} (hq : zokc zSH q 3 = true) (hr : zokc zSH r 3 = true) (a : zA) (b : zB) : ∃ b', K_keepOnly q r a b = okV a b' ∧ ((∀ n, n < 128 → hK b' q n = (hK b q n && hK b r n)) ∧ ∀ q', q' ≠ q → b' q' = b q') := by
  refine ⟨seB b q (b q 0 &&& b r 0) (b q 1 &&& b r 1), ?_, fun n _ => ?_, fun q' h => se_q h⟩
  · rw [q_K_keepOnly, hq, hr, cond_true, cond_true, cond_true, cond_true, cond_true, cond_true, u1_1, u1_1]
    exact okV_ret _ _
  · rw [se_h, Int64.toBitVec_and, Int64.toBitVec_and, BitVec.getLsbD_and, BitVec.getLsbD_and]
    show _ = (hK b q n && hK b r n)
    unfold hK
    by_cases c : n < 64
    · rw [if_pos c, if_pos c, if_pos c]
    · rw [if_neg c, if_neg c, if_neg c]
theorem nt_bit (y : Int64) {n : Nat} (h : n < 64) : (y ^^^ (-1)).toBitVec.getLsbD n = !y.toBitVec.getLsbD n := by
  have e : (-1 : Int64).toBitVec = BitVec.allOnes 64 := by decide
  rw [Int64.toBitVec_xor, e, BitVec.getLsbD_xor, BitVec.getLsbD_allOnes, decide_eq_true h]
  cases y.toBitVec.getLsbD n <;> rfl
theorem k_dropAll {q r : Nat} (hq : zokc zSH q 3 = true) (hr : zokc zSH r 3 = true) (a : zA) (b : zB) : ∃ b', K_dropAll q r a b = okV a b' ∧ ((∀ n, n < 128 → hK b' q n = (hK b q n && !hK b r n)) ∧ ∀ q', q' ≠ q → b' q' = b q') := by
  refine ⟨seB b q (b q 0 &&& (b r 0 ^^^ (-1))) (b q 1 &&& (b r 1 ^^^ (-1))), ?_, fun n hn => ?_, fun q' h => se_q h⟩
  · rw [q_K_dropAll, hq, hr, cond_true, cond_true, cond_true, cond_true, cond_true, cond_true, u1_1, u1_1]
    exact okV_ret _ _
  · rw [se_h, Int64.toBitVec_and, Int64.toBitVec_and, BitVec.getLsbD_and, BitVec.getLsbD_and]
    show _ = (hK b q n && !hK b r n)
    unfold hK
    by_cases c : n < 64
    · rw [if_pos c, if_pos c, if_pos c, nt_bit _ c]
    · rw [if_neg c, if_neg c, if_neg c, nt_bit _ (show n - 64 < 64 by omega)]
theorem k_remove {q m : Nat} (hq : zokc zSH q 3 = true) (hm : m < 128) (a : zA) (b : zB) : ∃ b', K_remove q (nI m) a b = okV a b' ∧ ((∀ n, n < 128 → hK b' q n = (hK b q n && !decide (n = m))) ∧ ∀ q', q' ≠ q → b' q' = b q') := by
  have k44 : ∀ b, K_remove_44 a b = okV a b := fun b => by rw [q_K_remove_44]; exact okV_ret _ _
  rw [q_K_remove, hq, cond_true, cond_true, cond_true, cond_true]
  by_cases c : m < 64
  · refine ⟨zupB b q 0 ((b q 0) &&& ((1 <<< ((nI m).toInt64 &&& 63)) ^^^ ((-1)))), ?_, fun n hn => ?_, fun q' h => ?_⟩
    · rw [zcond_t (show nI m < 64 from nI_lt (b := 64) c (by decide)), k44]
    · show hK _ q n = (hK b q n && !decide (n = m))
      unfold hK
      by_cases d : n < 64
      · rw [if_pos d, if_pos d]
        unfold zupB
        rw [if_pos ⟨rfl, rfl⟩, Int64.toBitVec_and, BitVec.getLsbD_and, nt_bit _ d, k_one ⟨m, c⟩ ⟨n, d⟩]
        congr 2
        rw [Bool.eq_iff_iff, decide_eq_true_iff, decide_eq_true_iff, Fin.mk.injEq]
      · rw [if_neg d, if_neg d, u1_1, decide_eq_false (show ¬ n = m by omega), Bool.not_false, Bool.and_true]
    · funext j
      exact if_neg (fun z => h z.1)
  · refine ⟨zupB b q 1 ((b q 1) &&& ((1 <<< ((nI m - 64).toInt64 &&& 63)) ^^^ ((-1)))), ?_, fun n hn => ?_, fun q' h => ?_⟩
    · rw [zcond_f (show ¬ nI m < 64 from nI_nlt (b := 64) (by omega) (by omega)), k44]
    · show hK _ q n = (hK b q n && !decide (n = m))
      unfold hK
      by_cases d : n < 64
      · rw [if_pos d, if_pos d]
        unfold zupB
        rw [if_neg (fun z => absurd z.2 (by decide)), decide_eq_false (show ¬ n = m by omega), Bool.not_false, Bool.and_true]
      · rw [if_neg d, if_neg d]
        unfold zupB
        rw [if_pos ⟨rfl, rfl⟩, Int64.toBitVec_and, BitVec.getLsbD_and, nt_bit _ (show n - 64 < 64 by omega), show nI m - 64 = nI (m - 64) from pk_sub (b := 64) (by omega), k_one ⟨m - 64, by omega⟩ ⟨n - 64, by omega⟩]
        congr 2
        rw [Bool.eq_iff_iff, decide_eq_true_iff, decide_eq_true_iff, Fin.mk.injEq]
        omega
    · funext j
      exact if_neg (fun z => h z.1)
theorem z64 (x : Int64) : x = 0 ↔ ∀ i, i < 64 → x.toBitVec.getLsbD i = false := by
  constructor
  · rintro rfl i _
    exact BitVec.getLsbD_zero
  · intro h
    apply Int64.toBitVec_inj.mp
    refine BitVec.eq_of_getLsbD_eq (fun i hi => ?_)
    rw [h i hi]
    exact BitVec.getLsbD_zero.symm
theorem k_meets {q r : Nat} (hq : zokc zSH q 3 = true) (hr : zokc zSH r 3 = true) (a : zA) (b : zB) : K_meets q r a b = okI (bI (aF (fun n => hK b q n && hK b r n) 0 128)) a b := by
  have k33 : ∀ x : Bool, K_meets_33 (bI x) a b = okI (bI x) a b := fun x => by
    rw [q_K_meets_33]
    cases x
    · exact okI_ret _ _ _
    · exact okI_ret _ _ _
  have k28 : K_meets_28 a b = okI (bI true) a b := by rw [q_K_meets_28]; exact k33 true
  have bit : ∀ (x y : Int64) (i : Nat), (x &&& y).toBitVec.getLsbD i = (x.toBitVec.getLsbD i && y.toBitVec.getLsbD i) := fun x y i => by rw [Int64.toBitVec_and, BitVec.getLsbD_and]
  have dz : ∀ x : Int64, decide (lg_cmp x 0 = 0) = decide (x = 0) := fun x => by rw [Bool.eq_iff_iff, decide_eq_true_iff, decide_eq_true_iff, lg_z]
  rw [q_K_meets, hq, hr, cond_true, cond_true, cond_true, cond_true, k28, dz, dz, show K_meets_33 0 a b = okI (bI false) a b from k33 false]
  by_cases c1 : b q 0 &&& b r 0 = 0
  · rw [zcond_t c1]
    have h1 := (z64 _).mp c1
    by_cases c2 : b q 1 &&& b r 1 = 0
    · rw [zcond_t c2]
      have h2 := (z64 _).mp c2
      congr 2
      refine (Bool.eq_false_iff.mpr fun z => ?_).symm
      obtain ⟨i, _, hi, g⟩ := (aF_i _ _).mp z
      unfold hK at g
      by_cases d : i < 64
      · rw [if_pos d, if_pos d, ← bit, h1 i d] at g
        exact absurd g (by decide)
      · rw [if_neg d, if_neg d, ← bit, h2 (i - 64) (by omega)] at g
        exact absurd g (by decide)
    · rw [zcond_f c2]
      congr 2
      refine Eq.symm ((aF_i _ _).mpr ?_)
      by_cases e : ∃ i, i < 64 ∧ (b q 1 &&& b r 1).toBitVec.getLsbD i = true
      · obtain ⟨i, h1, h2⟩ := e
        refine ⟨64 + i, by omega, by omega, ?_⟩
        unfold hK
        rw [if_neg (by omega), if_neg (by omega), ← bit, Nat.add_sub_cancel_left, h2]
      · exact absurd ((z64 _).mpr fun i hi => Bool.eq_false_iff.mpr fun z => e ⟨i, hi, z⟩) c2
  · rw [zcond_f c1]
    congr 2
    refine Eq.symm ((aF_i _ _).mpr ?_)
    by_cases e : ∃ i, i < 64 ∧ (b q 0 &&& b r 0).toBitVec.getLsbD i = true
    · obtain ⟨i, h1, h2⟩ := e
      refine ⟨i, by omega, by omega, ?_⟩
      unfold hK
      rw [if_pos h1, if_pos h1, ← bit, h2]
    · exact absurd ((z64 _).mpr fun i hi => Bool.eq_false_iff.mpr fun z => e ⟨i, hi, z⟩) c1
theorem kc_41 : zokc zSH 41 3 = true := rfl
theorem kc_42 : zokc zSH 42 3 = true := rfl
theorem kc_43 : zokc zSH 43 3 = true := rfl
theorem kc_44 : zokc zSH 44 3 = true := rfl
theorem kc_tab : ∀ n : Fin 120, (zrs zSH 40 n.val = true ∧ zrg zSH 40 n.val = 48 + n.val) ∧ zokc zSH (48 + n.val) 3 = true := by decide +kernel
theorem kc_rs {n : Nat} (h : n < 120) : zrs zSH 40 n = true := (kc_tab ⟨n, h⟩).1.1
theorem kc_rg {n : Nat} (h : n < 120) : zrg zSH 40 n = 48 + n := (kc_tab ⟨n, h⟩).1.2
theorem kc_k {n : Nat} (h : n < 120) : zokc zSH (48 + n) 3 = true := (kc_tab ⟨n, h⟩).2
