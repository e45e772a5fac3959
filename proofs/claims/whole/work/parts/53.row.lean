/-! The row: told, or none such. -/
theorem r_row {L : Nat} {xs : Nat → Int32} (x1 : Int32) (a : zA) (b : zB) (hr : Rel L xs a b) :
    ((x1 < 0 ∨ a 1 12 ≤ x1) ∧ ∃ v a2 b2 a3 b3, M_row x1 a b = okI v a2 b2 ∧ M_thrown a2 b2 = okI 1 a3 b3 ∧ Rel L xs a3 b3) ∨
    (¬ (x1 < 0 ∨ a 1 12 ≤ x1) ∧ zin x1 32 = true ∧ ∃ a2 b2 a3 b3, M_row x1 a (zupB b 237 0 (a 171 x1.toNatClampNeg).toInt64) = okI (a 171 x1.toNatClampNeg) a2 b2 ∧ M_thrown a2 b2 = okI 0 a3 b3 ∧ b3 237 0 = (a 171 x1.toNatClampNeg).toInt64 ∧ Rel L xs a3 b3) := by
  obtain ⟨P, Q, T, G, N, h0, ⟨n1, n4, n5, n6, ⟨n7, n8, n9⟩, n10, n11⟩, hH, hC, hD, hW, hRu, hTa, hRo, hKe, hKn⟩ := id hr
  have p1 : a 1 12 = nI N := n7
  have p2 : a 194 1 = nI N := n8
  have hro : ∀ j, j < N → a 171 j = a 195 j := hRo
  have e0 : (0 : Int64) = (0 : Int32).toInt64 := by decide
  have d00 : decide ((0 : Int32) = 0) = true := by decide
  have d10 : decide ((1 : Int32) = 0) = false := by decide
  have hm : (nI N - 1).toInt = (N : Int) - 1 := pk_sub_toInt (a := N) (b := 1) (by omega) (by decide)
  have hin : ∀ b : zB, M_in x1.toInt64 0 (((zup a 194 0 0) 194 1) - 1).toInt64 (zup a 194 0 0) b = okI (if x1 < 0 then 0 else if nI N - 1 < x1 then 0 else 1) (zup a 194 0 0) b := fun b => s_in32 x1 0 (nI N - 1) e0 (by rw [zup_nj (by decide), p2]) _ _
  have tn : M_thrown (zup (zup a 194 0 0) 194 0 1) b = okI 1 (zup (zup a 194 0 0) 194 0 1) b := by
    rw [q_M_thrown, zup_eq]
    exact okI_ret _ _ _
  by_cases c1 : x1 < 0
  · refine .inl ⟨.inl c1, 0, zup (zup a 194 0 0) 194 0 1, b, _, b, ?_, tn, rel_thr (b := b) (rel_thr (b := b) hr)⟩
    rw [q_M_row, hin b, zcI_ok, if_pos c1, d00]
    exact okI_ret _ _ _
  by_cases c2 : nI N ≤ x1
  · have c3 : nI N - 1 < x1 := by
      rw [Int32.lt_iff_toInt_lt, hm]
      rw [Int32.le_iff_toInt_le, nI_toInt (by omega)] at c2
      omega
    refine .inl ⟨.inr (by rw [p1]; exact c2), 0, zup (zup a 194 0 0) 194 0 1, b, _, b, ?_, tn, rel_thr (b := b) (rel_thr (b := b) hr)⟩
    rw [q_M_row, hin b, zcI_ok, if_neg c1, if_pos c3, d00]
    exact okI_ret _ _ _
  obtain ⟨j, hj, rfl⟩ := nI_of c1
  have hjN : j < N := Nat.lt_of_not_le (fun z => c2 (nI_le z hj))
  have c3 : ¬ nI N - 1 < nI j := by
    rw [Int32.lt_iff_toInt_lt, hm, nI_toInt hj]
    omega
  have k1 : (nI j).toNatClampNeg = j := nI_clamp hj
  refine .inr ⟨fun z => z.elim c1 (fun z => c2 (by rw [p1] at z; exact z)), zin_nI (by omega) (by decide), zup a 194 0 0, zupB b 237 0 (a 171 (nI j).toNatClampNeg).toInt64, zup a 194 0 0, zupB b 237 0 (a 171 (nI j).toNatClampNeg).toInt64, ?_, ?_, if_pos ⟨rfl, rfl⟩, rel_thr (b := b) hr⟩
  · rw [q_M_row, hin, zcI_ok, if_neg c1, if_neg c3, d10, k1, zin_nI (n := 40) (by omega) (by decide), zup_ne (by decide), ← hro j hjN]
    exact okI_ret _ _ _
  · rw [q_M_thrown, zup_eq]
    exact okI_ret _ _ _
