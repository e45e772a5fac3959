/-! How many: count. -/
theorem s_flag (x : Int32) (a : zA) (b : zB) : M_flag x a b = okI (if x = 0 then 0 else 1) a b := by
  rw [q_M_flag, q_M_flag_9, q_M_flag_9]
  by_cases h : x = 0
  · rw [zcond_t h, if_pos h]; exact okI_ret _ _ _
  · rw [zcond_f h, if_neg h]; exact okI_ret _ _ _
theorem rOne_neg {P : Nat} {x : Int32} (hP : P ≤ 1000) (h : rOne P x) : x < 0 ↔ x = -1 := by
  rcases h with h | ⟨w, hw, h⟩
  · subst h
    exact ⟨fun _ => rfl, fun _ => by decide⟩
  · subst h
    refine ⟨fun z => absurd z (nI_pos (by omega)), fun z => ?_⟩
    have := nI_toInt (n := w) (by omega)
    rw [z, show (-1 : Int32).toInt = -1 from by decide] at this
    omega
theorem s_filled {P Q T : Nat} {a a' : zA} {b b' : zB} (hP : P ≤ 10) (hQ : Q ≤ 10) (hT : T ≤ 60) (q1 : a 2 1 = nI Q) (q2 : a' 194 7 = nI Q) (t1 : a 12 6 = nI T) (hs : ∀ p, p < Q → a 13 (10 * T + p) = a' 206 (630 + p)) (ho : ∀ p, p < Q → rOne P (a 13 (10 * T + p))) :
    ∀ k p c, p + k = Q → ∃ v, v ≤ c + k ∧ X_filledPosts_4 (nI c) (nI p) a b = okI (nI v) a b ∧ M_filled_4 (nI c) (nI p) a' b' = okI (nI v) a' b'
  | 0, p, c, h => by
    have e : p = Q := by omega
    subst e
    refine ⟨c, by omega, ?_, ?_⟩
    · rw [q_X_filledPosts_4, q1, zcond_f (nI_nlt (Nat.le_refl _) (by omega))]; exact okI_ret _ _ _
    · rw [q_M_filled_4, q2, zcond_f (nI_nlt (Nat.le_refl _) (by omega))]; exact okI_ret _ _ _
  | k + 1, p, c, h => by
    have hlt : nI p < nI Q := nI_lt (by omega) (by omega)
    have hx : X_filledPosts_4 (nI c) (nI p) a b = cond (decide (a 13 (10 * T + p) = -1)) (X_filledPosts_37 (nI c) (nI p) a b) (X_filledPosts_37 (nI c + 1) (nI p) a b) := by
      rw [q_X_filledPosts_4, q1, zcond_t hlt, t1, s_onePlaced hT (by omega), zcI_ok]
    have hm : M_filled_4 (nI c) (nI p) a' b' = cond (decide (a' 206 (630 + p) < 0)) (M_filled_28 (nI p) (nI c) 0 a' b') (M_filled_28 (nI p) (nI c) 1 a' b') := by
      rw [q_M_filled_4, q2, zcond_t hlt, show (63 : Int32) = nI 63 from rfl, s_on (by omega), zcI_ok]
    have hneg := rOne_neg (by omega) (ho p (by omega))
    by_cases e : a 13 (10 * T + p) = -1
    · obtain ⟨v, hv, g1, g2⟩ := s_filled hP hQ hT q1 q2 t1 hs ho k (p + 1) c (by omega)
      refine ⟨v, by omega, ?_, ?_⟩
      · rw [hx, zcond_t e, q_X_filledPosts_37, nI_1]; exact g1
      · rw [hm, ← hs p (by omega), zcond_t (hneg.mpr e), q_M_filled_28, s_flag, if_pos rfl, zcI_ok, nI_1, show nI c + 0 = nI c from nI_add c 0]; exact g2
    · obtain ⟨v, hv, g1, g2⟩ := s_filled hP hQ hT q1 q2 t1 hs ho k (p + 1) (c + 1) (by omega)
      refine ⟨v, by omega, ?_, ?_⟩
      · rw [hx, zcond_f e, q_X_filledPosts_37, nI_1, nI_1]; exact g1
      · rw [hm, ← hs p (by omega), zcond_f (fun z => e (hneg.mp z)), q_M_filled_28, s_flag, if_neg (by decide), zcI_ok, nI_1, nI_1]; exact g2
theorem r_count {L : Nat} {xs : Nat → Int32} (x1 : Int32) : zAns (Rel L xs) (X_count x1) (M_count x1) := by
  intro a b hr
  obtain ⟨P, Q, T, G, N, hall⟩ := id hr
  obtain ⟨h0, ⟨⟨n1, n2, n3⟩, ⟨n4, n5, n6⟩, ⟨n7, n8, n9⟩, ⟨n10, n11, n12⟩, ⟨n13, n14, n15⟩, -⟩, hH, hC, ⟨d1, d2, d3, -⟩, hW, ⟨⟨r1, -⟩, ⟨r2, -⟩, -⟩, -⟩ := id hall
  have go : ∀ v, X_count x1 a b = okI v a b → M_count x1 a b = okI v (zup a 194 0 0) b → ∃ v a1 b1 a2 b2, X_count x1 a b = okI v a1 b1 ∧ (∀ j, a1 0 j = a 0 j) ∧ M_count x1 a1 b1 = okI v a2 b2 ∧ Rel L xs a2 b2 := fun v h1 h2 => ⟨v, a, b, _, b, h1, fun _ => rfl, h2, rel_thr hr⟩
  have m : ∀ j, j ≠ 0 → zup a 194 0 0 194 j = a 194 j := fun j h => zup_nj h
  have z2 : zin 0 2 = true := by decide
  have z3 : zin 1 2 = true := by decide
  have c0 : (0 : Int32).toNatClampNeg = 0 := by decide
  have c1 : (1 : Int32).toNatClampNeg = 1 := by decide
  by_cases e0 : x1 = 0
  · refine go (a 2 0) ?_ ?_
    · rw [q_X_count, zcond_t e0]; exact okI_ret _ _ _
    · rw [q_M_count, zcond_t e0, m 3 (by decide), show a 194 3 = a 2 0 from n2.trans n1.symm]; exact okI_ret _ _ _
  by_cases e1 : x1 = 0 + 1
  · refine go (a 2 1) ?_ ?_
    · rw [q_X_count, zcond_f e0, zcond_t e1]; exact okI_ret _ _ _
    · rw [q_M_count, zcond_f e0, zcond_t e1, m 7 (by decide), show a 194 7 = a 2 1 from n5.trans n4.symm]; exact okI_ret _ _ _
  by_cases e2 : x1 = 0 + 1 + 1
  · refine go (a 12 6) ?_ ?_
    · rw [q_X_count, zcond_f e0, zcond_f e1, zcond_t e2]; exact okI_ret _ _ _
    · rw [q_M_count, zcond_f e0, zcond_f e1, zcond_t e2, m 15 (by decide), show a 194 15 = a 12 6 from n8.trans n7.symm]; exact okI_ret _ _ _
  by_cases e3 : x1 = 0 + 1 + 1 + 1
  · refine go (a 9 0) ?_ ?_
    · rw [q_X_count, zcond_f e0, zcond_f e1, zcond_f e2, zcond_t e3, z2, cond_true, c0]; exact okI_ret _ _ _
    · rw [q_M_count, zcond_f e0, zcond_f e1, zcond_f e2, zcond_t e3, m 17 (by decide), show a 194 17 = a 9 0 from r1.symm]; exact okI_ret _ _ _
  by_cases e4 : x1 = 0 + 1 + 1 + 1 + 1
  · refine go (a 9 1) ?_ ?_
    · rw [q_X_count, zcond_f e0, zcond_f e1, zcond_f e2, zcond_f e3, zcond_t e4, z3, cond_true, c1]; exact okI_ret _ _ _
    · rw [q_M_count, zcond_f e0, zcond_f e1, zcond_f e2, zcond_f e3, zcond_t e4, m 18 (by decide), show a 194 18 = a 9 1 from r2.symm]; exact okI_ret _ _ _
  by_cases e5 : x1 = 0 + 1 + 1 + 1 + 1 + 1
  · have hs : ∀ p, p < Q → a 13 (10 * T + p) = zup a 194 0 0 206 (630 + p) := fun p hp => (show a 13 (10 * T + p) = a 206 (630 + p) from d2 p hp).trans (zup_ne (by decide)).symm
    have ho : ∀ p, p < Q → rOne P (a 13 (10 * T + p)) := fun p hp => d3 T p (Nat.le_refl _) hp
    obtain ⟨v, -, g1, g2⟩ := s_filled (b := b) (b' := b) n3 n6 n9 (show a 2 1 = nI Q from n4) ((m 7 (by decide)).trans n5) (show a 12 6 = nI T from n7) hs ho Q 0 0 (Nat.zero_add _)
    have g1 : X_filledPosts_4 0 0 a b = okI (nI v) a b := g1
    have g2 : M_filled_4 0 0 (zup a 194 0 0) b = okI (nI v) (zup a 194 0 0) b := g2
    refine go (nI v) ?_ ?_
    · rw [q_X_count, zcond_f e0, zcond_f e1, zcond_f e2, zcond_f e3, zcond_f e4, zcond_t e5, q_X_filledPosts, g1, zcI_ok]; exact okI_ret _ _ _
    · rw [q_M_count, zcond_f e0, zcond_f e1, zcond_f e2, zcond_f e3, zcond_f e4, zcond_t e5, q_M_filled, g2, zcI_ok]; exact okI_ret _ _ _
  by_cases e6 : x1 = 0 + 1 + 1 + 1 + 1 + 1 + 1
  · refine go (a 1 12) ?_ ?_
    · rw [q_X_count, zcond_f e0, zcond_f e1, zcond_f e2, zcond_f e3, zcond_f e4, zcond_f e5, zcond_t e6]; exact okI_ret _ _ _
    · rw [q_M_count, zcond_f e0, zcond_f e1, zcond_f e2, zcond_f e3, zcond_f e4, zcond_f e5, zcond_t e6, m 1 (by decide), show a 194 1 = a 1 12 from n14.trans n13.symm]; exact okI_ret _ _ _
  by_cases e7 : x1 = 0 + 1 + 1 + 1 + 1 + 1 + 1 + 1
  · refine go (a 1 11) ?_ ?_
    · rw [q_X_count, zcond_f e0, zcond_f e1, zcond_f e2, zcond_f e3, zcond_f e4, zcond_f e5, zcond_f e6, zcond_t e7]; exact okI_ret _ _ _
    · rw [q_M_count, zcond_f e0, zcond_f e1, zcond_f e2, zcond_f e3, zcond_f e4, zcond_f e5, zcond_f e6, zcond_t e7, m 34 (by decide), show a 194 34 = a 1 11 from n11.trans n10.symm]; exact okI_ret _ _ _
  · refine go (-1) ?_ ?_
    · rw [q_X_count, zcond_f e0, zcond_f e1, zcond_f e2, zcond_f e3, zcond_f e4, zcond_f e5, zcond_f e6, zcond_f e7]; exact okI_ret _ _ _
    · rw [q_M_count, zcond_f e0, zcond_f e1, zcond_f e2, zcond_f e3, zcond_f e4, zcond_f e5, zcond_f e6, zcond_f e7]; exact okI_ret _ _ _
