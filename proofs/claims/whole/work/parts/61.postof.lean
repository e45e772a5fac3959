/-! Where one is put: the post of a person on the draft; a post of the draft written. -/
theorem s_postOf {T : Nat} (hT : T ≤ 60) (x : Int32) (a : zA) (b : zB) : ∀ k p, p + k = 10 → ∃ y, S_postOf_14 (nI T) x (nI p) a b = okI y a b ∧ ((y = -1 ∧ ∀ j, p ≤ j → j < 10 → a 13 (10 * T + j) ≠ x) ∨ ∃ j, p ≤ j ∧ j < 10 ∧ y = nI j ∧ a 13 (10 * T + j) = x ∧ ∀ i, p ≤ i → i < j → a 13 (10 * T + i) ≠ x)
  | 0, p, h => by
    have e : p = 10 := by omega
    subst e
    refine ⟨-1, ?_, .inl ⟨rfl, fun j h1 h2 => absurd h2 (by omega)⟩⟩
    rw [q_S_postOf_14, zcond_f (show ¬ nI 10 < 10 from by decide)]
    exact okI_ret _ _ _
  | k + 1, p, h => by
    have i1 : nI T * 10 + nI p = nI (T * 10 + p) := s_mul T 10 p
    have k1 : (nI (T * 10 + p)).toNatClampNeg = 10 * T + p := (nI_clamp (by omega)).trans (by omega)
    have hs : S_postOf_14 (nI T) x (nI p) a b = cond (decide (a 13 (10 * T + p) = x)) (zRET (some (.int (nI p))) zSH a b) (S_postOf_14 (nI T) x (nI (p + 1)) a b) := by
      rw [q_S_postOf_14, zcond_t (show nI p < 10 from nI_lt (b := 10) (by omega) (by decide)), i1, zin_nI (n := 610) (by omega) (by decide), cond_true, k1, nI_1]
    by_cases c : a 13 (10 * T + p) = x
    · refine ⟨nI p, ?_, .inr ⟨p, Nat.le_refl _, by omega, rfl, c, fun i h1 h2 => absurd h2 (by omega)⟩⟩
      rw [hs, zcond_t c]
      exact okI_ret _ _ _
    · obtain ⟨y, h1, h2⟩ := s_postOf hT x a b k (p + 1) (by omega)
      refine ⟨y, by rw [hs, zcond_f c]; exact h1, ?_⟩
      rcases h2 with ⟨h2, h3⟩ | ⟨j, h3, h4, h5, h6, h7⟩
      · refine .inl ⟨h2, fun j g1 g2 => ?_⟩
        by_cases e : j = p
        · subst e; exact c
        · exact h3 j (by omega) g2
      · refine .inr ⟨j, by omega, h4, h5, h6, fun i g1 g2 => ?_⟩
        by_cases e : i = p
        · subst e; exact c
        · exact h7 i (by omega) g2
theorem s_MpostOf {Q : Nat} (hQ : Q ≤ 10) (x : Int32) (a : zA) (b : zB) (hq : a 194 7 = nI Q) : ∀ k p, p + k = Q → ∃ y, M_postOf_2 x (nI p) a b = okI y a b ∧ ((y = -1 ∧ ∀ j, p ≤ j → j < Q → a 206 (630 + j) ≠ x) ∨ ∃ j, p ≤ j ∧ j < Q ∧ y = nI j ∧ a 206 (630 + j) = x ∧ ∀ i, p ≤ i → i < j → a 206 (630 + i) ≠ x)
  | 0, p, h => by
    have e : p = Q := by omega
    subst e
    refine ⟨-1, ?_, .inl ⟨rfl, fun j h1 h2 => absurd h2 (by omega)⟩⟩
    rw [q_M_postOf_2, hq, zcond_f (nI_nlt (Nat.le_refl _) (by omega))]
    exact okI_ret _ _ _
  | k + 1, p, h => by
    have hs : M_postOf_2 x (nI p) a b = cond (decide (a 206 (630 + p) = x)) (zRET (some (.int (nI p))) zSH a b) (M_postOf_2 x (nI (p + 1)) a b) := by
      rw [q_M_postOf_2, hq, zcond_t (nI_lt (by omega) (by omega)), show M_on 63 (nI p) a b = M_on (nI 63) (nI p) a b from rfl, s_on (by omega), zcI_ok, nI_1]
    by_cases c : a 206 (630 + p) = x
    · refine ⟨nI p, ?_, .inr ⟨p, Nat.le_refl _, by omega, rfl, c, fun i h1 h2 => absurd h2 (by omega)⟩⟩
      rw [hs, zcond_t c]
      exact okI_ret _ _ _
    · obtain ⟨y, h1, h2⟩ := s_MpostOf hQ x a b hq k (p + 1) (by omega)
      refine ⟨y, by rw [hs, zcond_f c]; exact h1, ?_⟩
      rcases h2 with ⟨h2, h3⟩ | ⟨j, h3, h4, h5, h6, h7⟩
      · refine .inl ⟨h2, fun j g1 g2 => ?_⟩
        by_cases e : j = p
        · subst e; exact c
        · exact h3 j (by omega) g2
      · refine .inr ⟨j, by omega, h4, h5, h6, fun i g1 g2 => ?_⟩
        by_cases e : i = p
        · subst e; exact c
        · exact h7 i (by omega) g2
theorem s_place {T p : Nat} (hT : T ≤ 60) (hp : p < 10) (x : Int32) (a : zA) (b : zB) (ht : a 12 6 = nI T) : S_place (nI p) x a b = okV (zup a 13 (10 * T + p) x) b := by
  have i1 : nI T * 10 + nI p = nI (T * 10 + p) := s_mul T 10 p
  have k1 : (nI (T * 10 + p)).toNatClampNeg = 10 * T + p := (nI_clamp (by omega)).trans (by omega)
  rw [q_S_place, zcond_f (nI_pos (by omega)), zcond_t (show nI p < 10 from nI_lt (b := 10) hp (by decide)), ht, zcond_f (nI_pos (by omega)), zcond_f (show ¬ (60 : Int32) < nI T from nI_nlt (a := 60) hT (by decide)), i1, zin_nI (n := 610) (by omega) (by decide), cond_true, k1, q_S_place_41]
  exact okV_ret _ _
