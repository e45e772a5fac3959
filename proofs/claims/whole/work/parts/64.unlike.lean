/-! Days alike: unlike. -/
theorem s_sameDays {d e : Nat} (hd : d ≤ 60) (he : e ≤ 60) (a : zA) (b : zB) : ∀ k p, p + k = 10 → ∃ y, S_sameDays_2 (nI d) (nI e) (nI p) a b = okI y a b ∧ ((y = 1 ∧ ∀ i, p ≤ i → i < 10 → a 13 (10 * d + i) = a 13 (10 * e + i)) ∨ (y = 0 ∧ ∃ i, p ≤ i ∧ i < 10 ∧ a 13 (10 * d + i) ≠ a 13 (10 * e + i)))
  | 0, p, h => by
    have e1 : p = 10 := by omega
    subst e1
    refine ⟨1, ?_, .inl ⟨rfl, fun i h1 h2 => absurd h2 (by omega)⟩⟩
    rw [q_S_sameDays_2, zcond_f (show ¬ nI 10 < 10 from by decide)]
    exact okI_ret _ _ _
  | k + 1, p, h => by
    have hs : S_sameDays_2 (nI d) (nI e) (nI p) a b = cond (decide (a 13 (10 * d + p) = a 13 (10 * e + p))) (S_sameDays_2 (nI d) (nI e) (nI (p + 1)) a b) (zRET (some (.int 0)) zSH a b) := by
      rw [q_S_sameDays_2, zcond_t (show nI p < 10 from nI_lt (b := 10) (by omega) (by decide)), s_onePlaced hd (by omega), zcI_ok, s_onePlaced he (by omega), zcI_ok, nI_1]
    by_cases c : a 13 (10 * d + p) = a 13 (10 * e + p)
    · obtain ⟨y, h1, h2⟩ := s_sameDays hd he a b k (p + 1) (by omega)
      refine ⟨y, by rw [hs, zcond_t c]; exact h1, ?_⟩
      rcases h2 with ⟨h2, h3⟩ | ⟨h2, i, h3, h4, h5⟩
      · refine .inl ⟨h2, fun i g1 g2 => ?_⟩
        by_cases e1 : i = p
        · subst e1; exact c
        · exact h3 i (by omega) g2
      · exact .inr ⟨h2, i, by omega, h4, h5⟩
    · refine ⟨0, by rw [hs, zcond_f c]; exact okI_ret _ _ _, .inr ⟨rfl, p, Nat.le_refl _, by omega, c⟩⟩
theorem s_areSame0 {Q : Nat} (hQ : Q ≤ 10) (v1 v2 : Int32) (a : zA) (b : zB) (hq : a 194 7 = nI Q) : ∀ k p, p + k = Q → M_areSame_5 v1 v2 0 (nI p) a b = okI 0 a b
  | 0, p, h => by
    have e1 : p = Q := by omega
    subst e1
    rw [q_M_areSame_5, hq, zcond_f (nI_nlt (Nat.le_refl _) (by omega))]
    exact okI_ret _ _ _
  | k + 1, p, h => by
    rw [q_M_areSame_5, hq, zcond_t (nI_lt (by omega) (by omega)), zcond_t rfl, q_M_areSame_39, q_M_areSame_40, nI_1]
    exact s_areSame0 hQ v1 v2 a b hq k (p + 1) (by omega)
theorem s_areSame {Q d e : Nat} (hQ : Q ≤ 10) (hd : d < 60) (he : e < 60) (a : zA) (b : zB) (hq : a 194 7 = nI Q) : ∀ k p, p + k = Q → ∃ y, M_areSame_5 (nI d) (nI e) 1 (nI p) a b = okI y a b ∧ ((y = 1 ∧ ∀ i, p ≤ i → i < Q → a 206 (10 * d + i) = a 206 (10 * e + i)) ∨ (y = 0 ∧ ∃ i, p ≤ i ∧ i < Q ∧ a 206 (10 * d + i) ≠ a 206 (10 * e + i)))
  | 0, p, h => by
    have e1 : p = Q := by omega
    subst e1
    refine ⟨1, ?_, .inl ⟨rfl, fun i h1 h2 => absurd h2 (by omega)⟩⟩
    rw [q_M_areSame_5, hq, zcond_f (nI_nlt (Nat.le_refl _) (by omega))]
    exact okI_ret _ _ _
  | k + 1, p, h => by
    have hs : M_areSame_5 (nI d) (nI e) 1 (nI p) a b = cond (decide (a 206 (10 * d + p) = a 206 (10 * e + p))) (M_areSame_5 (nI d) (nI e) 1 (nI (p + 1)) a b) (M_areSame_5 (nI d) (nI e) 0 (nI (p + 1)) a b) := by
      rw [q_M_areSame_5, hq, zcond_t (nI_lt (by omega) (by omega)), zcond_f (by decide), s_on (by omega), zcI_ok, s_on (by omega), zcI_ok, q_M_areSame_39, q_M_areSame_40, q_M_areSame_40, nI_1]
    by_cases c : a 206 (10 * d + p) = a 206 (10 * e + p)
    · obtain ⟨y, h1, h2⟩ := s_areSame hQ hd he a b hq k (p + 1) (by omega)
      refine ⟨y, by rw [hs, zcond_t c]; exact h1, ?_⟩
      rcases h2 with ⟨h2, h3⟩ | ⟨h2, i, h3, h4, h5⟩
      · refine .inl ⟨h2, fun i g1 g2 => ?_⟩
        by_cases e1 : i = p
        · subst e1; exact c
        · exact h3 i (by omega) g2
      · exact .inr ⟨h2, i, by omega, h4, h5⟩
    · refine ⟨0, by rw [hs, zcond_f c]; exact s_areSame0 hQ _ _ a b hq k (p + 1) (by omega), .inr ⟨rfl, p, Nat.le_refl _, by omega, c⟩⟩
/-- two days gone by are alike to both or to none -/
theorem s_alike {P Q T d e : Nat} {a a' : zA} {b b' : zB} (hQ : Q ≤ 10) (hT : T ≤ 60) (hq : a' 194 7 = nI Q) (hD : rDays P Q T (a 13) (a' 206) (fun p => a' 206 (630 + p))) (hd : d < T) (he : e < T) : ∃ y, (y = 0 ∨ y = 1) ∧ S_sameDays (nI d) (nI e) a b = okI y a b ∧ M_areSame (nI d) (nI e) a' b' = okI y a' b' := by
  obtain ⟨d1, d2, d3, d4, d5⟩ := hD
  obtain ⟨y, s1, s2⟩ := s_sameDays (d := d) (e := e) (by omega) (by omega) a b 10 0 rfl
  obtain ⟨z, m1, m2⟩ := s_areSame (d := d) (e := e) hQ (by omega) (by omega) a' b' hq Q 0 (Nat.zero_add _)
  have e1 : y = z := by
    rcases s2 with ⟨s2, s3⟩ | ⟨s2, i, s3, s4, s5⟩
    · rcases m2 with ⟨m2, m3⟩ | ⟨m2, j, m3, m4, m5⟩
      · rw [s2, m2]
      · rw [← d1 d j hd m4, ← d1 e j he m4] at m5
        exact absurd (s3 j (Nat.zero_le _) (by omega)) m5
    · have hi : i < Q := Nat.lt_of_not_le fun g => s5 ((d5 d i (by omega) s4 (.inr g)).trans (d5 e i (by omega) s4 (.inr g)).symm)
      rcases m2 with ⟨m2, m3⟩ | ⟨m2, j, m3, m4, m5⟩
      · rw [d1 d i hd hi, d1 e i he hi] at s5
        exact absurd (m3 i (Nat.zero_le _) hi) s5
      · rw [s2, m2]
  refine ⟨y, ?_, ?_, ?_⟩
  · rcases s2 with ⟨s2, -⟩ | ⟨s2, -⟩
    · exact .inr s2
    · exact .inl s2
  · rw [q_S_sameDays]; exact s1
  · rw [q_M_areSame, e1]; exact m1
theorem s_comes {P Q T d n : Nat} {a a' : zA} {b b' : zB} (hQ : Q ≤ 10) (hT : T ≤ 60) (hq : a' 194 7 = nI Q) (ht : a 12 6 = nI T) (ht' : a' 194 15 = nI T) (hD : rDays P Q T (a 13) (a' 206) (fun p => a' 206 (630 + p))) (hd : d < T) : ∀ k r, r + k = T → (X_comesAgain_4 (nI d) (nI r) a b = okI 1 a b ∧ M_unlike_28 (nI n) (nI d) (nI r) a' b' = okI (nI n) a' b') ∨ (X_comesAgain_4 (nI d) (nI r) a b = okI 0 a b ∧ M_unlike_28 (nI n) (nI d) (nI r) a' b' = M_unlike_7 (nI n + 1) a' b')
  | 0, r, h => by
    have e1 : r = T := by omega
    subst e1
    refine .inr ⟨?_, ?_⟩
    · rw [q_X_comesAgain_4, ht, zcond_f (nI_nlt (Nat.le_refl _) (by omega))]; exact okI_ret _ _ _
    · rw [q_M_unlike_28, ht', zcond_f (nI_nlt (Nat.le_refl _) (by omega))]
  | k + 1, r, h => by
    obtain ⟨y, h1, h2, h3⟩ := s_alike (b := b) (b' := b') hQ hT hq hD hd (show r < T by omega)
    have hx : X_comesAgain_4 (nI d) (nI r) a b = cond (decide (y = 0)) (X_comesAgain_4 (nI d) (nI (r + 1)) a b) (zRET (some (.int 1)) zSH a b) := by
      rw [q_X_comesAgain_4, ht, zcond_t (nI_lt (by omega) (by omega)), h2, zcI_ok, nI_1]
    have hm : M_unlike_28 (nI n) (nI d) (nI r) a' b' = cond (decide (y = 0)) (M_unlike_28 (nI n) (nI d) (nI (r + 1)) a' b') (zRET (some (.int (nI n))) zSH a' b') := by
      rw [q_M_unlike_28, ht', zcond_t (nI_lt (by omega) (by omega)), h3, zcI_ok, nI_1]
    rw [hx, hm]
    rcases h1 with h1 | h1
    · rw [zcond_t h1, zcond_t h1]
      exact s_comes hQ hT hq ht ht' hD hd k (r + 1) (by omega)
    · have c : ¬ y = 0 := by rw [h1]; decide
      rw [zcond_f c, zcond_f c]
      exact .inl ⟨okI_ret _ _ _, okI_ret _ _ _⟩
theorem s_unlike {P Q T : Nat} {a a' : zA} {b b' : zB} (hQ : Q ≤ 10) (hT : T ≤ 60) (hq : a' 194 7 = nI Q) (ht : a 12 6 = nI T) (ht' : a' 194 15 = nI T) (hD : rDays P Q T (a 13) (a' 206) (fun p => a' 206 (630 + p))) : ∀ k n, n + k = T → ∃ v, X_unlike_2 (nI n) a b = okI v a b ∧ M_unlike_7 (nI n) a' b' = okI v a' b'
  | 0, n, h => by
    have e1 : n = T := by omega
    subst e1
    refine ⟨nI n, ?_, ?_⟩
    · rw [q_X_unlike_2, ht, zcond_f (nI_nlt (Nat.le_refl _) (by omega)), q_X_unlike_37]; exact okI_ret _ _ _
    · rw [q_M_unlike_7, ht', zcond_f (nI_nlt (Nat.le_refl _) (by omega))]; exact okI_ret _ _ _
  | k + 1, n, h => by
    have i1 : nI T - 1 - nI n = nI (T - 1 - n) := by
      rw [show nI T - 1 = nI (T - 1) from pk_sub (a := T) (b := 1) (by omega), pk_sub (by omega)]
    have hx : X_unlike_2 (nI n) a b = zcI (X_comesAgain_4 (nI (T - 1 - n)) (nI (T - 1 - n + 1)) a b) (fun y1 a1 b1 => cond (decide (y1 = 0)) (X_unlike_2 (nI n + 1) a1 b1) (X_unlike_37 (nI n) a1 b1)) := by
      rw [q_X_unlike_2, ht, zcond_t (nI_lt (by omega) (by omega)), i1, q_X_comesAgain, nI_1 (T - 1 - n)]
    have hm : M_unlike_7 (nI n) a' b' = M_unlike_28 (nI n) (nI (T - 1 - n)) (nI (T - 1 - n + 1)) a' b' := by
      rw [q_M_unlike_7, ht', zcond_t (nI_lt (by omega) (by omega)), i1, nI_1 (T - 1 - n)]
    rcases s_comes (n := n) (b := b) (b' := b') hQ hT hq ht ht' hD (show T - 1 - n < T by omega) n (T - 1 - n + 1) (by omega) with ⟨h1, h2⟩ | ⟨h1, h2⟩
    · refine ⟨nI n, ?_, hm.trans h2⟩
      rw [hx, h1, zcI_ok, zcond_f (by decide), q_X_unlike_37]
      exact okI_ret _ _ _
    · obtain ⟨v, g1, g2⟩ := s_unlike (b := b) (b' := b') hQ hT hq ht ht' hD k (n + 1) (by omega)
      refine ⟨v, ?_, ?_⟩
      · rw [hx, h1, zcI_ok, zcond_t rfl, nI_1]; exact g1
      · rw [hm, h2, nI_1]; exact g2
theorem r_unlike {L : Nat} {xs : Nat → Int32} : zAns (Rel L xs) X_unlike M_unlike := by
  intro a b hr
  obtain ⟨P, Q, T, G, N, hall⟩ := id hr
  obtain ⟨h0, ⟨n0, ⟨n1, n1', hQ⟩, ⟨n2, n2', hT⟩, -⟩, hH, hC, hD, -⟩ := id hall
  have hD : rDays P Q T (a 13) (a 206) (fun p => a 206 (630 + p)) := hD
  obtain ⟨v, g1, g2⟩ := s_unlike (a := a) (a' := zup a 194 0 0) (b := b) (b' := b) hQ hT ((zup_nj (by decide)).trans n1') (show a 12 6 = nI T from n2) ((zup_nj (by decide)).trans n2') (by rw [zup_row (show (206 : Nat) ≠ 194 by decide)]; exact hD) T 0 (Nat.zero_add _)
  exact ⟨v, a, b, zup a 194 0 0, b, by rw [q_X_unlike]; exact g1, fun _ => rfl, by rw [q_M_unlike]; exact g2, rel_thr hr⟩
