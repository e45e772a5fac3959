/-! put. -/
theorem r_put_go {L : Nat} {xs : Nat → Int32} {P Q T G N p : Nat} {a : zA} {b : zB} {x : Int32} (hall : rAll L xs P Q T G N (zmask a)) (hp : p < Q) (hx : rOne P x) (hne : x ≠ -1 → ∀ i, i < Q → i ≠ p → a 13 (10 * T + i) ≠ x) (hX : X_put (nI p) x a b = X_put_68 (nI p) x a b) (hM : ∀ a1 : zA, (∀ q j, q ≠ 13 → a1 q j = a q j) → M_put (nI p) x a1 b = M_put_53 (nI p) x (zup a1 194 0 0) b) :
    ∃ v a1 b1 a2 b2, X_put (nI p) x a b = okI v a1 b1 ∧ (∀ j, a1 0 j = a 0 j) ∧ M_put (nI p) x a1 b1 = okI v a2 b2 ∧ Rel L xs a2 b2 := by
  have hall' := hall
  obtain ⟨h0, ⟨n1, ⟨n2, n2', hQ⟩, ⟨n3, n3', hT⟩, -⟩, hH, hC, ⟨d1, d2, -⟩, -⟩ := hall'
  have t1 : a 12 6 = nI T := n3
  have e2 : a 13 (10 * T + p) = a 206 (630 + p) := d2 p hp
  refine ⟨a 13 (10 * T + p), zup a 13 (10 * T + p) x, b, zup (zup (zup a 13 (10 * T + p) x) 194 0 0) 206 (630 + p) x, b, ?_, fun j => zup_ne (by decide), ?_, ?_⟩
  · rw [hX, q_X_put_68, t1, s_onePlaced hT (by omega), zcI_ok, s_place hT (by omega) x a b t1, zcV_ok]
    exact okI_ret _ _ _
  · rw [hM _ (fun q j h => zup_ne h), q_M_put_53, show M_on 63 (nI p) (zup (zup a 13 (10 * T + p) x) 194 0 0) b = M_on (nI 63) (nI p) (zup (zup a 13 (10 * T + p) x) 194 0 0) b from rfl, s_on (by omega), zcI_ok, show (630 : Int32) + nI p = nI (630 + p) from nI_add 630 p, zin_nI (n := 640) (by omega) (by decide), cond_true, nI_clamp (by omega), zup_ne (by decide), zup_ne (by decide), e2]
    exact okI_ret _ _ _
  · refine ⟨P, Q, T, G, N, ?_⟩
    rw [zmask_u rfl, zmask_f rfl, zmask_u rfl]
    exact rel_put hall hp hx hne
theorem r_put {L : Nat} {xs : Nat → Int32} (x1 x2 : Int32) : zAns (Rel L xs) (X_put x1 x2) (M_put x1 x2) := by
  intro a b hr
  obtain ⟨P, Q, T, G, N, hall⟩ := id hr
  obtain ⟨h0, ⟨⟨n0, n0', hP⟩, ⟨n1, n1', hQ⟩, ⟨n2, n2', hT⟩, -⟩, hH, hC, ⟨d1, d2, d3, d4, d5⟩, -⟩ := id hall
  have p1 : a 2 1 = nI Q := n1
  have p0 : a 2 0 = nI P := n0
  have t1 : a 12 6 = nI T := n2
  have d00 : decide ((0 : Int32) = 0) = true := by decide
  have d10 : decide ((1 : Int32) = 0) = false := by decide
  have q1 : ∀ a1 : zA, (∀ q j, q ≠ 13 → a1 q j = a q j) → zup a1 194 0 0 194 7 = nI Q := fun a1 h => (zup_nj (by decide)).trans ((h 194 7 (by decide)).trans n1')
  have q0 : ∀ a1 : zA, (∀ q j, q ≠ 13 → a1 q j = a q j) → zup a1 194 0 0 194 3 = nI P := fun a1 h => (zup_nj (by decide)).trans ((h 194 3 (by decide)).trans n0')
  have id0 : ∀ q j, q ≠ 13 → a q j = a q j := fun _ _ _ => rfl
  have hD2 : ∀ j, j < Q → a 13 (10 * T + j) = a 206 (630 + j) := d2
  have hD4 : ∀ i j, i < Q → j < Q → i ≠ j → a 13 (10 * T + i) = a 13 (10 * T + j) → a 13 (10 * T + i) = -1 := fun i j h1 h2 h3 h4 => d4 T i j (Nat.le_refl _) h1 h2 h3 h4
  have hD5 : ∀ j, Q ≤ j → j < 10 → a 13 (10 * T + j) = -1 := fun j h1 h2 => d5 T j hT h2 (.inr h1)
  by_cases c0 : ¬ x1 < 0 ∧ x1 < nI Q
  case neg =>
    refine ⟨-3, a, b, zup a 194 0 0, b, ?_, fun _ => rfl, ?_, rel_thr hr⟩
    · rw [q_X_put, s_hasPost p1, zcI_ok, if_neg c0, d00, cond_true, q_X_put_27]; exact okI_ret _ _ _
    · rw [q_M_put, s_isPost (q1 a id0) (by omega), zcI_ok, if_neg c0, d00, cond_true, q_M_put_26]; exact okI_ret _ _ _
  obtain ⟨p, hp, hp2, rfl⟩ := s_idx c0
  by_cases c1 : x2 = -1
  · subst c1
    refine r_put_go hall hp (.inl rfl) (fun z => absurd rfl z) ?_ (fun a1 g => ?_)
    · rw [q_X_put, s_hasPost p1, zcI_ok, if_pos c0, d10, cond_false, zcond_t rfl, q_X_put_30, zcond_t rfl, q_X_put_54, zcond_t rfl]
    · rw [q_M_put, s_isPost (q1 a1 g) (by omega), zcI_ok, if_pos c0, d10, cond_false, zcond_t rfl, q_M_put_29, zcond_t (by decide)]
  by_cases c2 : ¬ x2 < 0 ∧ x2 < nI P
  case neg =>
    refine ⟨-3, a, b, zup a 194 0 0, b, ?_, fun _ => rfl, ?_, rel_thr hr⟩
    · rw [q_X_put, s_hasPost p1, zcI_ok, if_pos c0, d10, cond_false, zcond_f c1, s_hasPerson p0, zcI_ok, if_neg c2, d00, cond_true, q_X_put_27]; exact okI_ret _ _ _
    · rw [q_M_put, s_isPost (q1 a id0) (by omega), zcI_ok, if_pos c0, d10, cond_false, zcond_f c1, s_isPerson (q0 a id0) (by omega), zcI_ok, if_neg c2, d00, cond_true, q_M_put_26]; exact okI_ret _ _ _
  obtain ⟨w, hw, hw2, rfl⟩ := s_idx c2
  have hx : ∀ (s : Int32), S_postOf (a 12 6) (nI w) a b = okI s a b → X_put (nI p) (nI w) a b = X_put_54 (nI p) (nI w) s a b := fun s hs => by
    rw [q_X_put, s_hasPost p1, zcI_ok, if_pos c0, d10, cond_false, zcond_f c1, s_hasPerson p0, zcI_ok, if_pos c2, d10, cond_false, q_X_put_30, zcond_f c1, hs, zcI_ok]
  have hm : ∀ a1 : zA, (∀ q j, q ≠ 13 → a1 q j = a q j) → ∀ s, M_postOf (nI w) (zup a1 194 0 0) b = okI s (zup a1 194 0 0) b → M_put (nI p) (nI w) a1 b = cond (decide (s < 0)) (M_put_53 (nI p) (nI w) (zup a1 194 0 0) b) (cond (decide (s = nI p)) (M_put_53 (nI p) (nI w) (zup a1 194 0 0) b) (zRET (some (.int (-2))) zSH (zup a1 194 0 0) b)) := fun a1 g s hs => by
    rw [q_M_put, s_isPost (q1 a1 g) (by omega), zcI_ok, if_pos c0, d10, cond_false, zcond_f c1, s_isPerson (q0 a1 g) (by omega), zcI_ok, if_pos c2, d10, cond_false, q_M_put_29, zcond_f c2.1, hs, zcI_ok, hs, zcI_ok]
  have hf : ∀ a1 : zA, (∀ q j, q ≠ 13 → a1 q j = a q j) → ∀ j, zup a1 194 0 0 206 (630 + j) = a 206 (630 + j) := fun a1 g j => (zup_ne (by decide)).trans (g 206 _ (by decide))
  obtain ⟨y, s1, s2⟩ := s_postOf hT (nI w) a b 10 0 rfl
  have s1 : S_postOf (a 12 6) (nI w) a b = okI y a b := by
    rw [q_S_postOf, t1, zcond_f (nI_pos (by omega)), zcond_f (show ¬ (60 : Int32) < nI T from nI_nlt (a := 60) hT (by decide))]
    exact s1
  have hwm : ¬ nI w = -1 := c1
  have same : ∀ a1 : zA, (∀ q j, q ≠ 13 → a1 q j = a q j) → M_postOf (nI w) (zup a1 194 0 0) b = okI y (zup a1 194 0 0) b := fun a1 g => by
    obtain ⟨y', m1, m2⟩ := s_MpostOf hQ (nI w) (zup a1 194 0 0) b (q1 a1 g) Q 0 (Nat.zero_add _)
    have e : y' = y := by
      rcases s2 with ⟨e1, e2⟩ | ⟨j, g1, g2, g3, g4, g5⟩
      · rcases m2 with ⟨f1, f2⟩ | ⟨k, f1, f2, f3, f4, f5⟩
        · rw [f1, e1]
        · rw [hf a1 g, ← hD2 k f2] at f4
          exact absurd f4 (e2 k (Nat.zero_le _) (by omega))
      · have hj : j < Q := Nat.lt_of_not_le fun z => hwm (g4.symm.trans (hD5 j z g2))
        rcases m2 with ⟨f1, f2⟩ | ⟨k, f1, f2, f3, f4, f5⟩
        · exact absurd ((hf a1 g j).trans ((hD2 j hj).symm.trans g4)) (f2 j (Nat.zero_le _) hj)
        · rw [hf a1 g, ← hD2 k f2] at f4
          have : ¬ k < j := fun z => g5 k (Nat.zero_le _) z f4
          have : ¬ j < k := fun z => f5 j (Nat.zero_le _) z ((hf a1 g j).trans ((hD2 j hj).symm.trans g4))
          rw [f3, g3, show k = j from by omega]
    rw [← e, q_M_postOf]
    exact m1
  rcases s2 with ⟨e1, e2⟩ | ⟨j, g1, g2, g3, g4, g5⟩
  · refine r_put_go hall hp (.inr ⟨w, hw, rfl⟩) (fun _ i h1 _ => e2 i (Nat.zero_le _) (by omega)) ?_ (fun a1 g => ?_)
    · rw [hx y s1, q_X_put_54, zcond_t e1]
    · rw [hm a1 g y (same a1 g), zcond_t (by rw [e1]; decide)]
  · have hj : j < Q := Nat.lt_of_not_le fun z => hwm (g4.symm.trans (hD5 j z g2))
    have hy1 : ¬ y = -1 := fun z => by
      have := nI_toInt (n := j) (by omega)
      rw [← g3, z, show (-1 : Int32).toInt = -1 from by decide] at this
      omega
    have hy0 : ¬ y < 0 := by rw [g3]; exact nI_pos (by omega)
    by_cases c3 : j = p
    · subst c3
      refine r_put_go hall hp (.inr ⟨w, hw, rfl⟩) (fun _ i h1 h2 h3 => hwm (h3.symm.trans (hD4 i j h1 hj h2 (h3.trans g4.symm)))) ?_ (fun a1 g => ?_)
      · rw [hx y s1, q_X_put_54, zcond_f hy1, zcond_t g3]
      · rw [hm a1 g y (same a1 g), zcond_f hy0, zcond_t g3]
    · have hne : ¬ y = nI p := fun z => c3 ((nI_eq (by omega) hp2).mp (g3.symm.trans z))
      refine ⟨-2, a, b, zup a 194 0 0, b, ?_, fun _ => rfl, ?_, rel_thr hr⟩
      · rw [hx y s1, q_X_put_54, zcond_f hy1, zcond_f hne]; exact okI_ret _ _ _
      · rw [hm a id0 y (same a id0), zcond_f hy0, zcond_f hne]; exact okI_ret _ _ _
