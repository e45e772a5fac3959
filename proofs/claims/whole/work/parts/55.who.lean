/-! A place of a day: who. -/
theorem s_onePlaced {d p : Nat} (hd : d ≤ 60) (hp : p < 10) (a : zA) (b : zB) : S_onePlaced (nI d) (nI p) a b = okI (a 13 (10 * d + p)) a b := by
  have i1 : nI d * 10 + nI p = nI (d * 10 + p) := s_mul d 10 p
  have k1 : (nI (d * 10 + p)).toNatClampNeg = 10 * d + p := (nI_clamp (by omega)).trans (by omega)
  rw [q_S_onePlaced, zcond_f (nI_pos (by omega)), zcond_f (show ¬ (60 : Int32) < nI d from nI_nlt (a := 60) hd (by decide)), zcond_f (nI_pos (by omega)), zcond_t (show nI p < 10 from nI_lt (b := 10) hp (by decide)), i1, zin_nI (n := 610) (by omega) (by decide), cond_true, k1]
  exact okI_ret _ _ _
theorem s_on {d p : Nat} (h : 10 * d + p < 640) (a : zA) (b : zB) : M_on (nI d) (nI p) a b = okI (a 206 (10 * d + p)) a b := by
  have i1 : 10 * nI d + nI p = nI (10 * d + p) := s_mul 10 d p
  rw [q_M_on, i1, zin_nI (n := 640) h (by decide), cond_true, nI_clamp (by omega)]
  exact okI_ret _ _ _
theorem r_who {L : Nat} {xs : Nat → Int32} (x1 x2 : Int32) : zAns (Rel L xs) (X_who x1 x2) (M_who x1 x2) := by
  intro a b hr
  obtain ⟨P, Q, T, G, N, h0, ⟨n0, ⟨n1, n2, n3⟩, ⟨n4, n5, n6⟩, -⟩, hH, hC, ⟨k1, k2, -⟩, -⟩ := id hr
  have p1 : a 2 1 = nI Q := n1
  have p2 : zup a 194 0 0 194 7 = nI Q := (zup_nj (by decide)).trans n2
  have t1 : a 12 6 = nI T := n4
  have t2 : zup a 194 0 0 194 15 = nI T := (zup_nj (by decide)).trans n5
  have k1 : ∀ d p, d < T → p < Q → a 13 (10 * d + p) = a 206 (10 * d + p) := k1
  have k2 : ∀ p, p < Q → a 13 (10 * T + p) = a 206 (630 + p) := k2
  have d00 : decide ((0 : Int32) = 0) = true := by decide
  have d10 : decide ((1 : Int32) = 0) = false := by decide
  have in1 : M_in x1.toInt64 0 ((zup a 194 0 0 194 15).toInt64) (zup a 194 0 0) b = okI (if x1 < 0 then 0 else if nI T < x1 then 0 else 1) (zup a 194 0 0) b := s_in32 x1 0 (nI T) (by decide) (by rw [t2]) _ _
  by_cases c1 : x1 < 0
  · refine ⟨-2, a, b, zup a 194 0 0, b, ?_, fun _ => rfl, ?_, rel_thr hr⟩
    · rw [q_X_who, zcond_t c1, q_X_who_26]; exact okI_ret _ _ _
    · rw [q_M_who, in1, zcI_ok, if_pos c1, d00, cond_true, q_M_who_27]; exact okI_ret _ _ _
  by_cases c2 : nI T < x1
  · refine ⟨-2, a, b, zup a 194 0 0, b, ?_, fun _ => rfl, ?_, rel_thr hr⟩
    · rw [q_X_who, zcond_f c1, t1, zcond_t c2, q_X_who_26]; exact okI_ret _ _ _
    · rw [q_M_who, in1, zcI_ok, if_neg c1, if_pos c2, d00, cond_true, q_M_who_27]; exact okI_ret _ _ _
  by_cases c0 : ¬ x2 < 0 ∧ x2 < nI Q
  · obtain ⟨p, hp, hp2, rfl⟩ := s_idx c0
    obtain ⟨d, hd, rfl⟩ := nI_of c1
    have hdT : d ≤ T := Nat.le_of_not_lt (fun z => c2 (nI_lt z hd))
    refine ⟨a 13 (10 * d + p), a, b, zup a 194 0 0, b, ?_, fun _ => rfl, ?_, rel_thr hr⟩
    · rw [q_X_who, zcond_f c1, t1, zcond_f c2, s_hasPost p1, zcI_ok, if_pos c0, d10, cond_false, s_onePlaced (by omega) (by omega), zcI_ok]; exact okI_ret _ _ _
    · rw [q_M_who, in1, zcI_ok, if_neg c1, if_neg c2, d10, cond_false, s_isPost p2 (by omega), zcI_ok, if_pos c0, d10, cond_false, t2]
      by_cases e : d = T
      · subst e
        rw [zcond_t rfl, q_M_who_45, show (63 : Int32) = nI 63 from rfl, s_on (by omega), zcI_ok, zup_ne (by decide), k2 p hp]
        exact okI_ret _ _ _
      · rw [zcond_f (fun z => e ((nI_eq hd (by omega)).mp z)), q_M_who_45, s_on (by omega), zcI_ok, zup_ne (by decide), k1 d p (by omega) hp]
        exact okI_ret _ _ _
  · refine ⟨-2, a, b, zup a 194 0 0, b, ?_, fun _ => rfl, ?_, rel_thr hr⟩
    · rw [q_X_who, zcond_f c1, t1, zcond_f c2, s_hasPost p1, zcI_ok, if_neg c0, d00, cond_true, q_X_who_26]; exact okI_ret _ _ _
    · rw [q_M_who, in1, zcI_ok, if_neg c1, if_neg c2, d10, cond_false, s_isPost p2 (by omega), zcI_ok, if_neg c0, d00, cond_true, q_M_who_27]; exact okI_ret _ _ _
