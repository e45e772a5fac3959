/-! A sign: four bytes. -/
def xS (N : Nat) (y : Int32) (a : zA) : zA := zup (zup a 20 N y) 1 11 (nI (N + 1))
def yS (v s : Int32) : Int32 := ((v.toUInt32 >>> (s.toUInt32 &&& Int32.toUInt32 31)).toInt32) &&& 255
theorem s_xs {N : Nat} {a : zA} {b : zB} (h : a 1 11 = nI N) (hN : N < 80) (v s s' : Int32) (hs : ¬ s < 0) (he : s + (-8) = s') : X_sign_16 v s a b = X_sign_16 v s' (xS N (yS v s) a) b := by
  rw [q_X_sign_16, zcond_f hs, h, zin_nI (n := 80) hN (by decide), cond_true, nI_clamp (by omega), zup_ne (by decide), h, nI_1, he]
  rfl
theorem s_ms {k G : Nat} {a : zA} {b : zB} (hk : k < 4) (h : a 194 34 = nI G) (hG : G + 4 ≤ 80) (v y : Int32) (hy : (v >>> ((24 - (8 * nI k)) &&& 31)) &&& 255 = y) : M_sign_18 v (nI k) a b = M_sign_18 v (nI (k + 1)) (zup a 215 (G + k) y) b := by
  rw [q_M_sign_18, zcond_t (show nI k < 4 from nI_lt (b := 4) hk (by decide)), h, nI_add, zin_nI (n := 80) (by omega) (by decide), cond_true, nI_clamp (by omega), nI_1, hy]
theorem r_sign {L : Nat} {xs : Nat → Int32} (v : Int32) : zAns (Rel L xs) (X_sign v) (M_sign v) := by
  intro a b hr
  obtain ⟨P, Q, T, G, N, hall⟩ := id hr
  obtain ⟨h0, ⟨n1, n4, n5, ⟨n6, n7, n8⟩, n9, n10, n11⟩, hH, hC, hD, hW, hRu, hTa, hRo, hKe, hKn⟩ := id hall
  have p1 : a 1 11 = nI G := n6
  have p2 : zup a 194 0 0 194 34 = nI G := (zup_nj (by decide)).trans n7
  have s4 : nI G + 4 = nI (G + 4) := nI_add G 4
  by_cases c : G + 4 ≤ 80
  case neg =>
    refine ⟨-1, a, b, zup a 194 0 0, b, ?_, fun _ => rfl, ?_, rel_thr hr⟩
    · rw [q_X_sign, p1, s4, zcond_t (show (80 : Int32) < nI (G + 4) from nI_lt (a := 80) (by omega) (by omega))]; exact okI_ret _ _ _
    · rw [q_M_sign, p2, zcond_t (show (76 : Int32) < nI G from nI_lt (a := 76) (by omega) (by omega))]; exact okI_ret _ _ _
  have t1 : ∀ k y (A : zA), xS k y A 1 11 = nI (k + 1) := fun k y A => zup_eq _ 1 11 _
  have hX : X_sign v a b = okI (nI (G + 4)) (xS (G + 3) (yS v 0) (xS (G + 2) (yS v 8) (xS (G + 1) (yS v 16) (xS G (yS v 24) a)))) b := by
    rw [q_X_sign, p1, s4, zcond_f (show ¬ (80 : Int32) < nI (G + 4) from nI_nlt (a := 80) c (by decide)), s_xs p1 (by omega) v 24 16 (by decide) (by decide), s_xs (t1 G _ _) (by omega) v 16 8 (by decide) (by decide), s_xs (t1 (G + 1) _ _) (by omega) v 8 0 (by decide) (by decide), s_xs (t1 (G + 2) _ _) (by omega) v 0 (-8) (by decide) (by decide), q_X_sign_16, zcond_t (by decide), t1 (G + 3)]
    exact okI_ret _ _ _
  generalize hA : xS (G + 3) (yS v 0) (xS (G + 2) (yS v 8) (xS (G + 1) (yS v 16) (xS G (yS v 24) a))) = A at hX
  have r0 : ∀ q j, q ≠ 20 → q ≠ 1 → A q j = a q j := fun q j g1 g2 => by
    rw [← hA]
    unfold xS
    rw [zup_ne g2, zup_ne g1, zup_ne g2, zup_ne g1, zup_ne g2, zup_ne g1, zup_ne g2, zup_ne g1]
  have m0 : zup A 194 0 0 194 34 = nI G := (zup_nj (by decide)).trans ((r0 194 34 (by decide) (by decide)).trans n7)
  have m1 : ∀ (B : zA) j y, B 194 34 = nI G → zup B 215 j y 194 34 = nI G := fun B j y h => (zup_ne (by decide)).trans h
  refine ⟨nI (G + 4), A, b, zup (zup (zup (zup (zup (zup A 194 0 0) 215 (G + 0) (yS v 24)) 215 (G + 1) (yS v 16)) 215 (G + 2) (yS v 8)) 215 (G + 3) (yS v 0)) 194 34 (nI (G + 4)), b, hX, fun j => r0 0 j (by decide) (by decide), ?_, ?_⟩
  · rw [q_M_sign, m0, zcond_f (show ¬ (76 : Int32) < nI G from nI_nlt (a := 76) (by omega) (by decide)), show M_sign_18 v 0 (zup A 194 0 0) b = M_sign_18 v (nI 0) (zup A 194 0 0) b from rfl, s_ms (k := 0) (by decide) m0 c v (yS v 24) (s_byte24 v).symm, s_ms (k := 1) (by decide) (m1 _ _ _ m0) c v (yS v 16) (s_byte16 v).symm, s_ms (k := 2) (by decide) (m1 _ _ _ (m1 _ _ _ m0)) c v (yS v 8) (s_byte8 v).symm, s_ms (k := 3) (by decide) (m1 _ _ _ (m1 _ _ _ (m1 _ _ _ m0))) c v (yS v 0) (s_byte0 v).symm]
    rw [q_M_sign_18, zcond_f (show ¬ nI (3 + 1) < 4 from by decide), m1 _ _ _ (m1 _ _ _ (m1 _ _ _ (m1 _ _ _ m0))), zup_eq, s4]
    exact okI_ret _ _ _
  · refine ⟨P, Q, T, G + 4, N, ?_⟩
    rw [zmask_u rfl, zmask_u rfl, zmask_u rfl, zmask_u rfl, zmask_u rfl, zmask_f rfl, ← hA]
    unfold xS
    rw [zmask_u rfl, zmask_u rfl, zmask_u rfl, zmask_u rfl, zmask_u rfl, zmask_u rfl, zmask_u rfl, zmask_u rfl]
    clear p1 p2 hX hA r0 m0
    generalize zmask a = m at *
    have b0 := s_255 (v.toUInt32 >>> ((24 : Int32).toUInt32 &&& Int32.toUInt32 31)).toInt32
    have b1 := s_255 (v.toUInt32 >>> ((16 : Int32).toUInt32 &&& Int32.toUInt32 31)).toInt32
    have b2 := s_255 (v.toUInt32 >>> ((8 : Int32).toUInt32 &&& Int32.toUInt32 31)).toInt32
    have b3 := s_255 (v.toUInt32 >>> ((0 : Int32).toUInt32 &&& Int32.toUInt32 31)).toInt32
    change 0 ≤ yS v 24 ∧ yS v 24 ≤ 255 at b0
    change 0 ≤ yS v 16 ∧ yS v 16 ≤ 255 at b1
    change 0 ≤ yS v 8 ∧ yS v 8 ≤ 255 at b2
    change 0 ≤ yS v 0 ∧ yS v 0 ≤ 255 at b3
    refine rel_tape hall (fun q g => ?_) (fun j h1 h2 => ?_) ⟨?_, ?_, ?_, ⟨?_, ?_, by omega⟩, ⟨?_, ?_, n9.2.2⟩, ?_, ?_⟩ (fun j hj => ?_)
    · funext j
      simp [zup, g.1, g.2.1, g.2.2.1, g.2.2.2]
    · simp [zup, show j ≠ 34 by omega]
    · simpa [zup] using n1
    · simpa [zup] using n4
    · simpa [zup] using n5
    · simp [zup]
    · simp [zup]
    · simpa [zup] using n9.1
    · simpa [zup] using n9.2.1
    · simpa [zup] using n10
    · simpa [zup] using n11
    · by_cases e0 : j = G
      · subst e0; simpa [zup] using b0
      by_cases e1 : j = G + 1
      · subst e1; simpa [zup] using b1
      by_cases e2 : j = G + 2
      · subst e2; simpa [zup] using b2
      by_cases e3 : j = G + 3
      · subst e3; simpa [zup] using b3
      · simpa [zup, e0, e1, e2, e3] using hTa j (by omega)
