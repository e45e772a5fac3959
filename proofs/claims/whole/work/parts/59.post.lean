/-! A new post. -/
def pCol (Q : Nat) : Nat → Nat → zA → zA
  | 0, _, a => a
  | k + 1, d, a => pCol Q k (d + 1) (zup a 206 (10 * d + Q) (-1))
theorem pCol_ne {Q q j : Nat} (h : q ≠ 206) : ∀ (k d : Nat) (a : zA), pCol Q k d a q j = a q j
  | 0, _, _ => rfl
  | k + 1, d, a => by
    unfold pCol
    rw [pCol_ne h k, zup_ne h]
theorem pCol_nj {Q j : Nat} : ∀ (k d : Nat) (a : zA), (∀ e, d ≤ e → e < d + k → j ≠ 10 * e + Q) → pCol Q k d a 206 j = a 206 j
  | 0, _, _, _ => rfl
  | k + 1, d, a, h => by
    unfold pCol
    rw [pCol_nj k (d + 1) _ (fun e h1 h2 => h e (by omega) (by omega)), zup_nj (h d (Nat.le_refl _) (by omega))]
theorem pCol_at {Q e : Nat} : ∀ (k d : Nat) (a : zA), d ≤ e → e < d + k → pCol Q k d a 206 (10 * e + Q) = -1
  | 0, d, _, h1, h2 => absurd h2 (by omega)
  | k + 1, d, a, h1, h2 => by
    unfold pCol
    by_cases c : d = e
    · subst c
      rw [pCol_nj k (d + 1) _ (fun e h1 h2 => by omega), zup_eq]
    · exact pCol_at k (d + 1) _ (by omega) (by omega)
theorem pCol_mask {Q : Nat} : ∀ (k d : Nat) (a : zA), zmask (pCol Q k d a) = pCol Q k d (zmask a)
  | 0, _, _ => rfl
  | k + 1, d, a => by
    unfold pCol
    rw [pCol_mask k, zmask_u rfl]
theorem s_post109 {Q : Nat} (hQ : Q < 10) (b : zB) : ∀ (k d : Nat) (a : zA), d + k = 64 → a 194 7 = nI Q → M_post_109 (nI d) a b = okI (nI Q) (zup (pCol Q k d a) 194 7 (nI (Q + 1))) b
  | 0, d, a, h, hq => by
    have e : d = 64 := by omega
    subst e
    rw [q_M_post_109, zcond_f (show ¬ nI 64 < 64 from nI_nlt (a := 64) (b := 64) (Nat.le_refl _) (by decide)), hq, zup_eq, nI_1, nI_pred]
    exact okI_ret _ _ _
  | k + 1, d, a, h, hq => by
    have i1 : 10 * nI d + nI Q = nI (10 * d + Q) := s_mul 10 d Q
    rw [q_M_post_109, zcond_t (show nI d < 64 from nI_lt (b := 64) (by omega) (by decide)), hq, i1, zin_nI (n := 640) (by omega) (by decide), cond_true, nI_clamp (by omega), nI_1]
    exact s_post109 hQ b k (d + 1) _ (by omega) ((zup_ne (by decide)).trans hq)
theorem r_post_no {L : Nat} {xs : Nat → Int32} (x1 x2 x3 x4 : Int32) {a : zA} {b : zB} (hr : Rel L xs a b) (hX : X_post x1 x2 x3 x4 a b = okI (-1) a b) (hM : M_post x1 x2 x3 x4 a b = M_post_53 (zup a 194 0 0) b) :
    ∃ v a1 b1 a2 b2, X_post x1 x2 x3 x4 a b = okI v a1 b1 ∧ (∀ j, a1 0 j = a 0 j) ∧ M_post x1 x2 x3 x4 a1 b1 = okI v a2 b2 ∧ Rel L xs a2 b2 :=
  ⟨-1, a, b, zup a 194 0 0, b, hX, fun _ => rfl, hM.trans ((q_M_post_53 _ _).trans (okI_ret _ _ _)), rel_thr hr⟩
theorem s_lt6 (x : Int32) : 5 < x ↔ ¬ x < 6 := by
  rw [Int32.lt_iff_toInt_lt, Int32.lt_iff_toInt_lt, show (5 : Int32).toInt = 5 from by decide, show (6 : Int32).toInt = 6 from by decide]
  omega
set_option maxHeartbeats 2000000 in
theorem r_post {L : Nat} {xs : Nat → Int32} (x1 x2 x3 x4 : Int32) (hx2 : x2 = 0 ∨ x2 = 1) : zAns (Rel L xs) (X_post x1 x2 x3 x4) (M_post x1 x2 x3 x4) := by
  intro a b hr
  have in1 : ∀ (a : zA) (b : zB), M_in x1.toInt64 (-1) 5 a b = okI (if x1 < -1 then 0 else if 5 < x1 then 0 else 1) a b := s_in32 x1 (-1) 5 (by decide) (by decide)
  have in3 : ∀ (a : zA) (b : zB), M_in x3.toInt64 1 9 a b = okI (if x3 < 1 then 0 else if 9 < x3 then 0 else 1) a b := s_in32 x3 1 9 (by decide) (by decide)
  have in4 : ∀ (a : zA) (b : zB), M_in x4.toInt64 0 10 a b = okI (if x4 < 0 then 0 else if 10 < x4 then 0 else 1) a b := s_in32 x4 0 10 (by decide) (by decide)
  have d00 : decide ((0 : Int32) = 0) = true := by decide
  have d10 : decide ((1 : Int32) = 0) = false := by decide
  by_cases c1 : x1 < -1
  · refine r_post_no x1 x2 x3 x4 hr ?_ ?_
    · rw [q_X_post, zcond_t c1, q_X_post_22]; exact okI_ret _ _ _
    · rw [q_M_post, in1, zcI_ok, if_pos c1, d00]; rfl
  by_cases c2 : x1 < 6
  case neg =>
    refine r_post_no x1 x2 x3 x4 hr ?_ ?_
    · rw [q_X_post, zcond_f c1, zcond_f c2, q_X_post_22]; exact okI_ret _ _ _
    · rw [q_M_post, in1, zcI_ok, if_neg c1, if_pos ((s_lt6 x1).mpr c2), d00]; rfl
  have c2' : ¬ 5 < x1 := fun z => (s_lt6 x1).mp z c2
  by_cases c3 : x3 < 1
  · refine r_post_no x1 x2 x3 x4 hr ?_ ?_
    · rw [q_X_post, zcond_f c1, zcond_t c2, zcond_t c3, q_X_post_22]; exact okI_ret _ _ _
    · rw [q_M_post, in1, zcI_ok, if_neg c1, if_neg c2', d10, cond_false, in3, zcI_ok, if_pos c3, d00]; rfl
  by_cases c4 : 9 < x3
  · refine r_post_no x1 x2 x3 x4 hr ?_ ?_
    · rw [q_X_post, zcond_f c1, zcond_t c2, zcond_f c3, zcond_t c4, q_X_post_22]; exact okI_ret _ _ _
    · rw [q_M_post, in1, zcI_ok, if_neg c1, if_neg c2', d10, cond_false, in3, zcI_ok, if_neg c3, if_pos c4, d00]; rfl
  by_cases c5 : x4 < 0
  · refine r_post_no x1 x2 x3 x4 hr ?_ ?_
    · rw [q_X_post, zcond_f c1, zcond_t c2, zcond_f c3, zcond_f c4, zcond_t c5, q_X_post_48]; exact okI_ret _ _ _
    · rw [q_M_post, in1, zcI_ok, if_neg c1, if_neg c2', d10, cond_false, in3, zcI_ok, if_neg c3, if_neg c4, d10, cond_false, in4, zcI_ok, if_pos c5, d00]; rfl
  by_cases c6 : 10 < x4
  · refine r_post_no x1 x2 x3 x4 hr ?_ ?_
    · rw [q_X_post, zcond_f c1, zcond_t c2, zcond_f c3, zcond_f c4, zcond_f c5, zcond_t c6, q_X_post_48]; exact okI_ret _ _ _
    · rw [q_M_post, in1, zcI_ok, if_neg c1, if_neg c2', d10, cond_false, in3, zcI_ok, if_neg c3, if_neg c4, d10, cond_false, in4, zcI_ok, if_neg c5, if_pos c6, d00]; rfl
  obtain ⟨P, Q, T, G, N, hall⟩ := id hr
  obtain ⟨h0, ⟨n0, ⟨n1, n2, n3⟩, n5, n6, n7, n8, n9⟩, ⟨u1, u2, u3, u4, u5⟩, ⟨w1, w2⟩, ⟨d1, d2, d3, d4, d5⟩, ⟨k1, k2, k3, k4⟩, hRu, hTa, hRo, hKe, hKn⟩ := id hall
  have p1 : a 2 1 = nI Q := n1
  have p2 : a 194 7 = nI Q := n2
  by_cases c7 : Q = 10
  · refine r_post_no x1 x2 x3 x4 hr ?_ ?_
    · rw [q_X_post, zcond_f c1, zcond_t c2, zcond_f c3, zcond_f c4, zcond_f c5, zcond_f c6, p1, c7, zcond_f (show ¬ nI 10 < 10 from by decide), q_X_post_48]; exact okI_ret _ _ _
    · rw [q_M_post, in1, zcI_ok, if_neg c1, if_neg c2', d10, cond_false, in3, zcI_ok, if_neg c3, if_neg c4, d10, cond_false, in4, zcI_ok, if_neg c5, if_neg c6, d10, cond_false, zup_nj (by decide), p2, c7]; rfl
  have hQ : Q < 10 := by omega
  have zQ : zin (nI Q) 10 = true := zin_nI hQ (by decide)
  have zb : zisB x2 = true := by rcases hx2 with h | h <;> subst h <;> decide
  have lQ : nI Q < 10 := nI_lt (b := 10) hQ (by decide)
  have kQ : (nI Q).toNatClampNeg = Q := nI_clamp (by omega)
  have hne : ¬ nI Q = 10 := fun z => c7 ((nI_eq (by omega) (by decide)).mp (show nI Q = nI 10 from z))
  refine ⟨nI Q, zup (zup (zup (zup (zup a 4 Q x1) 5 Q x2) 6 Q x3) 7 Q x4) 2 1 (nI Q + 1), b, zup (pCol Q 64 0 (zup (zup (zup (zup (zup (zup (zup (zup (zup (zup (zup a 4 Q x1) 5 Q x2) 6 Q x3) 7 Q x4) 2 1 (nI Q + 1)) 194 0 0) 199 Q x1) 200 Q x2) 201 Q x3) 202 Q x4) 205 Q (-1))) 194 7 (nI (Q + 1)), b, ?_, fun j => ?_, ?_, ?_⟩
  · rw [q_X_post, zcond_f c1, zcond_t c2, zcond_f c3, zcond_f c4, zcond_f c5, zcond_f c6, p1, zcond_t lQ, zQ, zb, kQ]
    exact okI_ret _ _ _
  · rw [zup_ne (by decide), zup_ne (by decide), zup_ne (by decide), zup_ne (by decide), zup_ne (by decide)]
  · generalize hA : zup (zup (zup (zup (zup a 4 Q x1) 5 Q x2) 6 Q x3) 7 Q x4) 2 1 (nI Q + 1) = A
    have r0 : zup A 194 0 0 194 7 = nI Q := by rw [zup_nj (by decide), ← hA, zup_ne (by decide), zup_ne (by decide), zup_ne (by decide), zup_ne (by decide), zup_ne (by decide)]; exact p2
    have r1 : ∀ x, zup (zup A 194 0 0) 199 Q x 194 7 = nI Q := fun x => (zup_ne (by decide)).trans r0
    have r2 : ∀ x y, zup (zup (zup A 194 0 0) 199 Q x) 200 Q y 194 7 = nI Q := fun x y => (zup_ne (by decide)).trans (r1 x)
    have r3 : ∀ x y z, zup (zup (zup (zup A 194 0 0) 199 Q x) 200 Q y) 201 Q z 194 7 = nI Q := fun x y z => (zup_ne (by decide)).trans (r2 x y)
    have r4 : ∀ x y z w, zup (zup (zup (zup (zup A 194 0 0) 199 Q x) 200 Q y) 201 Q z) 202 Q w 194 7 = nI Q := fun x y z w => (zup_ne (by decide)).trans (r3 x y z)
    rw [q_M_post, in1, zcI_ok, if_neg c1, if_neg c2', d10, cond_false, in3, zcI_ok, if_neg c3, if_neg c4, d10, cond_false, in4, zcI_ok, if_neg c5, if_neg c6, d10, cond_false]
    simp only [r0, kQ, r1, r2, r3, r4, zQ, zb, Bool.and_self, cond_true, hne, decide_false, cond_false]
    exact s_post109 hQ b 64 0 _ rfl ((zup_ne (by decide)).trans (r4 _ _ _ _))
  · refine ⟨P, Q + 1, T, G, N, ?_⟩
    rw [zmask_u rfl, pCol_mask, zmask_u rfl, zmask_u rfl, zmask_u rfl, zmask_u rfl, zmask_u rfl, zmask_f rfl, zmask_u rfl, zmask_u rfl, zmask_u rfl, zmask_u rfl, zmask_u rfl]
    have hx1 : (-1 : Int32) ≤ x1 ∧ x1 ≤ 5 := ⟨Int32.not_lt.mp c1, Int32.not_lt.mp c2'⟩
    have hx3 : (1 : Int32) ≤ x3 ∧ x3 ≤ 9 := ⟨Int32.not_lt.mp c3, Int32.not_lt.mp c4⟩
    have hx4 : (0 : Int32) ≤ x4 ∧ x4 ≤ 10 := ⟨Int32.not_lt.mp c5, Int32.not_lt.mp c6⟩
    have hxx : (0 : Int32) ≤ x2 ∧ x2 ≤ 1 := by rcases hx2 with h | h <;> subst h <;> decide
    clear p1 p2 zQ lQ kQ hne
    generalize zmask a = m at *
    obtain ⟨M, hM⟩ : ∃ M, M = zup (pCol Q 64 0 (zup (zup (zup (zup (zup (zup (zup (zup (zup (zup m 4 Q x1) 5 Q x2) 6 Q x3) 7 Q x4) 2 1 (nI Q + 1)) 199 Q x1) 200 Q x2) 201 Q x3) 202 Q x4) 205 Q (-1))) 194 7 (nI (Q + 1)) := ⟨_, rfl⟩
    rw [← hM]
    have row : ∀ q, (q ≠ 2 ∧ q ≠ 4 ∧ q ≠ 5 ∧ q ≠ 6 ∧ q ≠ 7 ∧ q ≠ 194 ∧ q ≠ 199 ∧ q ≠ 200 ∧ q ≠ 201 ∧ q ≠ 202 ∧ q ≠ 205 ∧ q ≠ 206) → M q = m q := fun q h => by
      obtain ⟨g1, g2, g3, g4, g5, g6, g7, g8, g9, g10, g11, g12⟩ := h
      funext j
      rw [hM, zup_ne g6, pCol_ne g12, zup_ne g11, zup_ne g10, zup_ne g9, zup_ne g8, zup_ne g7, zup_ne g1, zup_ne g5, zup_ne g4, zup_ne g3, zup_ne g2]
    have pull : ∀ q j, q ≠ 206 → q ≠ 194 → M q j = zup (zup (zup (zup (zup (zup (zup (zup (zup (zup m 4 Q x1) 5 Q x2) 6 Q x3) 7 Q x4) 2 1 (nI Q + 1)) 199 Q x1) 200 Q x2) 201 Q x3) 202 Q x4) 205 Q (-1) q j := fun q j h1 h2 => by rw [hM, zup_ne h2, pCol_ne h1]
    have e2 : M 2 1 = nI Q + 1 := by rw [pull 2 1 (by decide) (by decide)]; repeat rw [zup_ne (by decide)]
                                     exact zup_eq _ _ _ _
    have e2' : M 2 0 = m 2 0 := by rw [pull 2 0 (by decide) (by decide)]; repeat rw [zup_ne (by decide)]
                                   rw [zup_nj (by decide)]; repeat rw [zup_ne (by decide)]
    have e4 : ∀ x q, (q = 4 ∧ x = x1) ∨ (q = 5 ∧ x = x2) ∨ (q = 6 ∧ x = x3) ∨ (q = 7 ∧ x = x4) ∨ (q = 199 ∧ x = x1) ∨ (q = 200 ∧ x = x2) ∨ (q = 201 ∧ x = x3) ∨ (q = 202 ∧ x = x4) ∨ (q = 205 ∧ x = -1) → M q Q = x ∧ ∀ j, j ≠ Q → M q j = m q j := by
      rintro x q (⟨rfl, rfl⟩ | ⟨rfl, rfl⟩ | ⟨rfl, rfl⟩ | ⟨rfl, rfl⟩ | ⟨rfl, rfl⟩ | ⟨rfl, rfl⟩ | ⟨rfl, rfl⟩ | ⟨rfl, rfl⟩ | ⟨rfl, rfl⟩) <;>
      · refine ⟨?_, fun j hj => ?_⟩
        · rw [pull _ _ (by decide) (by decide)]
          simp [zup]
        · rw [pull _ _ (by decide) (by decide)]
          simp [zup, hj]
    have f4 : ∀ j, j ≠ 7 → M 194 j = m 194 j := fun j h => by rw [hM, zup_nj h, pCol_ne (by decide)]; repeat rw [zup_ne (by decide)]
    have f7 : M 194 7 = nI (Q + 1) := by rw [hM, zup_eq]
    have g1 : ∀ e, e < 64 → M 206 (10 * e + Q) = -1 := fun e h => by rw [hM, zup_ne (by decide)]; exact pCol_at 64 0 _ (Nat.zero_le _) (by omega)
    have g2 : ∀ e p, p < Q → M 206 (10 * e + p) = m 206 (10 * e + p) := fun e p h => by
      rw [hM, zup_ne (by decide), pCol_nj 64 0 _ (fun e' _ _ => by omega)]; repeat rw [zup_ne (by decide)]
    have hd : ∀ d, d ≤ 60 → m 13 (10 * d + Q) = -1 := fun d h => d5 d Q h hQ (.inr (Nat.le_refl _))
    refine ⟨(row 0 (by decide)).trans h0, ⟨⟨e2'.trans n0.1, (f4 3 (by decide)).trans n0.2.1, n0.2.2⟩, ⟨e2.trans (nI_1 Q), f7, by omega⟩, ⟨by rw [row 12 (by decide)]; exact n5.1, (f4 15 (by decide)).trans n5.2.1, n5.2.2⟩, ⟨by rw [row 1 (by decide)]; exact n6.1, (f4 34 (by decide)).trans n6.2.1, n6.2.2⟩, ⟨by rw [row 1 (by decide)]; exact n7.1, (f4 1 (by decide)).trans n7.2.1, n7.2.2⟩, (f4 37 (by decide)).trans n8, (f4 38 (by decide)).trans n9⟩,
      ⟨?_, ?_, ?_, ?_, ?_⟩, ⟨?_, ?_⟩, ⟨fun d p h1 h2 => ?_, fun p h2 => ?_, fun d p h1 h2 => ?_, fun d p p' h1 h2 h3 h4 h5 => ?_, fun d p h1 h2 h3 => ?_⟩, ⟨?_, ?_, fun j h => ?_, fun j h1 h2 => ?_⟩, rRule_c (fun j h h' => f4 j (by omega)) ?_, ?_, ?_, ⟨?_, ?_, ?_⟩, ?_⟩
    · rw [row 3 (by decide), row 197 (by decide)]; exact u1
    · exact rSame_up u2 hx1 (e4 x1 4 (by simp)).1 (e4 x1 199 (by simp)).1 (e4 x1 4 (by simp)).2 (e4 x1 199 (by simp)).2
    · exact rSame_up u3 hxx (e4 x2 5 (by simp)).1 (e4 x2 200 (by simp)).1 (e4 x2 5 (by simp)).2 (e4 x2 200 (by simp)).2
    · exact rSame_up u4 hx3 (e4 x3 6 (by simp)).1 (e4 x3 201 (by simp)).1 (e4 x3 6 (by simp)).2 (e4 x3 201 (by simp)).2
    · exact rSame_up u5 hx4 (e4 x4 7 (by simp)).1 (e4 x4 202 (by simp)).1 (e4 x4 7 (by simp)).2 (e4 x4 202 (by simp)).2
    · rw [row 17 (by decide), row 196 (by decide)]; exact w1
    · rw [row 18 (by decide), row 198 (by decide)]; exact w2
    · rw [row 13 (by decide)]
      by_cases c : p = Q
      · subst c; rw [hd d (by omega), g1 d (by omega)]
      · rw [g2 d p (by omega)]; exact d1 d p h1 (by omega)
    · show M 13 (10 * T + p) = M 206 (630 + p)
      rw [row 13 (by decide)]
      by_cases c : p = Q
      · subst c; rw [hd T (by omega)]; exact (g1 63 (by decide)).symm
      · rw [show 630 + p = 10 * 63 + p from rfl, g2 63 p (by omega)]; exact d2 p (by omega)
    · rw [row 13 (by decide)]
      by_cases c : p = Q
      · subst c; exact .inl (hd d (by omega))
      · exact d3 d p h1 (by omega)
    · rw [row 13 (by decide)] at h5 ⊢
      by_cases c : p = Q
      · subst c; exact hd d (by omega)
      · by_cases c' : p' = Q
        · subst c'; exact h5.trans (hd d (by omega))
        · exact d4 d p p' h1 (by omega) (by omega) h4 h5
    · rw [row 13 (by decide)]; exact d5 d p h1 h2 (by omega)
    · rw [row 14 (by decide), row 204 (by decide)]; exact k1
    · rw [row 15 (by decide), row 203 (by decide)]; exact k2
    · rw [row 16 (by decide)]
      by_cases c : j = Q
      · subst c; rw [(e4 (-1) 205 (by simp)).1, k4 j (Nat.le_refl _) hQ]; exact ⟨rfl, .inl rfl⟩
      · rw [(e4 (-1) 205 (by simp)).2 j c]; exact k3 j (by omega)
    · rw [row 16 (by decide)]; exact k4 j (by omega) h2
    · rw [row 8 (by decide), row 9 (by decide), row 10 (by decide), row 11 (by decide), row 207 (by decide), row 208 (by decide), row 209 (by decide), row 210 (by decide)]; exact hRu
    · rw [row 20 (by decide), row 215 (by decide)]; exact hTa
    · rw [row 171 (by decide), row 195 (by decide)]; exact hRo
    · rw [row 173 (by decide), row 174 (by decide), row 175 (by decide), row 176 (by decide), row 177 (by decide), row 178 (by decide), row 179 (by decide), row 233 (by decide), row 234 (by decide), row 235 (by decide), row 236 (by decide), row 3 (by decide)]; exact rKept_up (Nat.le_refl P) (Nat.le_succ Q) (fun _ _ => rfl) (fun p hp => (e4 x3 6 (by simp)).2 p (by omega)) hKe.1
    · rw [row 180 (by decide), row 181 (by decide), row 182 (by decide), row 183 (by decide), row 184 (by decide), row 185 (by decide), row 186 (by decide), row 233 (by decide), row 234 (by decide), row 235 (by decide), row 236 (by decide), row 3 (by decide)]; exact rKept_up (Nat.le_refl P) (Nat.le_succ Q) (fun _ _ => rfl) (fun p hp => (e4 x3 6 (by simp)).2 p (by omega)) hKe.2.1
    · rw [row 187 (by decide), row 188 (by decide), row 189 (by decide), row 190 (by decide), row 191 (by decide), row 192 (by decide), row 193 (by decide), row 233 (by decide), row 234 (by decide), row 235 (by decide), row 236 (by decide), row 3 (by decide)]; exact rKept_up (Nat.le_refl P) (Nat.le_succ Q) (fun _ _ => rfl) (fun p hp => (e4 x3 6 (by simp)).2 p (by omega)) hKe.2.2
    · rw [row 27 (by decide), row 33 (by decide), row 15 (by decide), row 18 (by decide), row 3 (by decide)]
      refine ⟨hKn.1, fun p hp => ⟨fun g => ?_, fun g => (hKn.2.1 p hp).2 (by omega)⟩, hKn.2.2⟩
      by_cases e : p = Q
      · subst e
        rw [(e4 x3 6 (by simp)).1, (hKn.2.1 p hp).2 (Nat.le_refl p)]
        obtain ⟨n, hn, rfl⟩ := nI_of2 (M := 9) (n := 9) (by decide) (show ¬ x3 < 0 from fun z => c3 (by rw [Int32.lt_iff_toInt_lt] at z ⊢; exact Int.lt_trans z (by decide))) hx3.2
        have : 0 < n := Nat.pos_of_ne_zero (fun z => by subst z; exact absurd hx3.1 (by decide))
        rw [show (10 : Int32) * nI n = nI (10 * n) from pk_mul 10 n]
        exact nI_lt (a := 0) (by omega) (by omega)
      · rw [(e4 x3 6 (by simp)).2 p e]
        exact (hKn.2.1 p hp).1 (by omega)
