/-! The cheap calls. -/
set_option maxRecDepth 100000 in
theorem okI_ret (v : Int32) (a : zA) (b : zB) : zRET (some (.int v)) zSH a b = okI v a b := rfl
theorem s_in (x lo hi : Int64) (a : zA) (b : zB) : M_in x lo hi a b = okI (if x < lo then 0 else if hi < x then 0 else 1) a b := by
  rw [q_M_in, q_M_in_17, q_M_in_18, q_M_in_18]
  by_cases h : x < lo
  · rw [decide_eq_true ((lg_cmp_lt x lo).mpr h), if_pos h]
    exact okI_ret 0 a b
  · rw [decide_eq_false (fun z => h ((lg_cmp_lt x lo).mp z)), if_neg h]
    by_cases h2 : hi < x
    · rw [decide_eq_true ((lg_cmp_gt x hi).mpr h2), if_pos h2]
      exact okI_ret 0 a b
    · rw [decide_eq_false (fun z => h2 ((lg_cmp_gt x hi).mp z)), if_neg h2]
      exact okI_ret 1 a b
theorem s_wide_lt (a b : Int32) : a.toInt64 < b.toInt64 ↔ a < b := by
  rw [Int64.lt_iff_toInt_lt, Int32.lt_iff_toInt_lt, Int32.toInt_toInt64, Int32.toInt_toInt64]
theorem s_in32 (x lo hi : Int32) {lo' hi' : Int64} (h1 : lo' = lo.toInt64) (h2 : hi' = hi.toInt64) (a : zA) (b : zB) : M_in x.toInt64 lo' hi' a b = okI (if x < lo then 0 else if hi < x then 0 else 1) a b := by
  rw [s_in, h1, h2]
  by_cases h : x < lo
  · rw [if_pos h, if_pos ((s_wide_lt _ _).mpr h)]
  · rw [if_neg h, if_neg (fun z => h ((s_wide_lt _ _).mp z))]
    by_cases h2 : hi < x
    · rw [if_pos h2, if_pos ((s_wide_lt _ _).mpr h2)]
    · rw [if_neg h2, if_neg (fun z => h2 ((s_wide_lt _ _).mp z))]
theorem rel_thr {L : Nat} {xs : Nat → Int32} {a : zA} {b b' : zB} {x : Int32} (h : Rel L xs a b) : Rel L xs (zup a 194 0 x) b' := by
  obtain ⟨P, Q, T, G, N, h⟩ := h
  exact ⟨P, Q, T, G, N, by rw [zmask_f rfl]; exact h⟩
theorem rOne_mono {P P' : Nat} (h : P ≤ P') {x : Int32} (k : rOne P x) : rOne P' x := by
  rcases k with k | ⟨w, hw, k⟩
  · exact .inl k
  · exact .inr ⟨w, by omega, k⟩
theorem rDays_mono {P P' Q T : Nat} (h : P ≤ P') {D A F : Nat → Int32} (k : rDays P Q T D A F) : rDays P' Q T D A F := by
  obtain ⟨k1, k2, k3, k4, k5⟩ := k
  exact ⟨k1, k2, fun d p h1 h2 => rOne_mono h (k3 d p h1 h2), k4, k5⟩
theorem rWork_mono {P P' Q T : Nat} (h : P ≤ P') {N N' R R' B B' : Nat → Int32} (k : rWork P Q T N N' R R' B B') : rWork P' Q T N N' R R' B B' := by
  obtain ⟨k1, k2, k3, k4⟩ := k
  exact ⟨k1, k2, fun j hj => ⟨(k3 j hj).1, rOne_mono h (k3 j hj).2⟩, k4⟩
theorem rSame_up {n : Nat} {lo hi x : Int32} {f f' g g' : Nat → Int32} (h : rSame n lo hi f g) (hx : lo ≤ x ∧ x ≤ hi) (e1 : f' n = x) (e2 : g' n = x) (o1 : ∀ j, j ≠ n → f' j = f j) (o2 : ∀ j, j ≠ n → g' j = g j) : rSame (n + 1) lo hi f' g' := by
  intro j hj
  by_cases e : j = n
  · subst e
    rw [e1, e2]
    exact ⟨rfl, hx⟩
  · rw [o1 j e, o2 j e]
    exact h j (by omega)
theorem rRule_c {m m' r S B A B' W F U : Nat → Int32} (e : ∀ j, 17 ≤ j → j ≤ 21 → m' j = m j) (h : rRule m r S B A B' W F U) : rRule m' r S B A B' W F U := by
  obtain ⟨h1, h2, h3, h4, K, h5, h6, h7⟩ := h
  exact ⟨by rw [e 17 (by decide) (by decide)]; exact h1, by rw [e 18 (by decide) (by decide)]; exact h2, by rw [e 19 (by decide) (by decide)]; exact h3, h4, K, h5, (e 21 (by decide) (by decide)).trans h6, h7⟩
theorem zcond_t {α : Type} {x y : α} {p : Prop} [Decidable p] (h : p) : cond (decide p) x y = x := by rw [decide_eq_true h]; rfl
theorem zcond_f {α : Type} {x y : α} {p : Prop} [Decidable p] (h : ¬ p) : cond (decide p) x y = y := by rw [decide_eq_false h]; rfl
theorem r_person_no {L : Nat} {xs : Nat → Int32} (x1 x2 : Int32) {a : zA} {b : zB} (hr : Rel L xs a b) (hX : X_person x1 x2 a b = X_person_33 a b) (hM : M_person x1 x2 a b = M_person_38 (zup a 194 0 0) b) :
    ∃ v a1 b1 a2 b2, X_person x1 x2 a b = okI v a1 b1 ∧ (∀ j, a1 0 j = a 0 j) ∧ M_person x1 x2 a1 b1 = okI v a2 b2 ∧ Rel L xs a2 b2 :=
  ⟨-1, a, b, zup a 194 0 0, b, hX.trans ((q_X_person_33 a b).trans (okI_ret _ _ _)), fun _ => rfl, hM.trans ((q_M_person_38 _ _).trans (okI_ret _ _ _)), rel_thr hr⟩
theorem rKept_up {i P P' Q Q' : Nat} {Gn Gn' Lg Lg' s D N R B C H k0 k1 k2 K : Nat → Int32} (hP : P ≤ P') (hQ : Q ≤ Q') (hg : ∀ w, w < P → Gn' w = Gn w) (hl : ∀ p, p < Q → Lg' p = Lg p) (h : rKept i P Q Gn Lg s D N R B C H k0 k1 k2 K) : rKept i P' Q' Gn' Lg' s D N R B C H k0 k1 k2 K := by
  rcases h with h | ⟨h0, p, q, t, ⟨h1, h2, h3, h4⟩, h5⟩
  · exact .inl h
  · refine .inr ⟨h0, p, q, t, ⟨by omega, by omega, fun j hj => ⟨fun g => ?_, fun g => (h3 j hj).2 g⟩, fun w k hw hk => ⟨fun g => ?_, fun g => (h4 w k hw hk).2 g⟩⟩, h5⟩
    · rw [hl j (by omega)]; exact (h3 j hj).1 g
    · rw [hg w (by omega)]; exact (h4 w k hw hk).1 g
set_option maxHeartbeats 1000000 in
theorem r_person {L : Nat} {xs : Nat → Int32} (x1 x2 : Int32) : zAns (Rel L xs) (X_person x1 x2) (M_person x1 x2) := by
  intro a b hr
  have e63 : (63 : Int64) = (63 : Int32).toInt64 := by decide
  have e0 : (0 : Int64) = (0 : Int32).toInt64 := by decide
  have e1 : (1 : Int64) = (1 : Int32).toInt64 := by decide
  have e9 : (9 : Int64) = (9 : Int32).toInt64 := by decide
  have in1 : ∀ (a : zA) (b : zB), M_in x1.toInt64 0 63 a b = okI (if x1 < 0 then 0 else if 63 < x1 then 0 else 1) a b := s_in32 x1 0 63 e0 e63
  have in2 : ∀ (a : zA) (b : zB), M_in x2.toInt64 1 9 a b = okI (if x2 < 1 then 0 else if 9 < x2 then 0 else 1) a b := s_in32 x2 1 9 e1 e9
  have d00 : decide ((0 : Int32) = 0) = true := by decide
  have d10 : decide ((1 : Int32) = 0) = false := by decide
  by_cases c1 : x1 < 0
  · refine r_person_no x1 x2 hr ?_ ?_
    · rw [q_X_person, zcond_t c1]
    · rw [q_M_person, in1, zcI_ok, if_pos c1, d00]; rfl
  by_cases c2 : 63 < x1
  · refine r_person_no x1 x2 hr ?_ ?_
    · rw [q_X_person, zcond_f c1, zcond_t c2]
    · rw [q_M_person, in1, zcI_ok, if_neg c1, if_pos c2, d00]; rfl
  by_cases c3 : x2 < 1
  · refine r_person_no x1 x2 hr ?_ ?_
    · rw [q_X_person, zcond_f c1, zcond_f c2, zcond_t c3]
    · rw [q_M_person, in1, zcI_ok, if_neg c1, if_neg c2, d10, cond_false, in2, zcI_ok, if_pos c3, d00]; rfl
  by_cases c4 : 9 < x2
  · refine r_person_no x1 x2 hr ?_ ?_
    · rw [q_X_person, zcond_f c1, zcond_f c2, zcond_f c3, zcond_t c4]
    · rw [q_M_person, in1, zcI_ok, if_neg c1, if_neg c2, d10, cond_false, in2, zcI_ok, if_neg c3, if_pos c4, d00]; rfl
  obtain ⟨P, Q, T, G, N, h0, ⟨⟨n1, n2, n3⟩, n4, n5, n6, n7, n8⟩, ⟨u1, u2⟩, ⟨w1, w2⟩, hD, hW, hRu, hTa, hRo, hKe, hKn⟩ := id hr
  have p1 : a 2 0 = nI P := n1
  have p2 : a 194 3 = nI P := n2
  by_cases c5 : P = 10
  · refine r_person_no x1 x2 hr ?_ ?_
    · rw [q_X_person, zcond_f c1, zcond_f c2, zcond_f c3, zcond_f c4, p1, c5]; rfl
    · rw [q_M_person, in1, zcI_ok, if_neg c1, if_neg c2, d10, cond_false, in2, zcI_ok, if_neg c3, if_neg c4, d10, cond_false, zup_nj (by decide), p2, c5]; rfl
  have hP : P < 10 := by omega
  have zP : zin (nI P) 10 = true := zin_nI hP (by decide)
  have lP : nI P < 10 := nI_lt (b := 10) hP (by decide)
  have kP : (nI P).toNatClampNeg = P := nI_clamp (by omega)
  refine ⟨nI P, zup (zup (zup a 3 P x2) 17 P x1) 2 0 (nI P + 1), b, zup (zup (zup (zup (zup (zup (zup a 3 P x2) 17 P x1) 2 0 (nI P + 1)) 194 0 0) 196 P x1) 197 P x2) 194 3 (nI P + 1), b, ?_, fun j => ?_, ?_, ?_⟩
  · rw [q_X_person, zcond_f c1, zcond_f c2, zcond_f c3, zcond_f c4, p1, zcond_t lP, zP, kP]
    rfl
  · rw [zup_ne (by decide), zup_ne (by decide), zup_ne (by decide)]
  · rw [q_M_person, in1, zcI_ok, if_neg c1, if_neg c2, d10, cond_false, in2, zcI_ok, if_neg c3, if_neg c4, d10, cond_false]
    have r1 : zup (zup (zup (zup a 3 P x2) 17 P x1) 2 0 (nI P + 1)) 194 0 0 194 3 = nI P := by
      rw [zup_nj (by decide), zup_ne (by decide), zup_ne (by decide), zup_ne (by decide)]; exact p2
    have r2 : zup (zup (zup (zup (zup a 3 P x2) 17 P x1) 2 0 (nI P + 1)) 194 0 0) 196 P x1 194 3 = nI P := (zup_ne (by decide)).trans r1
    have r3 : zup (zup (zup (zup (zup (zup a 3 P x2) 17 P x1) 2 0 (nI P + 1)) 194 0 0) 196 P x1) 197 P x2 194 3 = nI P := (zup_ne (by decide)).trans r2
    have hne : ¬ nI P = 10 := fun z => c5 ((nI_eq (by omega) (by decide)).mp (show nI P = nI 10 from z))
    rw [r1, zcond_f hne, zP, kP, cond_true, r2, zP, kP, cond_true, r3, zup_eq]
    have hs : nI P + 1 - 1 = nI P := by rw [nI_1]; exact nI_pred P
    rw [hs]
    exact okI_ret _ _ _
  · refine ⟨P + 1, Q, T, G, N, ?_⟩
    rw [zmask_u rfl, zmask_u rfl, zmask_u rfl, zmask_f rfl, zmask_u rfl, zmask_u rfl, zmask_u rfl]
    have hx1 : (0 : Int32) ≤ x1 ∧ x1 ≤ 63 := ⟨Int32.not_lt.mp c1, Int32.not_lt.mp c2⟩
    have hx2 : (1 : Int32) ≤ x2 ∧ x2 ≤ 9 := ⟨Int32.not_lt.mp c3, Int32.not_lt.mp c4⟩
    clear p1 p2 zP lP kP
    generalize zmask a = m at *
    obtain ⟨M, hM⟩ : ∃ M, M = zup (zup (zup (zup (zup (zup m 3 P x2) 17 P x1) 2 0 (nI P + 1)) 196 P x1) 197 P x2) 194 3 (nI P + 1) := ⟨_, rfl⟩
    rw [← hM]
    have row : ∀ q, (q ≠ 3 ∧ q ≠ 17 ∧ q ≠ 2 ∧ q ≠ 196 ∧ q ≠ 197 ∧ q ≠ 194) → M q = m q := fun q h => by
      obtain ⟨g1, g2, g3, g4, g5, g6⟩ := h
      rw [hM, zup_row g6, zup_row g5, zup_row g4, zup_row g3, zup_row g2, zup_row g1]
    have e2 : M 2 0 = nI P + 1 := by rw [hM, zup_ne (by decide), zup_ne (by decide), zup_ne (by decide), zup_eq]
    have e2' : ∀ j, j ≠ 0 → M 2 j = m 2 j := fun j h => by rw [hM, zup_ne (by decide), zup_ne (by decide), zup_ne (by decide), zup_nj h, zup_ne (by decide), zup_ne (by decide)]
    have e4 : M 194 3 = nI P + 1 := by rw [hM, zup_eq]
    have e4' : ∀ j, j ≠ 3 → M 194 j = m 194 j := fun j h => by rw [hM, zup_nj h, zup_ne (by decide), zup_ne (by decide), zup_ne (by decide), zup_ne (by decide), zup_ne (by decide)]
    have e3 : M 3 P = x2 := by rw [hM, zup_ne (by decide), zup_ne (by decide), zup_ne (by decide), zup_ne (by decide), zup_ne (by decide), zup_eq]
    have e3' : ∀ j, j ≠ P → M 3 j = m 3 j := fun j h => by rw [hM, zup_ne (by decide), zup_ne (by decide), zup_ne (by decide), zup_ne (by decide), zup_ne (by decide), zup_nj h]
    have e17 : M 17 P = x1 := by rw [hM, zup_ne (by decide), zup_ne (by decide), zup_ne (by decide), zup_ne (by decide), zup_eq]
    have e17' : ∀ j, j ≠ P → M 17 j = m 17 j := fun j h => by rw [hM, zup_ne (by decide), zup_ne (by decide), zup_ne (by decide), zup_ne (by decide), zup_nj h, zup_ne (by decide)]
    have e6 : M 196 P = x1 := by rw [hM, zup_ne (by decide), zup_ne (by decide), zup_eq]
    have e6' : ∀ j, j ≠ P → M 196 j = m 196 j := fun j h => by rw [hM, zup_ne (by decide), zup_ne (by decide), zup_nj h, zup_ne (by decide), zup_ne (by decide), zup_ne (by decide)]
    have e7 : M 197 P = x2 := by rw [hM, zup_ne (by decide), zup_eq]
    have e7' : ∀ j, j ≠ P → M 197 j = m 197 j := fun j h => by rw [hM, zup_ne (by decide), zup_nj h, zup_ne (by decide), zup_ne (by decide), zup_ne (by decide), zup_ne (by decide)]
    obtain ⟨u2, u3, u4, u5⟩ := u2
    refine ⟨(row 0 (by decide)).trans h0, ⟨⟨e2.trans (nI_1 P), e4.trans (nI_1 P), by omega⟩, ⟨(e2' 1 (by decide)).trans n4.1, (e4' 7 (by decide)).trans n4.2.1, n4.2.2⟩, ⟨by rw [row 12 (by decide)]; exact n5.1, (e4' 15 (by decide)).trans n5.2.1, n5.2.2⟩, ⟨by rw [row 1 (by decide)]; exact n6.1, (e4' 34 (by decide)).trans n6.2.1, n6.2.2⟩, ⟨by rw [row 1 (by decide)]; exact n7.1, (e4' 1 (by decide)).trans n7.2.1, n7.2.2⟩, (e4' 37 (by decide)).trans n8.1, (e4' 38 (by decide)).trans n8.2⟩,
      ⟨rSame_up u1 hx2 e3 e7 e3' e7', ?_, ?_, ?_, ?_⟩, ⟨rSame_up w1 hx1 e17 e6 e17' e6', ?_⟩, ?_, ?_, rRule_c (fun j h _ => e4' j (by omega)) ?_, ?_, ?_, ⟨?_, ?_, ?_⟩, ?_⟩
    · rw [row 4 (by decide), row 199 (by decide)]; exact u2
    · rw [row 5 (by decide), row 200 (by decide)]; exact u3
    · rw [row 6 (by decide), row 201 (by decide)]; exact u4
    · rw [row 7 (by decide), row 202 (by decide)]; exact u5
    · rw [row 18 (by decide), row 198 (by decide)]; exact w2
    · rw [row 13 (by decide), row 206 (by decide)]; exact rDays_mono (by omega) hD
    · rw [row 14 (by decide), row 204 (by decide), row 15 (by decide), row 203 (by decide), row 16 (by decide), row 205 (by decide)]; exact rWork_mono (by omega) hW
    · rw [row 8 (by decide), row 9 (by decide), row 10 (by decide), row 11 (by decide), row 207 (by decide), row 208 (by decide), row 209 (by decide), row 210 (by decide)]; exact hRu
    · rw [row 20 (by decide), row 215 (by decide)]; exact hTa
    · rw [row 171 (by decide), row 195 (by decide)]; exact hRo
    · rw [row 173 (by decide), row 174 (by decide), row 175 (by decide), row 176 (by decide), row 177 (by decide), row 178 (by decide), row 179 (by decide), row 233 (by decide), row 234 (by decide), row 235 (by decide), row 236 (by decide), row 6 (by decide)]; exact rKept_up (Nat.le_succ P) (Nat.le_refl Q) (fun w hw => e3' w (by omega)) (fun _ _ => rfl) hKe.1
    · rw [row 180 (by decide), row 181 (by decide), row 182 (by decide), row 183 (by decide), row 184 (by decide), row 185 (by decide), row 186 (by decide), row 233 (by decide), row 234 (by decide), row 235 (by decide), row 236 (by decide), row 6 (by decide)]; exact rKept_up (Nat.le_succ P) (Nat.le_refl Q) (fun w hw => e3' w (by omega)) (fun _ _ => rfl) hKe.2.1
    · rw [row 187 (by decide), row 188 (by decide), row 189 (by decide), row 190 (by decide), row 191 (by decide), row 192 (by decide), row 193 (by decide), row 233 (by decide), row 234 (by decide), row 235 (by decide), row 236 (by decide), row 6 (by decide)]; exact rKept_up (Nat.le_succ P) (Nat.le_refl Q) (fun w hw => e3' w (by omega)) (fun _ _ => rfl) hKe.2.2
    · rw [row 27 (by decide), row 33 (by decide), row 15 (by decide), row 6 (by decide), row 18 (by decide)]
      refine ⟨hKn.1, hKn.2.1, fun w k hw hk => ⟨fun g => ?_, fun g => (hKn.2.2 w k hw hk).2 (by omega)⟩⟩
      by_cases e : w = P
      · subst e
        rw [e3, (hKn.2.2 w k hw hk).2 (Nat.le_refl w)]
        have := hx2.1
        rw [Int32.le_iff_toInt_le, show (1 : Int32).toInt = 1 from by decide] at this
        rw [Int32.lt_iff_toInt_lt, show (0 : Int32).toInt = 0 from by decide]
        omega
      · rw [e3' w e]
        exact (hKn.2.2 w k hw hk).1 (by omega)
