/-! The call round. -/
/-- class and reference begin alike: the graph, and those in use -/
theorem x_begin {P Q T W S : Nat} {a : zA} (b : zB) (hv : vw P Q T W S a a) (hP : P ≤ 5) (hQ : Q ≤ 5) : ∃ A b1 y b2, R_build a b = okV A b1 ∧ R_ableBits A b1 = okI y A b1 ∧ R_useBy y A b1 = okV A b2 ∧ FB A a ∧ GX Q (ALL P Q) (fR W S (a 8 3) (a 10) Q (ALL P Q)) A b2 ∧ rB 41 (ALL P Q).length (okU P Q (fAb P a)) b2 ∧ pB y (fun q w => decide (q < Q) && fAb P a w q) := by
  obtain ⟨A, b1, y1, y2, y3⟩ := x_graph b hv hP hQ
  have fA := FXA_B y2
  have vA : vw P Q T W S A a := vw_s hv (FXA_s fA)
  obtain ⟨y, z1, z2⟩ := x_ableF (b := b1) vA hP hQ
  have ef : fAb P A = fAb P a := by
    funext w p
    unfold fAb yAble
    rw [fA 4 (by decide), fA 17 (by decide)]
  rw [ef] at z2
  obtain ⟨b2, u1, u2, u3, u4⟩ := x_use hP hQ rfl y3 z2
  exact ⟨A, b1, y, b2, y1, z1, u1, y2, GX_t y3 (fun _ _ _ => rfl) (fun q hq => u4 q (by omega)), u2, z2⟩
theorem mHas_Y {P Q T W S : Nat} {a Y : zA} (b : zB) (hv : vw P Q T W S a a) (h : ∀ q, 194 ≤ q → q ≤ 210 → q ≠ 195 → Y q = a q) : mHas P Q W S (a 8 3) (a 10) (fAb P a) (zup Y 194 0 0) b :=
  mHas_vw b (vw_c hv (fun j hj => (zup_nj (by rintro rfl; exact kf_0 hj)).trans (congrFun (h 194 (by decide) (by decide) (by decide)) j)) (fun q h1 h2 => (zup_row (by omega)).trans (h q (by omega) h2 (by omega))))
theorem m_fewY {P Q T W S : Nat} {a Y : zA} {b : zB} (hv : vw P Q T W S a a) (hP : P ≤ 5) (hQ : Q ≤ 5) (h : ∀ q, 194 ≤ q → q ≤ 210 → q ≠ 195 → Y q = a q) : M_isFew (zup Y 194 0 0) b = okI 1 (zup Y 194 0 0) b := by
  obtain ⟨-, ⟨⟨-, p2⟩, ⟨-, q2⟩, -⟩, -⟩ := id hv
  have e := congrFun (h 194 (by decide) (by decide) (by decide))
  refine (m_few (P := P) (Q := Q) (by rw [zup_nj (by decide), e]; exact p2) (by rw [zup_nj (by decide), e]; exact q2) (by omega) (by omega)).trans ?_
  rw [decide_eq_true (show P ≤ 5 ∧ Q ≤ 5 from ⟨hP, hQ⟩)]
  rfl
theorem x_fewY {P Q T W S : Nat} {a c : zA} {b : zB} (hv : vw P Q T W S a c) (hP : P ≤ 5) (hQ : Q ≤ 5) : R_isFew a b = okI 1 a b := by
  obtain ⟨-, ⟨⟨p1, -⟩, ⟨q1, -⟩, -⟩, -⟩ := id hv
  refine (x_few p1 q1 (by omega) (by omega)).trans ?_
  rw [decide_eq_true (show P ≤ 5 ∧ Q ≤ 5 from ⟨hP, hQ⟩)]
  rfl
theorem few_no {P Q T W S : Nat} {a : zA} {b : zB} (hv : vw P Q T W S a a) (cf : ¬ (P ≤ 5 ∧ Q ≤ 5)) : R_isFew a b = okI 0 a b ∧ M_isFew (zup a 194 0 0) b = okI 0 (zup a 194 0 0) b := by
  obtain ⟨⟨g1, g2, -⟩, ⟨⟨p1, p2⟩, ⟨q1, q2⟩, -⟩, -⟩ := id hv
  refine ⟨(x_few p1 q1 g1 g2).trans (by rw [decide_eq_false cf]; rfl), (m_few (a := zup a 194 0 0) (P := P) (Q := Q) ?_ ?_ g1 g2).trans (by rw [decide_eq_false cf]; rfl)⟩
  · rw [zup_nj (by decide)]; exact p2
  · rw [zup_nj (by decide)]; exact q2
theorem FXA_t {A A' a : zA} (h : FXA A a) (g : ∀ q, q < 34 ∨ 170 < q → A' q = A q) : FXA A' a := fun q hq => (g q hq).trans (h q hq)
theorem r_round {L : Nat} {xs : Nat → Int32} : zAns (Rel L xs) X_round M_round := by
  intro a b hr
  obtain ⟨P, Q, T, G, N, hall⟩ := id hr
  obtain ⟨W, S, hv⟩ := vw_mask hall
  obtain ⟨⟨g1, g2, g3, g4, g5⟩, ⟨⟨p1, p2⟩, ⟨q1, q2⟩, -⟩, -⟩ := id hv
  by_cases cf : P ≤ 5 ∧ Q ≤ 5
  · obtain ⟨hP, hQ⟩ := cf
    obtain ⟨A, b1, y, b2, y1, y2, y3, y4, y5, y6, -⟩ := x_begin b hv hP hQ
    have hN := all_120 hP hQ
    have fA := FXA_B y4
    obtain ⟨e, he, hn⟩ := emb_lst P Q (fAb P a)
    have hRR := fR_emb (W := W) (S := S) (Q := Q) (F := a 8 3) (N := a 10) hn
    have wk := wk_emb he hRR
    obtain ⟨A', b3, v, z1, z2, z3, z4, z5⟩ := x_short hN y5.1.1 (ALL P Q).length 0 0 A b2 (Nat.zero_add _) ⟨fun _ _ => rfl, fun _ _ => rfl⟩ y5.2.2 y6 (.inl ⟨rfl, fun i hi => absurd hi (Nat.not_lt_zero _)⟩)
    have fA' : FXA A' a := FXA_t fA (fun q hq => z2.1 q (by omega))
    have eXs : R_shortestRound A b2 = okI v A' b3 := by rw [q_R_shortestRound]; exact z1
    have eX : ∀ r, r = cond (decide (v = 0)) (okI (-2) A' b3) (zcI (R_nextOnRound (A' 35 0) v A' b3) (fun y6 a6 b6 => zcV (X_clearRow a6 b6) (fun a7 b7 => zcV (X_tellNode (a7 35 0) a7 b7) (fun a8 b8 => zcV (X_tellNode y6 a8 b8) (fun a9 b9 => zRET (some (.int v)) zSH a9 b9))))) → X_round a b = r := fun r hr => by
      rw [hr, q_X_round, x_fewY hv hP hQ, zcI_ok, zcond_f (show ¬ (1 : Int32) = 0 by decide), y1, zcV_ok, y2, zcI_ok, y3, zcV_ok, eXs, zcI_ok]
      rfl
    -- the reference
    have eM : ∀ (Y : zA) (bb : zB), (∀ q, 194 ≤ q → q ≤ 210 → q ≠ 195 → Y q = a q) → ∃ C v1 v2 v3, M_round Y bb = M_round_29 v1 v2 v3 (nI (LST (fAb P a) P Q).length) C bb ∧ FV C (zup Y 194 0 0) ∧ ML Q (LST (fAb P a) P Q) C ∧ ((v1 = -2 ∧ ∀ x, x < (LST (fAb P a) P Q).length → noC (LST (fAb P a) P Q).length (fR W S (a 8 3) (a 10) Q (LST (fAb P a) P Q)) x) ∨ ∃ x len nx, v1 = nI len ∧ v2 = nI x ∧ v3 = nI nx ∧ len ≤ 120 ∧ BC (LST (fAb P a) P Q).length (LST (fAb P a) P Q).length (fR W S (a 8 3) (a 10) Q (LST (fAb P a) P Q)) x len nx) := fun Y bb hY => by
      obtain ⟨C1, w1, w2, w3, w4⟩ := m_lead hP hQ g4 g5 (mHas_Y bb hv hY)
      obtain ⟨C', v1, v2, v3, u1, u2, u3⟩ := m_rounds (C0 := C1) bb (lst_120 _ hP hQ) w3.1 w4 (LST (fAb P a) P Q).length 0 (-2) 0 0 C1 (Nat.zero_add _) (fun _ _ _ => rfl) (.inl ⟨rfl, fun x hx => absurd hx (Nat.not_lt_zero _)⟩)
      refine ⟨C', v1, v2, v3, ?_, FV_t ⟨fun q h1 h2 => u2 q (by omega) (by omega), fun j _ => congrFun (u2 194 (by decide) (by decide)) j⟩ (FV_D w2), ⟨(congrFun (u2 194 (by decide) (by decide)) 47).trans w3.1, fun i hi q hq => (congrFun (u2 221 (by decide) (by decide)) _).trans (w3.2 i hi q hq)⟩, u3⟩
      rw [q_M_round, m_fewY hv hP hQ hY, zcI_ok, zcond_f (show ¬ (1 : Int32) = 0 by decide), w1, zcV_ok]
      exact u1
    have eEnd : ∀ (C : zA) (bb : zB) v1 v2 v3, C 194 47 = nI (LST (fAb P a) P Q).length → M_round_29 v1 v2 v3 (nI (LST (fAb P a) P Q).length) C bb = cond (decide (0 < v1)) (zcV (M_entersList v2 (mT C []) bb) (fun a1 b1 => zcV (M_entersList v3 a1 b1) (fun a2 b2 => okI v1 a2 b2))) (okI v1 C bb) := fun C bb v1 v2 v3 h => by
      have k109 : ∀ C bb, M_round_109 v1 C bb = okI v1 C bb := fun C bb => by rw [q_M_round_109]; exact okI_ret _ _ _
      rw [q_M_round_29, h, zcond_f (nI_nlt (Nat.le_refl _) (by have := lst_120 (fAb P a) hP hQ; omega)), mT_0, k109]
      simp only [k109]
    rcases z5 with ⟨c1, c2⟩ | ⟨j, len, c1, c2, c3, c4⟩
    · obtain ⟨C, v1, v2, v3, w1, w2, w3, w4⟩ := eM A' b3 (fun q h1 h2 h3 => fA' q (by omega))
      rcases w4 with ⟨d1, -⟩ | ⟨x, len, nx, d1, d2, d3, d4, d5⟩
      · refine ⟨-2, A', b3, C, b3, eX _ (by rw [c1]; rfl), fun j => congrFun (fA' 0 (by decide)) j, ?_, rel_same (a := a) (b := b) hr ?_⟩
        · rw [w1, eEnd C b3 v1 v2 v3 w3.1, d1]
          rfl
        · rw [FV_m w2, FXA_m fA']
      · exact absurd ((wk len x x d5.1 d5.1).mpr (cy_self d5.2.1)) (c2 (e x) (he.1 x d5.1).1 (he.1 x d5.1).2 len d5.2.1.2.2.1)
    · obtain ⟨b4, x, u1, u2, u3, u4, u5, u6⟩ := x_nextOn hN ((z2.2 18 (by decide)).trans y5.1.1) c2 c4 (ALL P Q).length 0 b3 (Nat.zero_add _) z3 z4 (fun m hm => absurd hm (Nat.not_lt_zero _))
      obtain ⟨k, k1, k2⟩ := he.2.2 j c4.1 c4.2.1
      obtain ⟨k', k3, k4⟩ := he.2.2 x u2 u3
      have c4' := c4
      have u4' := u4
      have u5' := u5
      rw [← k2] at c4' u4' u5' u6
      rw [← k4] at u4' u5' u6
      have bc := bf_bc he hRR k1 k3 c4' u4' u5' u6
      have lenp := c4.2.2.1
      obtain ⟨l, el⟩ : ∃ l, l = (List.range Q).map (VL (ALL P Q) j) ++ (List.range Q).map (VL (ALL P Q) x) := ⟨_, rfl⟩
      have l37 : ∀ i, i < (ALL P Q).length → ∀ q, q < Q → A' 37 (5 * i + q) = VL (ALL P Q) i q := fun i hi q hq => by rw [z2.1 37 (by decide)]; exact y5.1.2 i hi q hq
      have t1 := x_tellN (A := A') (b := b4) (l := []) (k := j) hQ (by have := c4.1; omega) (by decide) ((congrFun (fA' 2 (by decide)) 1).trans q1) (l37 j c4.1)
      have t2 := x_tellN (A := A') (b := b4) (l := (List.range Q).map (VL (ALL P Q) j)) (k := x) hQ (by omega) (by rw [List.length_map, List.length_range]; omega) ((congrFun (fA' 2 (by decide)) 1).trans q1) (l37 x u2)
      rw [List.nil_append] at t1
      rw [← el] at t2
      have eX2 : X_round a b = okI (nI len) (xT A' l) b4 := eX _ (by
        rw [c1, zcond_f (show ¬ nI len = 0 from fun z => by have := (nI_eq (b := 0) (by omega) (by decide)).mp z; omega), c3, q_R_nextOnRound, show R_nextOnRound_2 (nI j) (nI len) 0 A' b3 = okI (nI x) A' b4 from u1, zcI_ok, x_clear, zcV_ok, show xT A' [] 35 0 = nI j from (congrFun (xT_q (by decide)) 0).trans c3, t1, zcV_ok, t2, zcV_ok]
        exact (okI_ret _ _ _).symm)
      have hY : ∀ q, 194 ≤ q → q ≤ 210 → q ≠ 195 → (xT A' l) q = a q := fun q h1 h2 h3 => by rw [xT_q (by omega)]; exact fA' q (by omega)
      obtain ⟨C, v1, v2, v3, w1, w2, w3, w4⟩ := eM (xT A' l) b4 hY
      rcases w4 with ⟨d1, d2⟩ | ⟨x', len', nx', d1, d2, d3, d4, d5⟩
      · exact absurd (cy_self bc.2.1) (d2 k k1 len lenp)
      · obtain ⟨i1, i2, i3⟩ := bc_one bc d5
        subst i1
        subst i2
        subst i3
        have q7 : C 194 7 = nI Q := by rw [w2.2 7 (by decide), zup_nj (by decide), xT_q (by decide)]; exact (congrFun (fA' 194 (by decide)) 7).trans q2
        have vk : ∀ k, k < (LST (fAb P a) P Q).length → VL (LST (fAb P a) P Q) k = VL (ALL P Q) (e k) := fun k hk => by
          funext q
          unfold VL
          rw [hn k hk]
        have L120 := lst_120 (fAb P a) hP hQ
        have s1 := m_tellN (C := C) (b := b4) (l := []) (k := k) hQ (by omega) (by decide) q7 (w3.2 k k1)
        have s2 := m_tellN (C := C) (b := b4) (l := (List.range Q).map (VL (ALL P Q) j)) (k := k') hQ (by omega) (by rw [List.length_map, List.length_range]; omega) q7 (w3.2 k' k3)
        rw [List.nil_append, show (fun q => nI (nd (LST (fAb P a) P Q) k q)) = VL (ALL P Q) j from (vk k k1).trans (by rw [k2])] at s1
        rw [show (fun q => nI (nd (LST (fAb P a) P Q) k' q)) = VL (ALL P Q) x from (vk k' k3).trans (by rw [k4]), ← el] at s2
        refine ⟨nI len, xT A' l, b4, mT C l, b4, eX2, fun j => ?_, ?_, rel_tell (l := l) (m := zmask a) hall ?_ (by rw [xT_m, FXA_m fA']) (by rw [mT_m, FV_m w2])⟩
        · rw [xT_q (by decide)]; exact congrFun (fA' 0 (by decide)) j
        · rw [w1, eEnd C b4 v1 v2 v3 w3.1, d1, d2, d3, zcond_t (show (0 : Int32) < nI len from nI_lt (a := 0) lenp (by omega)), s1, zcV_ok, s2, zcV_ok]
        · rw [el, List.length_append, List.length_map, List.length_map, List.length_range]; omega
  · obtain ⟨f1, f2⟩ := few_no (b := b) hv cf
    refine ans_thr hr (-3) ?_ ?_
    · rw [q_X_round, f1, zcI_ok, zcond_t rfl]; exact okI_ret _ _ _
    · rw [q_M_round, f2, zcI_ok, zcond_t rfl]; exact okI_ret _ _ _
