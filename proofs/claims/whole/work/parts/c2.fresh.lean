/-! The call fresh. -/
theorem zmk_X {A a : zA} (h : ∀ q, q ≠ 27 → ¬ (28 ≤ q ∧ q ≤ 32) → q ≠ 34 → A q = a q) (h2 : A 27 10 = a 27 10) : zmask A = zmask a := by
  funext q j
  unfold zmask
  by_cases c1 : q = 27
  · subst c1
    by_cases c2 : j = 10
    · rw [c2, h2]
    · have : zfr 27 j = true := by
        show cond (Nat.beq j 10) false true = true
        rw [zbeq_f c2]
        rfl
      rw [this]
      rfl
  · by_cases c2 : (28 ≤ q ∧ q ≤ 32) ∨ q = 34
    · have : zfr q j = true := by
        have : q = 28 ∨ q = 29 ∨ q = 30 ∨ q = 31 ∨ q = 32 ∨ q = 34 := by omega
        rcases this with rfl | rfl | rfl | rfl | rfl | rfl <;> rfl
      rw [this]
      rfl
    · rw [h q c1 (by omega) (by omega)]
theorem zmk_M {A a : zA} (h : ∀ q, q ≠ 194 → ¬ (218 ≤ q ∧ q ≤ 220) → q ≠ 224 → A q = a q) (h2 : ∀ j, j ≠ 0 → j ≠ 59 → A 194 j = a 194 j) : zmask A = zmask a := by
  funext q j
  unfold zmask
  by_cases c1 : q = 194
  · subst c1
    by_cases c2 : j = 0
    · subst c2; rfl
    · by_cases c3 : j = 59
      · subst c3; rfl
      · rw [h2 j c2 c3]
  · by_cases c2 : (218 ≤ q ∧ q ≤ 220) ∨ q = 224
    · have : zfr q j = true := by
        have : q = 218 ∨ q = 219 ∨ q = 220 ∨ q = 224 := by omega
        rcases this with rfl | rfl | rfl | rfl <;> rfl
      rw [this]
      rfl
    · rw [h q c1 (by omega) (by omega)]
theorem may_of {P Q T W S : Nat} {a C : zA} (hv : vw P Q T W S a C) (h0 : v0 C) {C0 : zA} (hC : ∀ q, q ≠ 194 → C0 q = askM C P Q T W S a q) : mayO (scN 0 a T W Q) (tgN 0 a Q T S) P Q C0 := by
  intro p l w hp hw hl hne
  have hv2 : vw P Q T W S a (zup C 194 44 0) := vw_u hv (.inr ⟨rfl, by unfold kf; omega⟩)
  have f38 : zup C 194 44 0 194 38 = 0 := (zup_nj (by decide)).trans h0.2
  have f37 : zup C 194 44 0 194 37 = -1 := (zup_nj (by decide)).trans h0.1
  have g := (MG_N hv2 f37 (zup_eq _ _ _ _)).2.1 p l w hp hw hl hne
  rw [f38] at g
  rw [← g, hC 218 (by decide), askM_may hp, askM_may hp, f37, f38, h0.1, h0.2]
  rcases hl with h | h
  · rw [decide_eq_true h, Bool.true_or, Bool.true_or]
  · rw [hC 219 (by decide), askM_with h, askM_with h, f38, h0.2]
theorem r_fresh {L : Nat} {xs : Nat → Int32} : zAns (Rel L xs) X_fresh M_fresh := by
  intro a b hr
  obtain ⟨P, Q, T, G, N, hall⟩ := id hr
  obtain ⟨W, S, hv⟩ := vw_mask hall
  have h0 := v0_of hall
  obtain ⟨⟨g1, g2, g3, g4, g5⟩, ⟨⟨p1, p2⟩, ⟨q1, q2⟩, ⟨t1, t2⟩, -⟩, -⟩ := id hv
  have fX : ∀ x : Int32, x = 0 ∨ x = 1 → R_isFew_27 x a b = okI x a b := fun x h => by
    rw [q_R_isFew_27]
    rcases h with rfl | rfl
    · exact okI_ret _ _ _
    · exact okI_ret _ _ _
  have fM : ∀ (x : Int32) (c : zA), x = 0 ∨ x = 1 → M_isFew_21 x c b = okI x c b := fun x c h => by
    rw [q_M_isFew_21]
    rcases h with rfl | rfl
    · exact okI_ret _ _ _
    · exact okI_ret _ _ _
  by_cases c1 : 5 < P ∨ 5 < Q
  · have e1 : R_isFew a b = okI 0 a b := by
      rw [q_R_isFew, p1, q1, q_R_isFew_26, fX 0 (.inl rfl)]
      by_cases c2 : 5 < P
      · rw [zcond_t (show (5 : Int32) < nI P from nI_lt (a := 5) c2 (by omega))]
      · rw [zcond_f (show ¬ (5 : Int32) < nI P from nI_nlt (a := 5) (by omega) (by decide)), zcond_t (show (5 : Int32) < nI Q from nI_lt (a := 5) (by omega) (by omega))]
    have e2 : M_isFew (zup a 194 0 0) b = okI 0 (zup a 194 0 0) b := by
      rw [q_M_isFew, zup_nj (by decide), zup_nj (by decide), p2, q2, q_M_isFew_20, fM 0 _ (.inl rfl)]
      by_cases c2 : 5 < P
      · rw [zcond_t (show (5 : Int32) < nI P from nI_lt (a := 5) c2 (by omega))]
      · rw [zcond_f (show ¬ (5 : Int32) < nI P from nI_nlt (a := 5) (by omega) (by decide)), zcond_t (show (5 : Int32) < nI Q from nI_lt (a := 5) (by omega) (by omega))]
    refine ans_thr hr (-3) ?_ ?_
    · rw [q_X_fresh, e1, zcI_ok, zcond_t rfl]; exact okI_ret _ _ _
    · rw [q_M_fresh, e2, zcI_ok, zcond_t rfl]; exact okI_ret _ _ _
  · have n1 : ¬ (5 : Int32) < nI P := nI_nlt (a := 5) (by omega) (by decide)
    have n2 : ¬ (5 : Int32) < nI Q := nI_nlt (a := 5) (by omega) (by decide)
    have e1 : R_isFew a b = okI 1 a b := by
      rw [q_R_isFew, p1, q1, zcond_f n1, zcond_f n2]
      exact fX 1 (.inr rfl)
    obtain ⟨s', hs'⟩ : ∃ s', s' = dfN a P Q T W S Q 0 0 10 0 (fun _ => 0) (-1, fun _ => 0) := ⟨_, rfl⟩
    -- the class
    have hpr : prOk none := fun c h => absurd h (by simp)
    obtain ⟨a1, x1, x2, x3⟩ := x_load (b := b) hv (frz_n g1) hpr
    obtain ⟨a2, y1, y2, y3⟩ := x_raise (b := b) (opB_P hpr 0 a T W Q S) x3 g1 g2
    obtain ⟨A0, hA0⟩ : ∃ A0, A0 = zup a2 27 11 (-1) := ⟨_, rfl⟩
    have f0 : ∀ q, q ≠ 27 → ¬ (29 ≤ q ∧ q ≤ 32) → A0 q = a q := fun q h1 h2 => by rw [hA0, zup_row h1, y2 q (by omega), x2 q (by omega)]
    have L0 : SL (scN 0 a T W Q) (tgN 0 a Q T S) bl0 P Q A0 := SL_f x3 (fun q hq => by rw [hA0, zup_row (by omega), y2 q (by omega)])
    obtain ⟨A, z1, z2, z3, -⟩ := x_try (b := b) hv (fun q h1 h2 => f0 q (by omega) (by omega)) L0 (fun r hr c hc => by rw [hA0, zup_ne (by decide)]; exact y3 r hr c hc) Q 31 0 0 10 0 (fun _ => 0) (-1, fun _ => 0) A0 (Nat.zero_add _) (by omega) (Nat.two_pow_pos P) (.inr rfl) (by omega) (fun q hq => absurd hq (by omega)) ⟨fun _ _ _ _ => rfl, fun _ _ => rfl⟩ ⟨by rw [hA0, zup_eq]; rfl, by decide, fun h => absurd h (by decide)⟩
    rw [← hs'] at z3
    have fA : ∀ q, q ≠ 27 → ¬ (28 ≤ q ∧ q ≤ 32) → q ≠ 34 → A q = a q := fun q h1 h2 h3 => (z2.1 q h1 (by omega) h3).trans (f0 q h1 (by omega))
    have fA2 : A 27 10 = a 27 10 := by
      rw [z2.2 10 (by decide), hA0, zup_nj (by decide), y2 27 (by decide), x2 27 (by decide)]
    have zA1 := zmk_X fA fA2
    have eU : C_chooseUnlikeDays a1 b = okI (kI s'.1) A b := by
      rw [q_C_chooseUnlikeDays, y1, zcV_ok, ← hA0, show C_tryFrom 31 0 0 10 0 A0 b = okV A b from z1, zcV_ok, z3.1]
      exact okI_ret _ _ _
    have eX : ∀ r, r = cond (decide (kI s'.1 < 0)) (okI (-2) A b) (zcV (X_clearRow A b) (fun a4 b4 => zcV (X_tellFilling a4 b4) (fun a5 b5 => zRET (some (.int (kI s'.1))) zSH a5 b5))) → X_fresh a b = r := fun r hr => by
      rw [hr, q_X_fresh, e1, zcI_ok, zcond_f (by decide), show C_load (-2) (-1) a b = okV a1 b from x1, zcV_ok, eU, zcI_ok]
      cases decide (kI s'.1 < 0)
      · rfl
      · exact okI_ret _ _ _
    -- the reference
    have eM : ∀ Y : zA, (∀ q, 194 ≤ q → Y q = a q) → ∃ C, M_fresh Y b = cond (decide (kI s'.1 < 0)) (okI (-2) C b) (zcV (M_entersBest (mT C []) b) (fun a4 b4 => zRET (some (.int (a4 194 59))) zSH a4 b4)) ∧ RM Q s' C ∧ zmask C = zmask Y ∧ C 194 7 = nI Q := by
      intro Y hY
      have vY : vw P Q T W S a (zup Y 194 0 0) := vw_c hv (fun j hj => (zup_nj (by rintro rfl; exact kf_0 hj)).trans (congrFun (hY 194 (by decide)) j)) (fun q h1 h2 => (zup_row (by omega)).trans (hY q (by omega)))
      have v0Y : v0 (zup Y 194 0 0) := v0_u ⟨(congrFun (hY 194 (by decide)) 37).trans h0.1, (congrFun (hY 194 (by decide)) 38).trans h0.2⟩ (.inr (by decide))
      have e2 : M_isFew (zup Y 194 0 0) b = okI 1 (zup Y 194 0 0) b := by
        rw [q_M_isFew, vY.2.1.1.2, vY.2.1.2.1.2, zcond_f n1, zcond_f n2]
        exact fM 1 _ (.inr rfl)
      obtain ⟨C0, hC0⟩ : ∃ C0, C0 = zup (askM (zup Y 194 0 0) P Q T W S a) 194 59 (-1) := ⟨_, rfl⟩
      have vC0 : vw P Q T W S a C0 := by
        rw [hC0]
        exact vw_u (vw_c vY (fun j _ => by rw [askM_q (by decide)]) (fun q h1 h2 => askM_q (by omega))) (.inr ⟨rfl, by unfold kf; omega⟩)
      have mC0 := may_of (C0 := C0) vY v0Y (fun q hq => by rw [hC0, zup_row hq])
      obtain ⟨C, w1, w2, w3, -⟩ := m_try (b := b) vC0 mC0 Q 31 0 0 10 (-1) 0 (fun _ => 0) (-1, fun _ => 0) C0 (Nat.zero_add _) (by omega) (Nat.two_pow_pos P) (.inl rfl) (x3_enc (o := none) (fun w' e => absurd e (by simp))) (by omega) (fun q hq => absurd hq (by omega)) ⟨fun _ _ _ _ => rfl, fun _ _ => rfl⟩ ⟨by rw [hC0, zup_eq]; rfl, by decide, fun h => absurd h (by decide)⟩
      rw [← hs'] at w3
      refine ⟨C, ?_, w3, zmk_M (fun q h1 h2 h3 => ?_) (fun j h1 h2 => ?_), (FM_v w2 vC0).2.1.2.1.2⟩
      · rw [q_M_fresh, e2, zcI_ok, zcond_f (by decide), m_asks vY, zcV_ok, ← hC0, show M_freshens 31 0 0 (-1) 0 C0 b = okV C b from w1, zcV_ok, w3.1]
        cases decide (kI s'.1 < 0)
        · rfl
        · exact okI_ret _ _ _
      · rw [w2.1 q h1 (by omega) h3, hC0, zup_row h1, askM_q (by omega), zup_row h1]
      · rw [w2.2 j h2, hC0, zup_nj h2, askM_q (by decide), zup_nj h1]
    have sb := z3.2.1
    by_cases c3 : s'.1 < 0
    · have d3 : decide (kI s'.1 < 0) = true := decide_eq_true ((kI_lt (y := 0) (by omega) (by omega) (by decide) (by decide)).mpr c3)
      obtain ⟨C, w1, -, w3, -⟩ := eM A (fun q hq => fA q (by omega) (by omega) (by omega))
      refine ⟨-2, A, b, C, b, eX _ (by rw [d3]; rfl), fun j => congrFun (fA 0 (by decide) (by decide) (by decide)) j, ?_, P, Q, T, G, N, ?_⟩
      · rw [w1, d3]; rfl
      · rw [w3, zA1]; exact hall
    · have d3 : decide (kI s'.1 < 0) = false := decide_eq_false (fun z => c3 ((kI_lt (y := 0) (by omega) (by omega) (by decide) (by decide)).mp z))
      obtain ⟨l, hl⟩ : ∃ l, l = (List.range Q).map s'.2 := ⟨_, rfl⟩
      have ll : l.length ≤ 10 := by rw [hl, List.length_map, List.length_range]; exact g2
      obtain ⟨C, w1, w2, w3, w4⟩ := eM (xT A l) (fun q hq => (xT_q (by omega)).trans (fA q (by omega) (by omega) (by omega)))
      have tX := x_tellF (A := A) (b := b) (l := []) (g := s'.2) g2 (by decide) ((congrFun (fA 2 (by decide) (by decide) (by decide)) 1).trans q1) (z3.2.2 (by omega))
      have tM := m_tellF (C := C) (b := b) (l := []) (g := s'.2) g2 (by decide) w4 (w2.2.2 (by omega))
      rw [List.nil_append, ← hl] at tX tM
      refine ⟨kI s'.1, xT A l, b, mT C l, b, eX _ ?_, fun j => ?_, ?_, rel_tell (l := l) (a1 := xT A l) (by rw [← zA1] at hall; exact hall) (by omega) (xT_m A l) (by rw [mT_m, w3])⟩
      · rw [d3, cond_false, x_clear, zcV_ok, tX, zcV_ok]
        exact (okI_ret _ _ _).symm
      · rw [xT_q (by decide)]
        exact congrFun (fA 0 (by decide) (by decide) (by decide)) j
      · rw [w1, d3, cond_false, tM, zcV_ok, mT_j (by decide), w2.1]
        exact okI_ret _ _ _
