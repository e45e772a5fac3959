/-! The calls law and price. -/
theorem r_law {L : Nat} {xs : Nat → Int32} (x1 x2 : Int32) : zAns (Rel L xs) (X_law x1 x2) (M_law x1 x2) := by
  intro a b hr
  obtain ⟨P, Q, T, G, N, hall⟩ := id hr
  obtain ⟨W, S, hv⟩ := vw_mask hall
  have h0 := v0_of hall
  obtain ⟨⟨g1, g2, g3, g4, g5⟩, ⟨-, -, ⟨t1, t2⟩, ⟨w1, w2⟩, s1, s2⟩, -⟩ := id hv
  have hin : ∀ c, M_in x1.toInt64 0 1 c b = okI (if x1 < 0 then 0 else if 1 < x1 then 0 else 1) c b := fun c => s_in32 x1 0 1 (by decide) (by decide) c b
  have hin2 : ∀ c, M_in x2.toInt64 0 9 c b = okI (if x2 < 0 then 0 else if 9 < x2 then 0 else 1) c b := fun c => s_in32 x2 0 9 (by decide) (by decide) c b
  by_cases c1 : x1 < 0
  · refine ans_thr hr (-1) ?_ ?_
    · rw [q_X_law, zcond_t c1, q_X_law_19]; exact okI_ret _ _ _
    · rw [q_M_law, hin, if_pos c1, zcI_ok, zcond_t rfl, q_M_law_27]; exact okI_ret _ _ _
  by_cases c2 : 1 < x1
  · refine ans_thr hr (-1) ?_ ?_
    · rw [q_X_law, zcond_f c1, zcond_t c2, q_X_law_19]; exact okI_ret _ _ _
    · rw [q_M_law, hin, if_neg c1, if_pos c2, zcI_ok, zcond_t rfl, q_M_law_27]; exact okI_ret _ _ _
  by_cases c3 : x2 < 0
  · refine ans_thr hr (-1) ?_ ?_
    · rw [q_X_law, zcond_f c1, zcond_f c2, zcond_t c3, q_X_law_19]; exact okI_ret _ _ _
    · rw [q_M_law, hin, if_neg c1, if_neg c2, zcI_ok, zcond_f (by decide), hin2, if_pos c3, zcI_ok, zcond_t rfl, q_M_law_27]; exact okI_ret _ _ _
  by_cases c4 : 9 < x2
  · refine ans_thr hr (-1) ?_ ?_
    · rw [q_X_law, zcond_f c1, zcond_f c2, zcond_f c3, zcond_t c4, q_X_law_19]; exact okI_ret _ _ _
    · rw [q_M_law, hin, if_neg c1, if_neg c2, zcI_ok, zcond_f (by decide), hin2, if_neg c3, if_pos c4, zcI_ok, zcond_t rfl, q_M_law_27]; exact okI_ret _ _ _
  obtain ⟨wt, hw, rfl⟩ : ∃ wt, wt ≤ 1 ∧ x1 = nI wt := by
    obtain ⟨k, hk, -, e⟩ := s_idx (P := 2) (x := x1) ⟨c1, by
      rw [Int32.lt_iff_toInt_lt] at c2 ⊢
      rw [show (1 : Int32).toInt = 1 from rfl] at c2
      rw [show (nI 2).toInt = 2 from rfl]
      omega⟩
    exact ⟨k, by omega, e⟩
  obtain ⟨n, hn, rfl⟩ : ∃ n, n ≤ 9 ∧ x2 = nI n := by
    obtain ⟨k, hk, -, e⟩ := s_idx (P := 10) (x := x2) ⟨c3, by
      rw [Int32.lt_iff_toInt_lt] at c4 ⊢
      rw [show (9 : Int32).toInt = 9 from rfl] at c4
      rw [show (nI 10).toInt = 10 from rfl]
      omega⟩
    exact ⟨k, by omega, e⟩
  obtain ⟨old, ho, hox, how, hos⟩ : ∃ o, a 9 wt = nI o ∧ (∀ c : zA, c 194 17 = nI W → c 194 18 = nI S → cond (decide (nI wt = 0)) (c 194 17) (c 194 18) = nI o) ∧ wW wt o W = W ∧ wS wt o S = S := by
    unfold wW wS
    by_cases c0 : wt = 0
    · subst c0
      exact ⟨W, w1, fun c h _ => by rw [decide_eq_true (show nI 0 = 0 from rfl), cond_true, h], rfl, rfl⟩
    · have c0' : wt = 1 := by omega
      subst c0'
      exact ⟨S, s1, fun c _ h => by rw [decide_eq_false (show ¬ nI 1 = 0 by decide), cond_false, h], rfl, rfl⟩
  obtain ⟨A, e1, e2, e3⟩ := x_bestL (b := b) (n := n) hv (known_of hall) hw hn
  rw [ho] at e2
  obtain ⟨y, hy⟩ : ∃ y, y = kI (bstL a P Q T W S wt n) := ⟨_, rfl⟩
  rw [← hy] at e1
  obtain ⟨a', ha'⟩ : ∃ a', a' = zup a 9 wt (nI n) := ⟨_, rfl⟩
  obtain ⟨bad, hbad⟩ : ∃ bad, bad = fun d => yBad false a' Q T (wW wt n W) (wS wt n S) d := ⟨_, rfl⟩
  obtain ⟨v, hvv⟩ : ∃ v, v = fF (fun d x => x + bI (bad d)) 0 T 0 := ⟨_, rfl⟩
  have eA : zup A 9 wt (nI old) = zup A 9 wt (nI old) := rfl
  obtain ⟨B, hB⟩ : ∃ B, B = zup A 9 wt (nI old) := ⟨_, rfl⟩
  rw [← hB] at e2
  have kB : rKnown (B 27) (B 33) := by
    rw [hB]
    exact rKnown_c e3 (zup_row (by decide)) (zup_row (by decide))
  have vc := vwA (l := [y]) hv e2
  have v0c := v0A (l := [y]) h0 e2
  obtain ⟨C, hC⟩ : ∃ C, C = zup (xT B [y]) 194 0 0 := ⟨_, rfl⟩
  rw [← hC] at vc v0c
  have C17 : C 194 17 = nI W := vc.2.1.2.2.2.1.2
  have C18 : C 194 18 = nI S := vc.2.1.2.2.2.2.2
  -- the reference's law
  have eC : C = sL C (nI (wW wt old W)) (nI (wS wt old S)) := by rw [how, hos, sL_id C17 C18]
  have vl := vw_law (n := n) vc hw hn
  have v0l : v0 (sL C (nI (wW wt n W)) (nI (wS wt n S))) := ⟨(sL_j (by decide)).trans v0c.1, (sL_j (by decide)).trans v0c.2⟩
  rw [← ha'] at vl
  have v0t : v0 (mT C []) := v0_mT v0c
  obtain ⟨k2, f1, f2⟩ := m_bestL (b := b) (n := n) (vw_mT (l := []) vc) v0t hw hn
  rw [← hy] at f1
  have f3 : sL k2 (nI (wW wt n W)) (nI (wS wt n S)) = mT (sL k2 (nI (wW wt n W)) (nI (wS wt n S))) [] := by
    refine (zup_self ((sL_j (by decide)).trans ((f2.2 1 (by decide)).trans ?_))).symm
    exact zup_eq C 194 1 0
  refine ⟨v, xT B [y], b, mT k2 [y], b, ?_, fun j => ?_, ?_, rel_tell (l := [y]) (a1 := xT B [y]) (rel_frX hall e2 kB) (Nat.le_of_ble_eq_true rfl) (xT_m B _) ?_⟩
  · rw [q_X_law, zcond_f c1, zcond_f c2, zcond_f c3, zcond_f c4, zin_nI (n := 2) (by omega) (by decide), cond_true, cond_true, show (nI wt).toNatClampNeg = wt from nI_clamp (by omega), ho, ← ha', hvv]
    have hs : ∀ x i, 0 ≤ i → i < T → X_law_47 (nI wt) (nI old) x (nI i) a' b = X_law_47 (nI wt) (nI old) (x + bI (bad i)) (nI (i + 1)) a' b := by
      intro x i _ hi
      have gX : W_isGood (nI i) 0 a' b = okI (bI (!bad i)) a' b := by
        rw [hbad]
        exact v_goodX false vl (by omega)
      rw [q_X_law_47, vl.2.1.2.2.1.1, zcond_t (nI_lt hi (by omega)), gX, zcI_ok, q_X_law_75, q_X_law_75, nI_1]
      cases bad i
      · rw [zcond_f (show ¬ bI (!false) = 0 by decide), show x + bI false = x from Int32.add_zero x]
      · rw [zcond_t (show bI (!true) = 0 from rfl)]
        rfl
    refine (lpF (F := fun x i => X_law_47 (nI wt) (nI old) x (nI i) a' b) hs (K := fun x => okI x (xT B [y]) b) (fun x => ?_) T 0 0 (Nat.le_refl _) (Nat.zero_add _))
    show X_law_47 (nI wt) (nI old) x (nI T) a' b = _
    rw [q_X_law_47, vl.2.1.2.2.1.1, zcond_f (nI_nlt (Nat.le_refl _) (by omega)), ha', e1, zcI_ok, zin_nI (n := 2) (by omega) (by decide), cond_true, show (nI wt).toNatClampNeg = wt from nI_clamp (by omega), ← hB, x_clear, zcV_ok, x_tell (l := []) (by decide), zcV_ok]
    exact okI_ret _ _ _
  · rw [xT_q (by decide), e2.1 0 (by decide) (by decide)]
  · rw [q_M_law, hin, if_neg c1, if_neg c2, zcI_ok, zcond_f (by decide), hin2, if_neg c3, if_neg c4, zcI_ok, zcond_f (by decide), ← hC]
    have h44 : cond (decide (nI wt = 0)) (M_law_44 (nI wt) (nI n) (C 194 17) C b) (M_law_44 (nI wt) (nI n) (C 194 18) C b) = M_law_44 (nI wt) (nI n) (nI old) C b := by
      rw [← hox C C17 C18]
      cases decide (nI wt = 0) <;> rfl
    have hset : M_setsLaw (nI wt) (nI n) C b = okV (sL C (nI (wW wt n W)) (nI (wS wt n S))) b := by
      have := m_setL (W := W) (S := S) (n := old) (n' := n) (c := C) (b := b) hw
      rw [← eC] at this
      exact this
    rw [h44, q_M_law_44, hset, zcV_ok, hvv]
    have hs : ∀ x i, 0 ≤ i → i < T → M_law_57 (nI wt) (nI old) x (nI i) (sL C (nI (wW wt n W)) (nI (wS wt n S))) b = M_law_57 (nI wt) (nI old) (x + bI (bad i)) (nI (i + 1)) (sL C (nI (wW wt n W)) (nI (wS wt n S))) b := by
      intro x i _ hi
      have gM : M_mayAll (nI i) (sL C (nI (wW wt n W)) (nI (wS wt n S))) b = okI (bI (!bad i)) (sL C (nI (wW wt n W)) (nI (wS wt n S))) b := by
        rw [hbad]
        exact v_allM vl v0l hi
      rw [q_M_law_57, vl.2.1.2.2.1.2, zcond_t (nI_lt hi (by omega)), gM, zcI_ok]
      cases bad i
      · rw [zcond_f (show ¬ bI (!false) = 0 by decide), q_M_law_82, show (0 : Int32) = bI false from rfl, m_flag, zcI_ok, nI_1]
      · rw [zcond_t (show bI (!true) = 0 from rfl), q_M_law_82, show M_flag 1 = M_flag (bI true) from rfl, m_flag, zcI_ok, nI_1]
    refine (lpF (F := fun x i => M_law_57 (nI wt) (nI old) x (nI i) (sL C (nI (wW wt n W)) (nI (wS wt n S))) b) hs (K := fun x => okI x (mT k2 [y]) b) (fun x => ?_) T 0 0 (Nat.le_refl _) (Nat.zero_add _))
    show M_law_57 (nI wt) (nI old) x (nI T) _ b = _
    rw [q_M_law_57, vl.2.1.2.2.1.2, zcond_f (nI_nlt (Nat.le_refl _) (by omega)), mT_0, ← sL_mT, f1, zcI_ok, f3, m_ent (l := []) (by decide), zcV_ok, ← sL_mT, m_setL hw, zcV_ok, how, hos, sL_mT, sL_id ((f2.2 17 (by decide)).trans ((mT_j (by decide)).trans C17)) ((f2.2 18 (by decide)).trans ((mT_j (by decide)).trans C18))]
    exact okI_ret _ _ _
  · rw [mT_m, frM_m f2, mT_m, hC, zmask_f rfl]
    unfold mT
    rw [show mList 0 [] (zup (zmask (xT B [y])) 194 1 0) = zup (zmask (xT B [y])) 194 1 0 from rfl, zup_up]
theorem x_with {P Q T W S wt n : Nat} {a c : zA} {b : zB} (h : vw P Q T W S a c) (hk : rKnown (a 27) (a 33)) (hw : wt ≤ 1) (hn : n ≤ 9) : ∃ A, X_worthWith (nI wt) (nI n) a b = okI (kI (bstL a P Q T W S wt n)) A b ∧ frX A a ∧ rKnown (A 27) (A 33) := by
  obtain ⟨A, e1, e2, e3⟩ := x_bestL (b := b) (n := n) h hk hw hn
  refine ⟨zup A 9 wt (a 9 wt), ?_, e2, rKnown_c e3 (zup_row (by decide)) (zup_row (by decide))⟩
  rw [q_X_worthWith, zin_nI (n := 2) (by omega) (by decide), cond_true, cond_true, show (nI wt).toNatClampNeg = wt from nI_clamp (by omega), e1, zcI_ok, cond_true]
  exact okI_ret _ _ _
theorem bstL_s {a a' : zA} {P Q T W S wt n : Nat} (h : sameX a' a) : bstL a' P Q T W S wt n = bstL a P Q T W S wt n := by
  unfold bstL
  rw [bstV_s (a' := zup a' 9 wt (nI n)) (a := zup a 9 wt (nI n)) (fun q h1 h2 => by
    by_cases c : q = 9
    · subst c
      funext j
      unfold zup
      by_cases c2 : j = wt
      · rw [if_pos ⟨rfl, c2⟩, if_pos ⟨rfl, c2⟩]
      · rw [if_neg (fun z => c2 z.2), if_neg (fun z => c2 z.2), h 9 (by decide) (by decide)]
    · rw [zup_row c, zup_row c, h q h1 h2])]
/-- the greatest that keeps it -/
def lst (f : Nat → Bool) : Nat → Nat
  | 0 => 0
  | n + 1 => cond (f (n + 1)) (n + 1) (lst f n)
theorem lst_le {f : Nat → Bool} : ∀ n, lst f n ≤ n
  | 0 => Nat.le_refl _
  | n + 1 => by
    show cond (f (n + 1)) (n + 1) (lst f n) ≤ n + 1
    have := lst_le (f := f) n
    cases f (n + 1)
    · show lst f n ≤ n + 1; omega
    · exact Nat.le_refl _
theorem r_price {L : Nat} {xs : Nat → Int32} (x1 : Int32) : zAns (Rel L xs) (X_price x1) (M_price x1) := by
  intro a b hr
  obtain ⟨P, Q, T, G, N, hall⟩ := id hr
  obtain ⟨W, S, hv⟩ := vw_mask hall
  have h0 := v0_of hall
  obtain ⟨⟨g1, g2, g3, g4, g5⟩, ⟨-, -, ⟨t1, t2⟩, ⟨w1, w2⟩, s1, s2⟩, -⟩ := id hv
  have hin : ∀ c, M_in x1.toInt64 0 1 c b = okI (if x1 < 0 then 0 else if 1 < x1 then 0 else 1) c b := fun c => s_in32 x1 0 1 (by decide) (by decide) c b
  by_cases c1 : x1 < 0
  · refine ans_thr hr (-1) ?_ ?_
    · rw [q_X_price, zcond_t c1, q_X_price_9]; exact okI_ret _ _ _
    · rw [q_M_price, hin, if_pos c1, zcI_ok, zcond_t rfl]; exact okI_ret _ _ _
  by_cases c2 : 1 < x1
  · refine ans_thr hr (-1) ?_ ?_
    · rw [q_X_price, zcond_f c1, zcond_t c2, q_X_price_9]; exact okI_ret _ _ _
    · rw [q_M_price, hin, if_neg c1, if_pos c2, zcI_ok, zcond_t rfl]; exact okI_ret _ _ _
  obtain ⟨wt, hw, rfl⟩ : ∃ wt, wt ≤ 1 ∧ x1 = nI wt := by
    obtain ⟨k, hk, -, e⟩ := s_idx (P := 2) (x := x1) ⟨c1, by
      rw [Int32.lt_iff_toInt_lt] at c2 ⊢
      rw [show (1 : Int32).toInt = 1 from rfl] at c2
      rw [show (nI 2).toInt = 2 from rfl]
      omega⟩
    exact ⟨k, by omega, e⟩
  obtain ⟨old, hox, how, hos⟩ : ∃ o, (∀ c : zA, c 194 17 = nI W → c 194 18 = nI S → cond (decide (nI wt = 0)) (c 194 17) (c 194 18) = nI o) ∧ wW wt o W = W ∧ wS wt o S = S := by
    unfold wW wS
    by_cases c0 : wt = 0
    · subst c0
      exact ⟨W, fun c h _ => by rw [decide_eq_true (show nI 0 = 0 from rfl), cond_true, h], rfl, rfl⟩
    · have c0' : wt = 1 := by omega
      subst c0'
      exact ⟨S, fun c _ h => by rw [decide_eq_false (show ¬ nI 1 = 0 by decide), cond_false, h], rfl, rfl⟩
  obtain ⟨V, hV⟩ : ∃ V : Nat → Int32, V = fun n => kI (bstL a P Q T W S wt n) := ⟨_, rfl⟩
  obtain ⟨f, hf⟩ : ∃ f : Nat → Bool, f = fun n => decide (V n = V 0) := ⟨_, rfl⟩
  have withX : ∀ A n, n ≤ 9 → frX A a → rKnown (A 27) (A 33) → ∃ A', X_worthWith (nI wt) (nI n) A b = okI (V n) A' b ∧ frX A' a ∧ rKnown (A' 27) (A' 33) := by
    intro A n hn f1 f2
    obtain ⟨A', e1, e2, e3⟩ := x_with (b := b) (n := n) (vw_s hv (frX_s f1)) f2 hw hn
    rw [bstL_s (frX_s f1)] at e1
    exact ⟨A', by rw [hV]; exact e1, frX_t e2 f1, e3⟩
  have down : ∀ n, n ≤ 9 → ∀ A, frX A a → rKnown (A 27) (A 33) → ∃ A', X_price_21 (nI wt) (V 0) (nI n) A b = X_price_41 (V 0) (nI (lst f n)) A' b ∧ frX A' a ∧ rKnown (A' 27) (A' 33) := by
    intro n
    induction n with
    | zero =>
      intro _ A f1 f2
      exact ⟨A, by rw [q_X_price_21, zcond_f (show ¬ (0 : Int32) < nI 0 by decide)]; rfl, f1, f2⟩
    | succ n ih =>
      intro hn A f1 f2
      obtain ⟨A', e1, e2, e3⟩ := withX A (n + 1) hn f1 f2
      have e0 : X_price_21 (nI wt) (V 0) (nI (n + 1)) A b = cond (f (n + 1)) (X_price_41 (V 0) (nI (n + 1)) A' b) (X_price_21 (nI wt) (V 0) (nI n) A' b) := by
        rw [q_X_price_21, zcond_t (show (0 : Int32) < nI (n + 1) from nI_lt (a := 0) (by omega) (by omega)), e1, zcI_ok, hf, show nI (n + 1) + (-1) = nI n from by
          rw [← nI_1 n, Int32.add_assoc]
          exact Int32.add_zero _]
      rw [e0]
      show ∃ A'', _ = X_price_41 (V 0) (nI (cond (f (n + 1)) (n + 1) (lst f n))) A'' b ∧ _
      cases f (n + 1)
      · exact ih (by omega) A' e2 e3
      · exact ⟨A', rfl, e2, e3⟩
  obtain ⟨A0, z1, z2, z3⟩ := withX a 0 (by decide) (frX_r a) (known_of hall)
  obtain ⟨B, y1, y2, y3⟩ := down 9 (by decide) A0 z2 z3
  have vc := vwA (l := [V 0]) hv y2
  have v0c := v0A (l := [V 0]) h0 y2
  obtain ⟨C, hC⟩ : ∃ C, C = zup (xT B [V 0]) 194 0 0 := ⟨_, rfl⟩
  rw [← hC] at vc v0c
  have C17 : C 194 17 = nI W := vc.2.1.2.2.2.1.2
  have C18 : C 194 18 = nI S := vc.2.1.2.2.2.2.2
  have eC : C = sL C (nI (wW wt old W)) (nI (wS wt old S)) := by rw [how, hos, sL_id C17 C18]
  have withM : ∀ K n, n ≤ 9 → frM K C → ∃ K', M_bests 0 (sL K (nI (wW wt n W)) (nI (wS wt n S))) b = okI (V n) (sL K' (nI (wW wt n W)) (nI (wS wt n S))) b ∧ frM K' C := by
    intro K n hn f1
    obtain ⟨K', e1, e2⟩ := m_bestL (b := b) (n := n) (frM_v f1 vc) (v0_fr v0c f1) hw hn
    exact ⟨K', by rw [hV]; exact e1, frM_t e2 f1⟩
  have up : ∀ n, n ≤ 9 → ∃ K, frM K C ∧ M_price (nI wt) (xT B [V 0]) b = M_price_51 (nI wt) (nI old) (V 0) (nI (lst f n)) (nI (n + 1)) (sL K (nI (wW wt n W)) (nI (wS wt n S))) b := by
    intro n
    induction n with
    | zero =>
      intro _
      obtain ⟨K', e1, e2⟩ := withM C 0 (by decide) ⟨fun _ _ _ => rfl, fun _ _ => rfl⟩
      refine ⟨K', e2, ?_⟩
      have h32 : cond (decide (nI wt = 0)) (M_price_32 (nI wt) (C 194 17) C b) (M_price_32 (nI wt) (C 194 18) C b) = M_price_32 (nI wt) (nI old) C b := by
        rw [← hox C C17 C18]
        cases decide (nI wt = 0) <;> rfl
      have hset : M_setsLaw (nI wt) 0 C b = okV (sL C (nI (wW wt 0 W)) (nI (wS wt 0 S))) b := by
        have := m_setL (W := W) (S := S) (n := old) (n' := 0) (c := C) (b := b) hw
        rw [← eC] at this
        exact this
      rw [q_M_price, hin, if_neg c1, if_neg c2, zcI_ok, zcond_f (by decide), ← hC, h32, q_M_price_32, hset, zcV_ok, e1, zcI_ok]
      rfl
    | succ n ih =>
      intro hn
      obtain ⟨K, e1, e2⟩ := ih (by omega)
      obtain ⟨K', e3, e4⟩ := withM K (n + 1) hn e1
      refine ⟨K', e4, ?_⟩
      rw [e2, q_M_price_51, zcond_f (show ¬ (9 : Int32) < nI (n + 1) from nI_nlt (a := 9) (by omega) (by decide)), m_setL hw, zcV_ok, e3, zcI_ok, q_M_price_81, q_M_price_81, nI_1]
      show cond (decide (V (n + 1) = V 0)) _ _ = M_price_51 (nI wt) (nI old) (V 0) (nI (cond (f (n + 1)) (n + 1) (lst f n))) (nI (n + 1 + 1)) _ b
      rw [show f (n + 1) = decide (V (n + 1) = V 0) from by rw [hf]]
      cases decide (V (n + 1) = V 0) <;> rfl
  obtain ⟨K, k1, k2⟩ := up 9 (by decide)
  refine ⟨nI (lst f 9), xT B [V 0], b, mT K [V 0], b, ?_, fun j => ?_, ?_, rel_tell (l := [V 0]) (a1 := xT B [V 0]) (rel_frX hall y2 y3) (Nat.le_of_ble_eq_true rfl) (xT_m B _) ?_⟩
  · rw [q_X_price, zcond_f c1, zcond_f c2, show (0 : Int32) = nI 0 from rfl, z1, zcI_ok]
    refine Eq.trans y1 ?_
    rw [q_X_price_41, x_clear, zcV_ok, x_tell (l := []) (by decide), zcV_ok]
    exact okI_ret _ _ _
  · rw [xT_q (by decide), y2.1 0 (by decide) (by decide)]
  · rw [k2, q_M_price_51, zcond_t (show (9 : Int32) < nI (9 + 1) by decide), m_setL hw, zcV_ok, how, hos, sL_id ((k1.2 17 (by decide)).trans C17) ((k1.2 18 (by decide)).trans C18), mT_0, m_ent (l := []) (by decide), zcV_ok]
    exact okI_ret _ _ _
  · rw [mT_m, frM_m k1, hC, zmask_f rfl]
