/-! best, fill, free, worth. -/
theorem x_tellF {Q : Nat} {A : zA} {b : zB} {g : Nat → Int32} {l : List Int32} (hQ : Q ≤ 10) (hl : l.length ≤ 20) (hq : A 2 1 = nI Q) (hg : ∀ q, q < Q → A 28 q = g q) : X_tellFilling (xT A l) b = okV (xT A (l ++ (List.range Q).map g)) b := by
  have hs : ∀ i, i < Q → X_tellFilling_2 (nI i) (xT A (l ++ (List.range i).map g)) b = X_tellFilling_2 (nI (i + 1)) (xT A (l ++ (List.range (i + 1)).map g)) b := by
    intro i hi
    have e1 : xT A (l ++ (List.range i).map g) 28 i = g i := (congrFun (xT_q (by decide)) i).trans (hg i hi)
    have e2 := x_tell (l := l ++ (List.range i).map g) (by rw [List.length_append, List.length_map, List.length_range]; omega) (g i) A b
    rw [List.append_assoc, show (List.range i).map g ++ [g i] = (List.range (i + 1)).map g from by rw [List.range_succ, List.map_append]; rfl] at e2
    rw [q_X_tellFilling_2, show xT A (l ++ (List.range i).map g) 2 1 = nI Q from (congrFun (xT_q (by decide)) 1).trans hq, zcond_t (nI_lt hi (by omega)), zin_nI (n := 10) (by omega) (by decide), cond_true, show (nI i).toNatClampNeg = i from nI_clamp (by omega), e1, e2, zcV_ok, nI_1]
  have h := lpC (F := fun i => X_tellFilling_2 (nI i) (xT A (l ++ (List.range i).map g)) b) hs Q 0 (Nat.zero_add _)
  rw [show (List.range 0).map g = [] from rfl, List.append_nil] at h
  rw [q_X_tellFilling]
  refine Eq.trans h ?_
  rw [q_X_tellFilling_2, show xT A (l ++ (List.range Q).map g) 2 1 = nI Q from (congrFun (xT_q (by decide)) 1).trans hq, zcond_f (nI_nlt (Nat.le_refl _) (by omega))]
  exact okV_ret _ _
theorem m_tellF {Q : Nat} {C : zA} {b : zB} {g : Nat → Int32} {l : List Int32} (hQ : Q ≤ 10) (hl : l.length ≤ 20) (hq : C 194 7 = nI Q) (hg : ∀ q, q < Q → C 220 q = g q) : M_entersBest (mT C l) b = okV (mT C (l ++ (List.range Q).map g)) b := by
  have hs : ∀ i, i < Q → M_entersBest_2 (nI i) (mT C (l ++ (List.range i).map g)) b = M_entersBest_2 (nI (i + 1)) (mT C (l ++ (List.range (i + 1)).map g)) b := by
    intro i hi
    have e1 : mT C (l ++ (List.range i).map g) 220 i = g i := (congrFun (mT_q (by decide)) i).trans (hg i hi)
    have e2 := m_ent (l := l ++ (List.range i).map g) (by rw [List.length_append, List.length_map, List.length_range]; omega) (g i) C b
    rw [List.append_assoc, show (List.range i).map g ++ [g i] = (List.range (i + 1)).map g from by rw [List.range_succ, List.map_append]; rfl] at e2
    rw [q_M_entersBest_2, show mT C (l ++ (List.range i).map g) 194 7 = nI Q from (mT_j (by decide)).trans hq, zcond_t (nI_lt hi (by omega)), zin_nI (n := 10) (by omega) (by decide), cond_true, show (nI i).toNatClampNeg = i from nI_clamp (by omega), e1, e2, zcV_ok, nI_1]
  have h := lpC (F := fun i => M_entersBest_2 (nI i) (mT C (l ++ (List.range i).map g)) b) hs Q 0 (Nat.zero_add _)
  rw [show (List.range 0).map g = [] from rfl, List.append_nil] at h
  rw [q_M_entersBest]
  refine Eq.trans h ?_
  rw [q_M_entersBest_2, show mT C (l ++ (List.range Q).map g) 194 7 = nI Q from (mT_j (by decide)).trans hq, zcond_f (nI_nlt (Nat.le_refl _) (by omega))]
  exact okV_ret _ _
theorem vwA {P Q T W S : Nat} {a A : zA} {l : List Int32} (hv : vw P Q T W S a a) (f : frX A a) : vw P Q T W S a (zup (xT A l) 194 0 0) := vw_c hv (fun j hj => (zup_nj (by rintro rfl; exact kf_0 hj)).trans ((congrFun (xT_q (by decide)) j).trans (congrFun (f.1 194 (by decide) (by decide)) j))) (fun q h1 h2 => (zup_row (by omega)).trans ((xT_q (by omega)).trans (f.1 q (by omega) (by omega))))
theorem v0A {a A : zA} {l : List Int32} (h0 : v0 a) (f : frX A a) : v0 (zup (xT A l) 194 0 0) := v0_u ⟨(congrFun (xT_q (by decide)) 37).trans ((congrFun (f.1 194 (by decide) (by decide)) 37).trans h0.1), (congrFun (xT_q (by decide)) 38).trans ((congrFun (f.1 194 (by decide) (by decide)) 38).trans h0.2)⟩ (.inr (by decide))
theorem known_of {L : Nat} {xs : Nat → Int32} {P Q T G N : Nat} {a : zA} (h : rAll L xs P Q T G N (zmask a)) : rKnown (a 27) (a 33) := by
  obtain ⟨-, -, -, -, -, -, -, -, -, -, ⟨s, s1, s2, s3⟩, -⟩ := h
  exact ⟨s, s1, s2, s3⟩
theorem r_best {L : Nat} {xs : Nat → Int32} : zAns (Rel L xs) X_best M_best := by
  intro a b hr
  obtain ⟨P, Q, T, G, N, hall⟩ := id hr
  obtain ⟨W, S, hv⟩ := vw_mask hall
  have h0 := v0_of hall
  have hQ := hv.1.2.1
  obtain ⟨a1, A, e1, e2, e3, e4, e5⟩ := x_choW (b := b) hv (known_of hall)
  obtain ⟨l, hl⟩ : ∃ l, l = (List.range Q).map (fun q => encW (bstF 0 a P Q T W S q)) := ⟨_, rfl⟩
  have ll : l.length ≤ 10 := by rw [hl, List.length_map, List.length_range]; exact hQ
  have vc := vwA (l := l) hv e3
  have v0c := v0A (l := l) h0 e3
  obtain ⟨c', f1, f2, f3⟩ := m_bests (b := b) vc v0c.1
  rw [v0c.2] at f1 f3
  have tX := x_tellF (A := A) (b := b) (l := []) hQ (by decide) ((congrFun (e3.1 2 (by decide) (by decide)) 1).trans hv.2.1.2.1.1) e5
  have tM := m_tellF (C := c') (b := b) (l := []) hQ (by decide) ((f2.2 7 (by decide)).trans vc.2.1.2.1.2) f3
  rw [List.nil_append, ← hl] at tX tM
  refine ⟨kI (bstV 0 a P Q T W S), xT A l, b, mT c' l, b, ?_, fun j => ?_, ?_, rel_tell (l := l) (a1 := xT A l) (rel_frX hall e3 e4) (by omega) (xT_m A l) ?_⟩
  · rw [q_X_best, e1, zcV_ok, e2, zcI_ok, x_clear, zcV_ok, tX, zcV_ok]
    exact okI_ret _ _ _
  · rw [xT_q (by decide), e3.1 0 (by decide) (by decide)]
  · rw [q_M_best, f1, zcI_ok, mT_0, tM, zcV_ok]
    exact okI_ret _ _ _
  · rw [mT_m, frM_m f2, zmask_f rfl]
/-- a filling takes nobody twice -/
theorem filO_u {sc tg : Nat → Nat → Option Int} {bl : Nat → Int} {P : Nat} : ∀ k p u l q w, filO sc tg bl P k p u l q = some w → w < P ∧ Nat.testBit u w = false ∧ p ≤ q ∧ q < p + k
  | 0, _, _, _, _, _, h => absurd h (by simp [filO])
  | k + 1, p, u, l, q, w, h => by
    have h : (if q = p then chO sc tg bl P k p u l else filO sc tg bl P k (p + 1) (usO u (chO sc tg bl P k p u l)) (laO (chO sc tg bl P k p u l)) q) = some w := h
    by_cases c : q = p
    · rw [if_pos c] at h
      obtain ⟨h1, h2, -⟩ := chO_some h
      exact ⟨h1, h2, by omega, by omega⟩
    · rw [if_neg c] at h
      obtain ⟨h1, h2, h3, h4⟩ := filO_u k (p + 1) _ _ q w h
      refine ⟨h1, ?_, by omega, by omega⟩
      cases hc : chO sc tg bl P k p u l with
      | none => rw [hc] at h2; exact h2
      | some w0 =>
        rw [hc] at h2
        have h2 : Nat.testBit (u ||| 2 ^ w0) w = false := h2
        rw [tb_or, Bool.or_eq_false_iff] at h2
        exact h2.1
theorem filO_d {sc tg : Nat → Nat → Option Int} {bl : Nat → Int} {P : Nat} : ∀ k p u l q q' w, q ≠ q' → filO sc tg bl P k p u l q = some w → filO sc tg bl P k p u l q' = some w → False
  | 0, _, _, _, _, _, _, _, h, _ => absurd h (by simp [filO])
  | k + 1, p, u, l, q, q', w, hne, h, h' => by
    have h : (if q = p then chO sc tg bl P k p u l else filO sc tg bl P k (p + 1) (usO u (chO sc tg bl P k p u l)) (laO (chO sc tg bl P k p u l)) q) = some w := h
    have h' : (if q' = p then chO sc tg bl P k p u l else filO sc tg bl P k (p + 1) (usO u (chO sc tg bl P k p u l)) (laO (chO sc tg bl P k p u l)) q') = some w := h'
    have key : ∀ r, chO sc tg bl P k p u l = some w → filO sc tg bl P k (p + 1) (usO u (chO sc tg bl P k p u l)) (laO (chO sc tg bl P k p u l)) r = some w → False := fun r h1 h2 => by
      obtain ⟨_, h3, _⟩ := filO_u k (p + 1) _ _ r w h2
      rw [h1] at h3
      have h3 : Nat.testBit (u ||| 2 ^ w) w = false := h3
      rw [tb_or, decide_eq_true rfl, Bool.or_true] at h3
      exact absurd h3 (by decide)
    by_cases c : q = p
    · rw [if_pos c] at h
      rw [if_neg (by omega)] at h'
      exact key q' h h'
    · rw [if_neg c] at h
      by_cases c2 : q' = p
      · rw [if_pos c2] at h'
        exact key q h' h
      · rw [if_neg c2] at h'
        exact filO_d k (p + 1) _ _ q q' w hne h h'
theorem filO_row {sc tg : Nat → Nat → Option Int} {bl : Nat → Int} {P Q : Nat} {g : Nat → Int32} (hP : P ≤ 10) (hg : ∀ q, q < Q → g q = encW (filO sc tg bl P Q 0 0 10 q)) (hn : ∀ q, Q ≤ q → q < 10 → g q = -1) : rowOk P Q g := by
  refine ⟨fun q hq => ?_, fun q q' h1 h2 h3 h4 => ?_, hn⟩
  · rw [hg q hq]
    cases hc : filO sc tg bl P Q 0 0 10 q with
    | none => exact .inl rfl
    | some w => exact .inr ⟨w, (filO_u Q 0 0 10 q w hc).1, rfl⟩
  · rw [hg q h1, hg q' h2] at h4
    rw [hg q h1]
    cases hc : filO sc tg bl P Q 0 0 10 q with
    | none => rfl
    | some w =>
      exfalso
      have hw := (filO_u Q 0 0 10 q w hc).1
      rw [hc] at h4
      cases hc' : filO sc tg bl P Q 0 0 10 q' with
      | none => rw [hc'] at h4; exact nI_m1 (by omega) h4
      | some w' =>
        have hw' := (filO_u Q 0 0 10 q' w' hc').1
        rw [hc'] at h4
        have : w = w' := (nI_eq (by omega) (by omega)).mp h4
        subst this
        exact filO_d Q 0 0 10 q q' w h3 hc hc'
/-- the draft filled by both, in two memories -/
theorem fill_go {L : Nat} {xs : Nat → Int32} {P Q T G N : Nat} {a c : zA} {b b' : zB} (h : rAll L xs P Q T G N (zmask (cmb a c))) : ∃ v a' c', X_fillDraft a b = okI v a' b ∧ M_fills c b' = okI v c' b' ∧ rAll L xs P Q T G N (zmask (cmb a' c')) ∧ (∀ q, q ≠ 13 → q ≠ 27 → ¬ (28 ≤ q ∧ q ≤ 33) → a' q = a q) ∧ (∀ q, q ≠ 194 → q ≠ 206 → ¬ (217 ≤ q ∧ q ≤ 220) → c' q = c q) ∧ ∀ j, j ≠ 44 → c' 194 j = c 194 j := by
  obtain ⟨W, S, hv⟩ := pr_vw h
  have kk : rKnown (a 27) (a 33) := by
    have := known_of h
    rw [cmb_a (by decide), cmb_a (by decide)] at this
    exact this
  have hi : v0 c := by
    have := v0_of h
    unfold v0 at this
    rw [cmb_c (by decide)] at this
    exact this
  obtain ⟨g1, g2, g3, g4, g5⟩ := hv.1
  have hR := vw_row hv T (Nat.le_refl T)
  obtain ⟨⟨p1, p2⟩, ⟨q1, q2⟩, ⟨t1, t2⟩, -⟩ := hv.2.1
  obtain ⟨a1, A, e1, e2, e3, e4, e5⟩ := x_choW (b := b) hv kk
  obtain ⟨c1, f1, f2, f3⟩ := m_bests (b := b') hv hi.1
  rw [hi.2] at f1 f3
  obtain ⟨g, hg⟩ : ∃ g : Nat → Int32, g = fun q => if q < Q then encW (bstF 0 a P Q T W S q) else -1 := ⟨_, rfl⟩
  have hg1 : ∀ q, q < Q → g q = encW (bstF 0 a P Q T W S q) := fun q hq => by rw [hg]; exact if_pos hq
  have hg2 : ∀ q, Q ≤ q → q < 10 → g q = -1 := fun q h1 _ => by rw [hg]; exact if_neg (by omega)
  have hrow : rowOk P Q g := filO_row g1 hg1 hg2
  have A12 : A 12 6 = nI T := (congrFun (e3.1 12 (by decide) (by decide)) 6).trans t1
  have sX : ∀ i, i < Q → X_fillDraft_20 (kI (bstV 0 a P Q T W S)) (nI i) (zfo A 13 (10 * T) 10 (fun k => if k < i then g k else A 13 (10 * T + k))) b = X_fillDraft_20 (kI (bstV 0 a P Q T W S)) (nI (i + 1)) (zfo A 13 (10 * T) 10 (fun k => if k < i + 1 then g k else A 13 (10 * T + k))) b := by
    intro i hi
    rw [q_X_fillDraft_20, show zfo A 13 (10 * T) 10 (fun k => if k < i then g k else A 13 (10 * T + k)) 2 1 = nI Q from (congrFun (zfo_q (by decide)) 1).trans ((congrFun (e3.1 2 (by decide) (by decide)) 1).trans q1), zcond_t (nI_lt hi (by omega)), zin_nI (n := 10) (by omega) (by decide), cond_true, show (nI i).toNatClampNeg = i from nI_clamp (by omega), zfo_q (by decide), e5 i hi, ← hg1 i hi, x_putD g3 (by omega) A12, zcV_ok, nI_1]
    refine congrArg (fun m => X_fillDraft_20 (kI (bstV 0 a P Q T W S)) (nI (i + 1)) m b) (zfo_c fun k hk => ?_)
    by_cases c : k = i
    · rw [if_pos c, if_pos (by omega), c]
    · rw [if_neg c]
      by_cases c2 : k < i
      · rw [if_pos c2, if_pos (by omega)]
      · rw [if_neg c2, if_neg (by omega)]
  have lX := lpC (F := fun i => X_fillDraft_20 (kI (bstV 0 a P Q T W S)) (nI i) (zfo A 13 (10 * T) 10 (fun k => if k < i then g k else A 13 (10 * T + k))) b) sX Q 0 (Nat.zero_add _)
  rw [show zfo A 13 (10 * T) 10 (fun k => if k < 0 then g k else A 13 (10 * T + k)) = A from (zfo_c fun k _ => if_neg (Nat.not_lt_zero k)).trans (zfo_id A 13 (10 * T) 10), show zfo A 13 (10 * T) 10 (fun k => if k < Q then g k else A 13 (10 * T + k)) = zfo A 13 (10 * T) 10 g from zfo_c fun k hk => by
    by_cases c : k < Q
    · rw [if_pos c]
    · rw [if_neg c, hg2 k (by omega) hk, e3.1 13 (by decide) (by decide)]
      exact hR.2.2 k (by omega) hk] at lX
  have sM : ∀ i, i < Q → M_fills_8 (kI (bstV 0 a P Q T W S)) (nI i) (zfo c1 206 630 i g) b' = M_fills_8 (kI (bstV 0 a P Q T W S)) (nI (i + 1)) (zfo c1 206 630 (i + 1) g) b' := by
    intro i hi
    have e6 : zfo c1 206 630 i g 220 i = g i := (congrFun (zfo_q (by decide)) i).trans ((f3 i hi).trans (hg1 i hi).symm)
    rw [q_M_fills_8, show zfo c1 206 630 i g 194 7 = nI Q from (congrFun (zfo_q (by decide)) 7).trans ((f2.2 7 (by decide)).trans q2), ← zfo_s]
    simp (disch := omega) only [zqA0, zqB0, zqC0, zqD0, zqE0, zqF0, zqG0, zqH0, zqA1, zqB1, zqC1, zqD1, zqE1, zqF1, zqG1, zqH1, zqA2, zqB2, zqC2, zqD2, zqE2, zqF2, zqG2, zqH2, zqA3, zqB3, zqC3, zqD3, zqE3, zqF3, zqG3, zqH3, zqA4, zqB4, zqC4, zqD4, zqE4, zqF4, zqG4, zqH4, zqA5, zqB5, zqC5, zqD5, zqE5, zqF5, zqG5, zqH5, zqA6, zqB6, zqC6, zqD6, zqE6, zqF6, zqG6, zqH6, zqA8, zqB8, zqC8, zqD8, zqE8, zqF8, zqG8, zqH8, zqA9, zqB9, zqC9, zqD9, zqE9, zqF9, zqG9, zqH9, zqA10, zqB10, zqC10, zqD10, zqE10, zqF10, zqG10, zqH10, zqA11, zqB11, zqC11, zqD11, zqE11, zqF11, zqG11, zqH11, zqA16, zqB16, zqC16, zqD16, zqE16, zqF16, zqG16, zqH16, zqA18, zqB18, zqC18, zqD18, zqE18, zqF18, zqG18, zqH18, zqA20, zqB20, zqC20, zqD20, zqE20, zqF20, zqG20, zqH20, zqA60, zqB60, zqC60, zqD60, zqE60, zqF60, zqG60, zqH60, zqA63, zqB63, zqC63, zqD63, zqE63, zqF63, zqG63, zqH63, zqA80, zqB80, zqC80, zqD80, zqE80, zqF80, zqG80, zqH80, zqA100, zqB100, zqC100, zqD100, zqE100, zqF100, zqG100, zqH100, zqA120, zqB120, zqC120, zqD120, zqE120, zqF120, zqG120, zqH120, zqA630, zqB630, zqC630, zqD630, zqE630, zqF630, zqG630, zqH630, zqA1000, zqB1000, zqC1000, zqD1000, zqE1000, zqF1000, zqG1000, zqH1000, zqA1010, zqB1010, zqC1010, zqD1010, zqE1010, zqF1010, zqG1010, zqH1010, zqA5000, zqB5000, zqC5000, zqD5000, zqE5000, zqF5000, zqG5000, zqH5000, zz_p01, zz_p02, zz_p03, zz_p04, zz_p05, zz_p06, zz_p10, zz_p12, zz_p13, zz_p14, zz_p15, zz_p16, zz_p20, zz_p21, zz_p23, zz_p24, zz_p25, zz_p26, zz_p30, zz_p31, zz_p32, zz_p34, zz_p35, zz_p36, zz_p40, zz_p41, zz_p42, zz_p43, zz_p45, zz_p46, zz_p50, zz_p51, zz_p52, zz_p53, zz_p54, zz_p56, zz_p60, zz_p61, zz_p62, zz_p63, zz_p64, zz_p65, zz_q1, zz_w1, zz_q2, zz_w2, zz_q3, zz_w3, zz_q4, zz_w4, zz_q5, zz_w5, zz_q6, zz_w6, zz_w0, zz_m1, zz_lt, zz_01, zz_le, zz_eq, zz_n1, zz_in, zz_cl, zz_max, zz_min, zz_minN, zz_maxN, zz_02, zz_12, zz_c0, zz_c1, zz_b0, zz_b1, zz_bb, zz_d00, zz_d10, zz_neg, nI_add, pk_mul, zc_b0, zc_b1, cond_true, cond_false, zcI_ok, zcV_ok, okI_ret, okV_ret, zz_sub, zcond_t, zcond_f, bI_t, bI_f, eq_self, decide_true, decide_false, Bool.false_or, Bool.true_or, Bool.or_false, Bool.or_true, Bool.and_true, Bool.true_and, Bool.and_false, Bool.false_and, Bool.not_true, Bool.not_false, if_true, if_false, e6]
  have lM := lpC (F := fun i => M_fills_8 (kI (bstV 0 a P Q T W S)) (nI i) (zfo c1 206 630 i g) b') sM Q 0 (Nat.zero_add _)
  rw [zfo_0] at lM
  refine ⟨kI (bstV 0 a P Q T W S), zfo A 13 (10 * T) 10 g, zfo c1 206 630 Q g, ?_, ?_, ?_, fun q h1 h2 h3 => (zfo_q h1).trans (e3.1 q h2 h3), fun q h1 h2 h3 => (zfo_q h2).trans (f2.1 q h1 h3), fun j hj => (congrFun (zfo_q (by decide)) j).trans (f2.2 j hj)⟩
  · rw [q_X_fillDraft, e1, zcV_ok, e2, zcI_ok]
    refine Eq.trans lX ?_
    rw [q_X_fillDraft_20, show zfo A 13 (10 * T) 10 g 2 1 = nI Q from (congrFun (zfo_q (by decide)) 1).trans ((congrFun (e3.1 2 (by decide) (by decide)) 1).trans q1), zcond_f (nI_nlt (Nat.le_refl _) (by omega))]
    exact okI_ret _ _ _
  · rw [q_M_fills, f1, zcI_ok]
    refine Eq.trans lM ?_
    rw [q_M_fills_8, show zfo c1 206 630 Q g 194 7 = nI Q from (congrFun (zfo_q (by decide)) 7).trans ((f2.2 7 (by decide)).trans q2), zcond_f (nI_nlt (Nat.le_refl _) (by omega))]
    exact okI_ret _ _ _
  · have fA : frX (cmb A c1) (cmb A c) → True := fun _ => trivial
    have h1 : rAll L xs P Q T G N (zmask (cmb A c1)) := by
      have e7 : zmask (cmb A c1) = zmask (cmb A c) := by
        funext q j
        have := congrFun (congrFun (frM_m f2) q) j
        unfold zmask at this ⊢
        by_cases cc : q < 194
        · rw [cmb_a cc, cmb_a cc]
        · rw [cmb_c (by omega), cmb_c (by omega)]
          exact this
      rw [e7]
      refine rel_frX h ⟨fun q h1 h2 => ?_, fun j hj => ?_⟩ ?_
      · by_cases cc : q < 194
        · rw [cmb_a cc, cmb_a cc, e3.1 q h1 h2]
        · rw [cmb_c (by omega), cmb_c (by omega)]
      · rw [cmb_a (by decide), cmb_a (by decide)]; exact e3.2 j hj
      · rw [cmb_a (by decide), cmb_a (by decide)]; exact e4
    have e8 : cmb (zfo A 13 (10 * T) 10 g) (zfo c1 206 630 Q g) = zfo (zfo (cmb A c1) 13 (10 * T) 10 g) 206 630 Q g := by
      funext q j
      by_cases cc : q < 194
      · refine (congrFun (cmb_a cc) j).trans ?_
        unfold zfo
        rw [if_neg (show ¬ (q = 206 ∧ 630 ≤ j ∧ j < 630 + Q) from fun z => by omega), cmb_a cc]
      · refine (congrFun (cmb_c (by omega)) j).trans ?_
        unfold zfo
        rw [if_neg (show ¬ (q = 13 ∧ 10 * T ≤ j ∧ j < 10 * T + 10) from fun z => by omega), cmb_c (by omega)]
    rw [e8, zm_fo (fun _ => rfl), zm_fo (fun _ => rfl)]
    exact rel_draft h1 hrow
theorem r_fill {L : Nat} {xs : Nat → Int32} : zAns (Rel L xs) X_fill M_fill := by
  intro a b hr
  obtain ⟨P, Q, T, G, N, hall⟩ := id hr
  have h1 : rAll L xs P Q T G N (zmask (cmb a a)) := by rw [cmb_s]; exact hall
  obtain ⟨v, a', -, e1, -, -, f1, -, -⟩ := fill_go (b := b) (b' := b) h1
  have h2 : rAll L xs P Q T G N (zmask (cmb a (zup a' 194 0 0))) := by
    rw [cmb_thr, cmb_up (c := a) (fun q hq => f1 q (by omega) (by omega) (by omega)), cmb_s]
    exact hall
  obtain ⟨v', a'', c', e2, e3, e4, f2, f3, f4⟩ := fill_go (b := b) (b' := b) h2
  have ev : v = v' ∧ a' = a'' := by
    have := e1.symm.trans e2
    unfold okI at this
    injection this with this
    injection this with h1 this
    injection this with _ this
    injection this with h2 _
    exact ⟨by injection h1 with h1; injection h1, h2⟩
  obtain ⟨rfl, rfl⟩ := ev
  refine ⟨v, a', b, c', b, ?_, fun j => congrFun (f1 0 (by decide) (by decide) (by decide)) j, ?_, P, Q, T, G, N, ?_⟩
  · rw [q_X_fill, e1, zcI_ok]
    exact okI_ret _ _ _
  · rw [q_M_fill, e3, zcI_ok]
    exact okI_ret _ _ _
  · rw [cmb_dn (a := a') (fun q hq => (f3 q (by omega) (by omega) (by omega)).trans (zup_row (by omega)))] at e4
    exact e4
