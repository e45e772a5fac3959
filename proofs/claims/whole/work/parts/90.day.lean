/-! A whole day, and the call. -/
theorem rel_cmb {L : Nat} {xs : Nat → Int32} {P Q T T' G N : Nat} {a c a' c' : zA} (h : rAll L xs P Q T G N (zmask (cmb a c))) (f1 : ∀ q, q < 194 → ¬ (12 ≤ q ∧ q ≤ 18) → zmask a' q = zmask a q) (f2 : ∀ q, 194 < q → ¬ (q = 196 ∨ q = 198 ∨ (203 ≤ q ∧ q ≤ 206)) → zmask c' q = zmask c q) (f3 : ∀ j, j ≠ 15 → zmask c' 194 j = zmask c 194 j) (t1 : a' 12 6 = nI T') (t2 : c' 194 15 = nI T') (hT : T' ≤ 60) (hC : rCraft P (a' 17) (c' 196) (a' 18) (c' 198)) (hD : rDays P Q T' (a' 13) (c' 206) (fun p => c' 206 (630 + p))) (hW : rWork P Q T' (a' 14) (c' 204) (a' 15) (c' 203) (a' 16) (c' 205)) (hP : rPt Q (a' 15) (a 6)) (hG : rGo P (a' 18) (a 3)) : rAll L xs P Q T' G N (zmask (cmb a' c')) := by
  have kX : ∀ (x y : zA) q, q < 194 → zmask (cmb x y) q = zmask x q := fun x y q hq => by
    funext j
    unfold zmask
    rw [cmb_a hq]
  have kC : ∀ (x y : zA) q, 194 ≤ q → zmask (cmb x y) q = zmask y q := fun x y q hq => by
    funext j
    unfold zmask
    rw [cmb_c hq]
  have lo : ∀ (x y : zA) q, q ≤ 20 → zmask (cmb x y) q = x q := fun x y q hq => by rw [kX x y q (by omega), zm_lo (.inl hq)]
  have hi : ∀ (x y : zA) q, 195 ≤ q → q ≤ 210 → zmask (cmb x y) q = y q := fun x y q h1 h2 => by rw [kC x y q (by omega), zm_lo (.inr (by omega))]
  refine rel_state h (fun q hq => ?_) (fun j hj => ?_) ?_ ?_ hT ?_ ?_ ?_ ?_ ?_
  · by_cases c : q < 194
    · rw [kX _ _ q c, kX _ _ q c]; exact f1 q c (by omega)
    · rw [kC _ _ q (by omega), kC _ _ q (by omega)]; exact f2 q (by omega) (by omega)
  · rw [kC _ _ 194 (by decide), kC _ _ 194 (by decide)]; exact f3 j hj
  · rw [lo _ _ 12 (by decide)]; exact t1
  · rw [kC _ _ 194 (by decide), zm_kf (by unfold kf; omega)]; exact t2
  · rw [lo _ _ 17 (by decide), lo _ _ 18 (by decide), hi _ _ 196 (by decide) (by decide), hi _ _ 198 (by decide) (by decide)]; exact hC
  · rw [lo _ _ 13 (by decide), hi _ _ 206 (by decide) (by decide)]; exact hD
  · rw [lo _ _ 14 (by decide), lo _ _ 15 (by decide), lo _ _ 16 (by decide), hi _ _ 203 (by decide) (by decide), hi _ _ 204 (by decide) (by decide), hi _ _ 205 (by decide) (by decide)]; exact hW
  · rw [lo _ _ 15 (by decide), lo _ _ 6 (by decide), show a' 6 = a 6 from by have := f1 6 (by decide) (by decide); rwa [zm_lo (.inl (by decide)), zm_lo (.inl (by decide))] at this]; exact hP
  · rw [lo _ _ 18 (by decide), lo _ _ 3 (by decide), show a' 3 = a 3 from by have := f1 3 (by decide) (by decide); rwa [zm_lo (.inl (by decide)), zm_lo (.inl (by decide))] at this]; exact hG
/-- a day that goes by: both memories hold alike again -/
theorem day_go {L : Nat} {xs : Nat → Int32} {P Q T G N : Nat} {a c : zA} {b b' : zB} (h : rAll L xs P Q T G N (zmask (cmb a c))) (hT : T < 60) : ∃ a' c', S_goBy a b = okV a' b ∧ M_passes c b' = okV c' b' ∧ rAll L xs P Q (T + 1) G N (zmask (cmb a' c')) ∧ (∀ q, ¬ (12 ≤ q ∧ q ≤ 18) → a' q = a q) ∧ (∀ q, ¬ (q = 194 ∨ q = 196 ∨ q = 198 ∨ (203 ≤ q ∧ q ≤ 206)) → c' q = c q) ∧ ∀ j, j ≠ 15 → c' 194 j = c 194 j := by
  obtain ⟨W, S, hv⟩ := pr_vw h
  have kX : ∀ q, q < 194 → zmask (cmb a c) q = zmask a q := fun q hq => by
    funext j
    unfold zmask
    rw [cmb_a hq]
  have kC : ∀ q, 194 ≤ q → zmask (cmb a c) q = zmask c q := fun q hq => by
    funext j
    unfold zmask
    rw [cmb_c hq]
  have lo : ∀ q, q ≤ 20 → zmask (cmb a c) q = a q := fun q hq => by rw [kX q (by omega), zm_lo (.inl hq)]
  have hi : ∀ q, 195 ≤ q → q ≤ 210 → zmask (cmb a c) q = c q := fun q h1 h2 => by rw [kC q (by omega), zm_lo (.inr (by omega))]
  obtain ⟨-, -, -, hC, hD, ⟨k1, k2, k3, k4⟩, -, -, -, -, -, hP, hG⟩ := id h
  rw [lo 17 (by decide), lo 18 (by decide), hi 196 (by decide) (by decide), hi 198 (by decide) (by decide)] at hC
  rw [lo 13 (by decide), hi 206 (by decide) (by decide)] at hD
  rw [lo 14 (by decide), hi 204 (by decide) (by decide)] at k1
  rw [lo 15 (by decide), hi 203 (by decide) (by decide)] at k2
  rw [lo 16 (by decide), hi 205 (by decide) (by decide)] at k3
  rw [lo 16 (by decide)] at k4
  rw [lo 15 (by decide), lo 6 (by decide)] at hP
  rw [lo 18 (by decide), lo 3 (by decide)] at hG
  have go : ∀ i, i ≤ Q → ∃ A C, S_goBy_12 0 a b = S_goBy_12 (nI i) A b ∧ M_passes_2 0 c b' = M_passes_2 (nI i) C b' ∧ dInv P Q T i a c A C := by
    intro i
    induction i with
    | zero =>
      intro _
      refine ⟨a, c, rfl, rfl, fun _ _ => rfl, fun _ _ => rfl, ⟨fun _ _ => rfl, fun k hk => absurd hk (by omega)⟩, hC, fun j hj => ?_, k2, ⟨k3, k4⟩, hP, hG⟩
      obtain ⟨m1, m2, m3⟩ := k1 j hj
      obtain ⟨n, n1, n2⟩ := nI_of2 (x := a 14 j) (M := nI T) (n := T) (nI_toInt (by omega)) (Int32.not_lt.mpr m2) m3
      exact ⟨m1, n, n2, by omega⟩
    | succ i ih =>
      intro hi2
      obtain ⟨A, C, e1, e2, e3⟩ := ih (by omega)
      obtain ⟨A', C', f1, f2, f3⟩ := d_step (b := b) (b' := b') hv hT (by omega) e3
      exact ⟨A', C', e1.trans f1, e2.trans f2, f3⟩
  obtain ⟨A, C, e1, e2, ⟨i1, i2, ⟨i3, i4⟩, i5, i7, i8, ⟨i9, i10⟩, i11, i12⟩⟩ := go Q (Nat.le_refl Q)
  have hR := vw_row hv T (Nat.le_refl T)
  obtain ⟨⟨g1, g2, g3, g4, g5⟩, ⟨⟨p1, p2⟩, ⟨q1, q2⟩, ⟨t1, t2⟩, -⟩, -⟩ := hv
  have aT : A 12 6 = nI T := (congrFun (i1 12 (by omega)) 6).trans t1
  have aQ : A 2 1 = nI Q := (congrFun (i1 2 (by omega)) 1).trans q1
  have cT : C 194 15 = nI T := (congrFun (i2 194 (by omega)) 15).trans t2
  have cQ : C 194 7 = nI Q := (congrFun (i2 194 (by omega)) 7).trans q2
  have em := m_clearD (c := C) (b := b') (g := fun k => C 206 (630 + k)) g2 cQ
  rw [zfo_id] at em
  refine ⟨zup A 12 6 (nI (T + 1)), zup (zfo C 206 630 Q (fun _ => -1)) 194 15 (nI (T + 1)), ?_, ?_, ?_, fun q hq => ?_, fun q hq => ?_, fun j hj => ?_⟩
  · rw [q_S_goBy, t1, zcond_t (show nI T < 60 from nI_lt (b := 60) hT (by decide)), e1, q_S_goBy_12, aQ, zcond_f (nI_nlt (Nat.le_refl _) (by omega)), aT, nI_1]
    exact okV_ret _ _
  · rw [q_M_passes, e2, q_M_passes_2, cQ, zcond_f (nI_nlt (Nat.le_refl _) (by omega)), em, zcV_ok, show zfo C 206 630 Q (fun _ => -1) 194 15 = nI T from (congrFun (zfo_q (by decide)) 15).trans cT, nI_1]
    exact okV_ret _ _
  · have w1 : ∀ q, q ≠ 12 → zup A 12 6 (nI (T + 1)) q = A q := fun q hq => zup_row hq
    have w2 : ∀ q, q ≠ 194 → q ≠ 206 → zup (zfo C 206 630 Q (fun _ => -1)) 194 15 (nI (T + 1)) q = C q := fun q h1 h2 => by rw [zup_row h1, zfo_q h2]
    have m1 : ∀ x y : zA, ∀ q, x q = y q → zmask x q = zmask y q := fun x y q e => by
      funext j
      unfold zmask
      rw [e]
    obtain ⟨d1, d2, d3, d4, d5⟩ := hD
    have f206 : ∀ j, zup (zfo C 206 630 Q (fun _ => -1)) 194 15 (nI (T + 1)) 206 j = zfo C 206 630 Q (fun _ => -1) 206 j := fun j => zup_ne (by decide)
    refine rel_cmb h (fun q h1 h2 => m1 _ _ q ((w1 q (by omega)).trans (i1 q (by omega)))) (fun q h1 h2 => m1 _ _ q ((w2 q (by omega) (by omega)).trans (i2 q (by omega)))) (fun j hj => ?_) (zup_eq _ _ _ _) (zup_eq _ _ _ _) (by omega) ?_ ?_ ?_ ?_ ?_
    · unfold zmask
      rw [zup_nj hj, zfo_q (by decide), i2 194 (by omega)]
    · rw [w1 17 (by decide), w1 18 (by decide), w2 196 (by decide) (by decide), w2 198 (by decide) (by decide)]; exact i5
    · rw [w1 13 (by decide), i1 13 (by omega)]
      refine ⟨fun d p h1 h2 => ?_, fun p h1 => ?_, fun d p h1 h2 => ?_, fun d p p' h1 h2 h3 h4 h5 => ?_, fun d p h1 h2 h3 => ?_⟩
      · rw [f206, zfo_o (by omega)]
        by_cases c0 : d = T
        · subst c0
          exact (i4 p h2).symm
        · rw [i3 _ (by omega)]
          exact d1 d p (by omega) h2
      · show a 13 (10 * (T + 1) + p) = zup (zfo C 206 630 Q (fun _ => -1)) 194 15 (nI (T + 1)) 206 (630 + p)
        rw [f206, zfo_j h1]
        exact d5 (T + 1) p (by omega) (by omega) (.inl (by omega))
      · by_cases c0 : d = T + 1
        · exact .inl (d5 d p (by omega) (by omega) (.inl (by omega)))
        · exact d3 d p (by omega) h2
      · by_cases c0 : d = T + 1
        · exact d5 d p (by omega) (by omega) (.inl (by omega))
        · exact d4 d p p' (by omega) h2 h3 h4 h5
      · exact d5 d p h1 h2 (by omega)
    · rw [w1 14 (by decide), w1 15 (by decide), w1 16 (by decide), w2 203 (by decide) (by decide), w2 204 (by decide) (by decide), w2 205 (by decide) (by decide)]
      refine ⟨fun j hj => ?_, i8, i9, i10⟩
      obtain ⟨n1, n, n2, n3⟩ := i7 j hj
      have n4 : n ≤ T + 1 := Nat.le_trans n3 (Nat.add_le_add_left (by cases decide (j < Q) <;> decide) T)
      rw [← n1, n2]
      exact ⟨rfl, show nI 0 ≤ nI n from nI_le (by omega) (by omega), nI_le n4 (by omega)⟩
    · rw [w1 15 (by decide)]; exact i11
    · rw [w1 18 (by decide)]; exact i12
  · exact (zup_row (by omega)).trans (i1 q (by omega))
  · exact (zup_row (by omega)).trans ((zfo_q (by omega)).trans (i2 q (by omega)))
  · exact (zup_nj hj).trans ((congrFun (zfo_q (by decide)) j).trans (congrFun (i2 194 (by omega)) j))
theorem cmb_thr (a a1 : zA) : zmask (cmb a (zup a1 194 0 0)) = zmask (cmb a a1) := by
  funext q j
  unfold zmask
  by_cases h : q < 194
  · rw [cmb_a h, cmb_a h]
  · rw [cmb_c (by omega), cmb_c (by omega)]
    by_cases e : q = 194 ∧ j = 0
    · rw [e.1, e.2]
      rfl
    · rw [show zup a1 194 0 0 q j = a1 q j from if_neg e]
theorem cmb_up {a c a' : zA} (h : ∀ q, 194 ≤ q → a' q = c q) : cmb a a' = cmb a c := by
  funext q
  by_cases e : q < 194
  · rw [cmb_a e, cmb_a e]
  · rw [cmb_c (by omega), cmb_c (by omega), h q (by omega)]
theorem cmb_dn {a c : zA} (h : ∀ q, q < 194 → c q = a q) : cmb a c = c := by
  funext q
  by_cases e : q < 194
  · rw [cmb_a e, h q e]
  · rw [cmb_c (by omega)]
theorem r_day {L : Nat} {xs : Nat → Int32} : zAns (Rel L xs) X_day M_day := by
  intro a b hr
  obtain ⟨P, Q, T, G, N, hall⟩ := id hr
  obtain ⟨W, S, hv⟩ := vw_mask hall
  obtain ⟨⟨g1, g2, g3, g4, g5⟩, ⟨⟨p1, p2⟩, ⟨q1, q2⟩, ⟨t1, t2⟩, -⟩, -⟩ := id hv
  by_cases c1 : T < 60
  · have h1 : rAll L xs P Q T G N (zmask (cmb a a)) := by rw [cmb_s]; exact hall
    obtain ⟨a', -, e1, -, -, f1, -, -⟩ := day_go (b := b) (b' := b) h1 c1
    have h2 : rAll L xs P Q T G N (zmask (cmb a (zup a' 194 0 0))) := by
      rw [cmb_thr, cmb_up (c := a) (fun q hq => f1 q (by omega)), cmb_s]
      exact hall
    obtain ⟨a'', c', e2, e3, e4, f2, f3, f4⟩ := day_go (b := b) (b' := b) h2 c1
    have ea : a' = a'' := okV_inj (e1.symm.trans e2)
    subst ea
    obtain ⟨W', S', hv'⟩ := pr_vw e4
    refine ⟨nI T, a', b, c', b, ?_, fun j => congrFun (f1 0 (by omega)) j, ?_, P, Q, T + 1, G, N, ?_⟩
    · rw [q_X_day, t1, zcond_t (show nI T < 60 from nI_lt (b := 60) c1 (by decide)), e1, zcV_ok, hv'.2.1.2.2.1.1, nI_pred]
      exact okI_ret _ _ _
    · have k15 : zup a' 194 0 0 194 15 = nI T := (zup_nj (by decide)).trans ((congrFun (f1 194 (by omega)) 15).trans t2)
      rw [q_M_day, k15, zcond_f (show ¬ nI T = 60 from fun z => absurd ((nI_eq (by omega) (by decide)).mp (show nI T = nI 60 from z)) (by omega)), e3, zcV_ok, hv'.2.1.2.2.1.2, nI_pred]
      exact okI_ret _ _ _
    · rw [cmb_dn (a := a') (fun q hq => (f3 q (by omega)).trans (zup_row (by omega)))] at e4
      exact e4
  · have e0 : T = 60 := by omega
    subst e0
    refine ans_thr hr (-1) ?_ ?_
    · rw [q_X_day, t1]
      simp (disch := omega) only [zqA0, zqB0, zqC0, zqD0, zqE0, zqF0, zqG0, zqH0, zqA1, zqB1, zqC1, zqD1, zqE1, zqF1, zqG1, zqH1, zqA2, zqB2, zqC2, zqD2, zqE2, zqF2, zqG2, zqH2, zqA3, zqB3, zqC3, zqD3, zqE3, zqF3, zqG3, zqH3, zqA4, zqB4, zqC4, zqD4, zqE4, zqF4, zqG4, zqH4, zqA5, zqB5, zqC5, zqD5, zqE5, zqF5, zqG5, zqH5, zqA6, zqB6, zqC6, zqD6, zqE6, zqF6, zqG6, zqH6, zqA8, zqB8, zqC8, zqD8, zqE8, zqF8, zqG8, zqH8, zqA9, zqB9, zqC9, zqD9, zqE9, zqF9, zqG9, zqH9, zqA10, zqB10, zqC10, zqD10, zqE10, zqF10, zqG10, zqH10, zqA11, zqB11, zqC11, zqD11, zqE11, zqF11, zqG11, zqH11, zqA16, zqB16, zqC16, zqD16, zqE16, zqF16, zqG16, zqH16, zqA18, zqB18, zqC18, zqD18, zqE18, zqF18, zqG18, zqH18, zqA20, zqB20, zqC20, zqD20, zqE20, zqF20, zqG20, zqH20, zqA60, zqB60, zqC60, zqD60, zqE60, zqF60, zqG60, zqH60, zqA63, zqB63, zqC63, zqD63, zqE63, zqF63, zqG63, zqH63, zqA80, zqB80, zqC80, zqD80, zqE80, zqF80, zqG80, zqH80, zqA100, zqB100, zqC100, zqD100, zqE100, zqF100, zqG100, zqH100, zqA120, zqB120, zqC120, zqD120, zqE120, zqF120, zqG120, zqH120, zqA630, zqB630, zqC630, zqD630, zqE630, zqF630, zqG630, zqH630, zqA1000, zqB1000, zqC1000, zqD1000, zqE1000, zqF1000, zqG1000, zqH1000, zqA1010, zqB1010, zqC1010, zqD1010, zqE1010, zqF1010, zqG1010, zqH1010, zqA5000, zqB5000, zqC5000, zqD5000, zqE5000, zqF5000, zqG5000, zqH5000, zz_p01, zz_p02, zz_p03, zz_p04, zz_p05, zz_p06, zz_p10, zz_p12, zz_p13, zz_p14, zz_p15, zz_p16, zz_p20, zz_p21, zz_p23, zz_p24, zz_p25, zz_p26, zz_p30, zz_p31, zz_p32, zz_p34, zz_p35, zz_p36, zz_p40, zz_p41, zz_p42, zz_p43, zz_p45, zz_p46, zz_p50, zz_p51, zz_p52, zz_p53, zz_p54, zz_p56, zz_p60, zz_p61, zz_p62, zz_p63, zz_p64, zz_p65, zz_q1, zz_w1, zz_q2, zz_w2, zz_q3, zz_w3, zz_q4, zz_w4, zz_q5, zz_w5, zz_q6, zz_w6, zz_w0, zz_m1, zz_lt, zz_01, zz_le, zz_eq, zz_n1, zz_in, zz_cl, zz_max, zz_min, zz_minN, zz_maxN, zz_02, zz_12, zz_c0, zz_c1, zz_b0, zz_b1, zz_bb, zz_d00, zz_d10, zz_neg, nI_add, pk_mul, zc_b0, zc_b1, cond_true, cond_false, zcI_ok, zcV_ok, okI_ret, okV_ret, zz_sub, zcond_t, zcond_f, bI_t, bI_f, eq_self, decide_true, decide_false, Bool.false_or, Bool.true_or, Bool.or_false, Bool.or_true, Bool.and_true, Bool.true_and, Bool.and_false, Bool.false_and, Bool.not_true, Bool.not_false, if_true, if_false]
    · rw [q_M_day, show zup a 194 0 0 194 15 = nI 60 from (zup_nj (by decide)).trans t2]
      simp (disch := omega) only [zqA0, zqB0, zqC0, zqD0, zqE0, zqF0, zqG0, zqH0, zqA1, zqB1, zqC1, zqD1, zqE1, zqF1, zqG1, zqH1, zqA2, zqB2, zqC2, zqD2, zqE2, zqF2, zqG2, zqH2, zqA3, zqB3, zqC3, zqD3, zqE3, zqF3, zqG3, zqH3, zqA4, zqB4, zqC4, zqD4, zqE4, zqF4, zqG4, zqH4, zqA5, zqB5, zqC5, zqD5, zqE5, zqF5, zqG5, zqH5, zqA6, zqB6, zqC6, zqD6, zqE6, zqF6, zqG6, zqH6, zqA8, zqB8, zqC8, zqD8, zqE8, zqF8, zqG8, zqH8, zqA9, zqB9, zqC9, zqD9, zqE9, zqF9, zqG9, zqH9, zqA10, zqB10, zqC10, zqD10, zqE10, zqF10, zqG10, zqH10, zqA11, zqB11, zqC11, zqD11, zqE11, zqF11, zqG11, zqH11, zqA16, zqB16, zqC16, zqD16, zqE16, zqF16, zqG16, zqH16, zqA18, zqB18, zqC18, zqD18, zqE18, zqF18, zqG18, zqH18, zqA20, zqB20, zqC20, zqD20, zqE20, zqF20, zqG20, zqH20, zqA60, zqB60, zqC60, zqD60, zqE60, zqF60, zqG60, zqH60, zqA63, zqB63, zqC63, zqD63, zqE63, zqF63, zqG63, zqH63, zqA80, zqB80, zqC80, zqD80, zqE80, zqF80, zqG80, zqH80, zqA100, zqB100, zqC100, zqD100, zqE100, zqF100, zqG100, zqH100, zqA120, zqB120, zqC120, zqD120, zqE120, zqF120, zqG120, zqH120, zqA630, zqB630, zqC630, zqD630, zqE630, zqF630, zqG630, zqH630, zqA1000, zqB1000, zqC1000, zqD1000, zqE1000, zqF1000, zqG1000, zqH1000, zqA1010, zqB1010, zqC1010, zqD1010, zqE1010, zqF1010, zqG1010, zqH1010, zqA5000, zqB5000, zqC5000, zqD5000, zqE5000, zqF5000, zqG5000, zqH5000, zz_p01, zz_p02, zz_p03, zz_p04, zz_p05, zz_p06, zz_p10, zz_p12, zz_p13, zz_p14, zz_p15, zz_p16, zz_p20, zz_p21, zz_p23, zz_p24, zz_p25, zz_p26, zz_p30, zz_p31, zz_p32, zz_p34, zz_p35, zz_p36, zz_p40, zz_p41, zz_p42, zz_p43, zz_p45, zz_p46, zz_p50, zz_p51, zz_p52, zz_p53, zz_p54, zz_p56, zz_p60, zz_p61, zz_p62, zz_p63, zz_p64, zz_p65, zz_q1, zz_w1, zz_q2, zz_w2, zz_q3, zz_w3, zz_q4, zz_w4, zz_q5, zz_w5, zz_q6, zz_w6, zz_w0, zz_m1, zz_lt, zz_01, zz_le, zz_eq, zz_n1, zz_in, zz_cl, zz_max, zz_min, zz_minN, zz_maxN, zz_02, zz_12, zz_c0, zz_c1, zz_b0, zz_b1, zz_bb, zz_d00, zz_d10, zz_neg, nI_add, pk_mul, zc_b0, zc_b1, cond_true, cond_false, zcI_ok, zcV_ok, okI_ret, okV_ret, zz_sub, zcond_t, zcond_f, bI_t, bI_f, eq_self, decide_true, decide_false, Bool.false_or, Bool.true_or, Bool.or_false, Bool.or_true, Bool.and_true, Bool.true_and, Bool.and_false, Bool.false_and, Bool.not_true, Bool.not_false, if_true, if_false]
