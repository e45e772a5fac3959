/-! law, price. -/
def sL (c : zA) (w s : Int32) : zA := zup (zup c 194 17 w) 194 18 s
theorem zup_self {c : zA} {q j : Nat} {x : Int32} (h : c q j = x) : zup c q j x = c := by
  funext q' j'
  unfold zup
  by_cases e : q' = q ∧ j' = j
  · rw [if_pos e, e.1, e.2, h]
  · rw [if_neg e]
theorem zup_cm {c : zA} {q j q' j' : Nat} {x y : Int32} (h : q ≠ q' ∨ j ≠ j') : zup (zup c q j x) q' j' y = zup (zup c q' j' y) q j x := by
  funext r k
  unfold zup
  by_cases e : r = q' ∧ k = j'
  · rw [if_pos e, if_neg (by omega), if_pos e]
  · rw [if_neg e]
    by_cases e2 : r = q ∧ k = j
    · rw [if_pos e2, if_pos e2]
    · rw [if_neg e2, if_neg e2, if_neg e]
theorem sL_j {c : zA} {w s : Int32} {j : Nat} (h : j ≠ 17 ∧ j ≠ 18) : sL c w s 194 j = c 194 j := (zup_nj h.2).trans (zup_nj h.1)
theorem sL_q {c : zA} {w s : Int32} {q : Nat} (h : q ≠ 194) : sL c w s q = c q := (zup_row h).trans (zup_row h)
theorem sL_17 (c : zA) (w s : Int32) : sL c w s 194 17 = w := (zup_nj (by decide)).trans (zup_eq _ _ _ _)
theorem sL_18 (c : zA) (w s : Int32) : sL c w s 194 18 = s := zup_eq _ _ _ _
theorem sL_sL (c : zA) (w s w' s' : Int32) : sL (sL c w s) w' s' = sL c w' s' := by
  unfold sL
  rw [zup_cm (q := 194) (j := 18) (j' := 17) (.inr (by decide)), zup_up, zup_up]
theorem sL_id {c : zA} {w s : Int32} (h : c 194 17 = w) (g : c 194 18 = s) : sL c w s = c := by
  unfold sL
  rw [zup_self h, zup_self g]
theorem mList_u {j : Nat} {y : Int32} (hj : j ≠ 1) : ∀ (l : List Int32) (N : Nat) (c : zA), mList N l (zup c 194 j y) = zup (mList N l c) 194 j y
  | [], _, _ => rfl
  | x :: l, N, c => by
    show mList (N + 1) l (mEnt N x (zup c 194 j y)) = zup (mList (N + 1) l (mEnt N x c)) 194 j y
    rw [← mList_u hj l (N + 1)]
    unfold mEnt
    rw [zup_cm (q := 194) (j := j) (q' := 195) (.inl (by decide)), zup_cm (q := 194) (j := j) (q' := 194) (.inr hj)]
theorem sL_mT (c : zA) (l : List Int32) (w s : Int32) : sL (mT c l) w s = mT (sL c w s) l := by
  have e : zup (zup (zup c 194 17 w) 194 18 s) 194 1 0 = zup (zup (zup c 194 1 0) 194 17 w) 194 18 s := by
    rw [zup_cm (c := zup c 194 17 w) (q := 194) (j := 18) (q' := 194) (j' := 1) (.inr (by decide)), zup_cm (c := c) (q := 194) (j := 17) (q' := 194) (j' := 1) (.inr (by decide))]
  unfold sL mT
  rw [e, mList_u (j := 18) (by decide), mList_u (j := 17) (by decide)]
def wW (wt n W : Nat) : Nat := if wt = 0 then n else W
def wS (wt n S : Nat) : Nat := if wt = 0 then S else n
theorem m_setL {W S wt n : Nat} {c : zA} {b : zB} (hw : wt ≤ 1) {n' : Nat} : M_setsLaw (nI wt) (nI n') (sL c (nI (wW wt n W)) (nI (wS wt n S))) b = okV (sL c (nI (wW wt n' W)) (nI (wS wt n' S))) b := by
  have h30 : ∀ (c : zA) (x y : Int32), M_setsLaw_30 y (zup c 194 17 x) b = okV (sL c x y) b := fun c x y => by
    rw [q_M_setsLaw_30]
    exact okV_ret _ _
  rw [q_M_setsLaw]
  by_cases c0 : wt = 0
  · subst c0
    rw [zcond_t (show nI 0 = 0 from rfl), q_M_setsLaw_13, zcond_f (show ¬ nI 0 = 1 by decide), h30, zup_nj (by decide), sL_18, sL_sL]
    rfl
  · have c1 : wt = 1 := by omega
    subst c1
    rw [zcond_f (show ¬ nI 1 = 0 by decide), q_M_setsLaw_13, zcond_t (show nI 1 = 1 from rfl), h30, sL_17, sL_sL]
    rfl
theorem vw_law {P Q T W S wt n : Nat} {a c : zA} (h : vw P Q T W S a c) (hw : wt ≤ 1) (hn : n ≤ 9) : vw P Q T (wW wt n W) (wS wt n S) (zup a 9 wt (nI n)) (sL c (nI (wW wt n W)) (nI (wS wt n S))) := by
  have ra : ∀ q, q ≠ 9 → zup a 9 wt (nI n) q = a q := fun q hq => zup_row hq
  have rc : ∀ q, q ≠ 194 → sL c (nI (wW wt n W)) (nI (wS wt n S)) q = c q := fun q hq => sL_q hq
  have rj : ∀ j, j ≠ 17 ∧ j ≠ 18 → sL c (nI (wW wt n W)) (nI (wS wt n S)) 194 j = c 194 j := fun j hj => sL_j hj
  obtain ⟨⟨k1, k2, k3, k4, k5⟩, ⟨⟨n1, n2⟩, ⟨n3, n4⟩, ⟨n5, n6⟩, ⟨n7, n8⟩, n9, n10⟩, ⟨r1, r2, r3⟩, hD, ⟨u1, u2, u3, u4, u5⟩, hC⟩ := h
  have hb : wW wt n W ≤ 9 ∧ wS wt n S ≤ 9 := by
    unfold wW wS
    by_cases c0 : wt = 0
    · rw [if_pos c0, if_pos c0]; exact ⟨hn, k5⟩
    · rw [if_neg c0, if_neg c0]; exact ⟨k4, hn⟩
  refine ⟨⟨k1, k2, k3, hb.1, hb.2⟩, ⟨⟨?_, ?_⟩, ⟨?_, ?_⟩, ⟨?_, ?_⟩, ⟨?_, sL_17 _ _ _⟩, ?_, sL_18 _ _ _⟩, ⟨?_, ?_, ?_⟩, ?_, ⟨?_, ?_, ?_, ?_, ?_⟩, ?_⟩
  · rw [ra 2 (by decide)]; exact n1
  · rw [rj 3 (by decide)]; exact n2
  · rw [ra 2 (by decide)]; exact n3
  · rw [rj 7 (by decide)]; exact n4
  · rw [ra 12 (by decide)]; exact n5
  · rw [rj 15 (by decide)]; exact n6
  · unfold wW
    by_cases c0 : wt = 0
    · rw [if_pos c0, c0]; exact zup_eq _ _ _ _
    · rw [if_neg c0]; exact (zup_nj (by omega)).trans n7
  · unfold wS
    by_cases c0 : wt = 0
    · rw [if_pos c0]; exact (zup_nj (by omega)).trans n9
    · rw [if_neg c0, show wt = 1 by omega]; exact zup_eq _ _ _ _
  · rw [ra 8 (by decide), rj 19 (by decide)]; exact r1
  · rw [ra 10 (by decide), rc 207 (by decide)]; exact r2
  · rw [ra 11 (by decide), rc 208 (by decide), rc 209 (by decide), rc 210 (by decide)]
    unfold rAw at r3 ⊢
    rw [rj 21 (by decide)]
    exact r3
  · rw [ra 13 (by decide), rc 206 (by decide)]; exact hD
  · rw [ra 3 (by decide), rc 197 (by decide)]; exact u1
  · rw [ra 4 (by decide), rc 199 (by decide)]; exact u2
  · rw [ra 5 (by decide), rc 200 (by decide)]; exact u3
  · rw [ra 6 (by decide), rc 201 (by decide)]; exact u4
  · rw [ra 7 (by decide), rc 202 (by decide)]; exact u5
  · rw [ra 17 (by decide), ra 18 (by decide), rc 196 (by decide), rc 198 (by decide)]; exact hC
def bstL (a : zA) (P Q T W S wt n : Nat) : Int := bstV 0 (zup a 9 wt (nI n)) P Q T (wW wt n W) (wS wt n S)
theorem m_bestL {P Q T W S wt n : Nat} {a c : zA} {b : zB} (h : vw P Q T W S a c) (h0 : v0 c) (hw : wt ≤ 1) (hn : n ≤ 9) : ∃ c', M_bests 0 (sL c (nI (wW wt n W)) (nI (wS wt n S))) b = okI (kI (bstL a P Q T W S wt n)) (sL c' (nI (wW wt n W)) (nI (wS wt n S))) b ∧ frM c' c := by
  obtain ⟨c1, e1, e2, -⟩ := m_bests (b := b) (vw_law h hw hn) ((sL_j (by decide)).trans h0.1)
  rw [sL_j (by decide), h0.2] at e1
  refine ⟨sL c1 (c 194 17) (c 194 18), ?_, fun q h1 h2 => ?_, fun j hj => ?_⟩
  · rw [sL_sL, sL_id ((e2.2 17 (by decide)).trans (sL_17 _ _ _)) ((e2.2 18 (by decide)).trans (sL_18 _ _ _))]
    exact e1
  · rw [sL_q h1, e2.1 q h1 h2, sL_q h1]
  · by_cases k1 : j = 17
    · rw [k1, sL_17]
    · by_cases k2 : j = 18
      · rw [k2, sL_18]
      · rw [sL_j ⟨k1, k2⟩, e2.2 j hj, sL_j ⟨k1, k2⟩]
theorem x_bestL {P Q T W S wt n : Nat} {a c : zA} {b : zB} (h : vw P Q T W S a c) (hk : rKnown (a 27) (a 33)) (hw : wt ≤ 1) (hn : n ≤ 9) : ∃ A, X_bestWorth (-2) (zup a 9 wt (nI n)) b = okI (kI (bstL a P Q T W S wt n)) A b ∧ frX (zup A 9 wt (a 9 wt)) a ∧ rKnown (A 27) (A 33) := by
  obtain ⟨A, e1, e2, e3⟩ := x_bestW (b := b) (vw_law h hw hn) (frz_n h.1.1) (rKnown_c hk (zup_row (by decide)) (zup_row (by decide)))
  refine ⟨A, e1, ⟨fun q h1 h2 => ?_, fun j hj => ?_⟩, e3⟩
  · by_cases c : q = 9
    · subst c
      funext j
      by_cases c2 : j = wt
      · rw [c2, zup_eq]
      · rw [zup_nj c2, e2.1 9 (by decide) (by decide), zup_nj c2]
    · rw [zup_row c, e2.1 q h1 h2, zup_row c]
  · rw [zup_row (by decide), e2.2 j hj, zup_row (by decide)]
theorem yWhy_4 (a : zA) (T W Q w p d : Nat) : yWhy a T W Q w p d = 0 ∨ (0 < yWhy a T W Q w p d ∧ yWhy a T W Q w p d ≠ 4) := by
  unfold yWhy
  cases decide (a 11 (100 * w + d) = 0) <;> cases thereB (xE a) T W p d w <;> cases hB (a 8 3) p <;> cases (decide (0 < d) && (decide (d ≤ T) && fromB (xE a) (a 10) Q p d w)) <;> first | exact .inl rfl | exact .inr (by decide)
theorem v_allM {P Q T W S d : Nat} {a c : zA} {b : zB} (hv : vw P Q T W S a c) (h0 : v0 c) (hd : d < T) : M_mayAll (nI d) c b = okI (bI (!yBad false a Q T W S d)) c b := by
  have h1 := hv.1
  have q1 := hv.2.1.2.1.2
  have hr := vw_row hv d (by omega)
  have hL := fun q hq => vw_E hv (Nat.le_refl T) d q hd hq
  have h88 : ∀ i, M_mayAll_88 (nI d) (nI i) c b = M_mayAll_4 (nI d) (bI false) (nI (i + 1)) c b := fun i => by
    rw [q_M_mayAll_88, q_M_mayAll_89, nI_1]
    rfl
  have h84 : ∀ i, M_mayAll_84 (nI d) (nI i) c b = M_mayAll_4 (nI d) (bI true) (nI (i + 1)) c b := fun i => by
    rw [q_M_mayAll_84, q_M_mayAll_89, nI_1]
    rfl
  have h62 : ∀ i, i < Q → M_mayAll_62 (nI d) (nI i) (xE a d i) (cond (decide (0 < i)) (xE a d (i - 1)) (-1)) c b = M_mayAll_4 (nI d) (bI (!yPair a Q T S d i)) (nI (i + 1)) c b := by
    intro i hi
    unfold yPair
    rw [q_M_mayAll_62]
    rcases hr.1 i hi with e2 | ⟨y, hy, e2⟩
    · rw [e2, zcond_t (by decide), h84]
      cases decide (0 < i) <;> cases decide (xE a d (i - 1) = -1) <;> rfl
    · rw [e2, zcond_f (nI_pos (by omega)), yNat_e (by omega), decide_eq_false (nI_m1 (w := y) (by omega))]
      by_cases c0 : 0 < i
      · rw [decide_eq_true c0, cond_true]
        rcases hr.1 (i - 1) (by omega) with e1 | ⟨w, hw, e1⟩
        · rw [e1, zcond_t (by decide), h84]
          rfl
        · rw [e1, zcond_f (nI_pos (by omega)), yNat_e (by omega), decide_eq_false (nI_m1 (w := w) (by omega)), v_bes hv h0 (by omega) (by omega) (by omega), zcI_ok, zc_b0, h88, h84]
          cases metB (xE a) Q T S d w y <;> rfl
      · rw [decide_eq_false c0, cond_false, zcond_t (by decide), h84]
        rfl
  have hs : ∀ v i, 0 ≤ i → i < Q → M_mayAll_4 (nI d) (bI (!v)) (nI i) c b = M_mayAll_4 (nI d) (bI (!(v || !decide (yRea false a Q T W S d i = 0)))) (nI (i + 1)) c b := by
    intro v i _ h2
    rw [q_M_mayAll_4, q1, zcond_t (nI_lt h2 (by omega)), v_reaM hv h0 h2 (by omega) (by omega) hL, zcI_ok, s_on (by omega), zcI_ok, hL i h2]
    have h45 : ∀ x, M_mayAll_45 (nI d) (bI (!v)) (nI i) (yRea true a Q T W S d i) (xE a d i) x c b = cond v (M_mayAll_4 (nI d) (bI false) (nI (i + 1)) c b) (cond (decide (yRea true a Q T W S d i = 0)) (M_mayAll_62 (nI d) (nI i) (xE a d i) x c b) (cond (decide (yRea true a Q T W S d i = 4)) (M_mayAll_62 (nI d) (nI i) (xE a d i) x c b) (M_mayAll_4 (nI d) (bI false) (nI (i + 1)) c b))) := by
      intro x
      rw [q_M_mayAll_45, h88]
      cases v <;> rfl
    have tail : ∀ x, x = cond (decide (0 < i)) (xE a d (i - 1)) (-1) → M_mayAll_45 (nI d) (bI (!v)) (nI i) (yRea true a Q T W S d i) (xE a d i) x c b = M_mayAll_4 (nI d) (bI (!(v || !decide (yRea false a Q T W S d i = 0)))) (nI (i + 1)) c b := by
      intro x hx
      subst hx
      rw [h45, h62 i h2]
      cases v
      · rw [cond_false, Bool.false_or, Bool.not_not]
        unfold yRea
        rcases hr.1 i h2 with e2 | ⟨w, hw, e2⟩
        · have hp : yPair a Q T S d i = false := by
            unfold yPair
            rw [e2]
            cases decide (0 < i) <;> cases decide (xE a d (i - 1) = -1) <;> rfl
          rw [hp, e2]
          rfl
        · rw [e2, decide_eq_false (nI_m1 (w := w) (by omega)), yNat_e (by omega), cond_false, cond_false]
          rcases yWhy_4 a T W Q w i d with hy | ⟨hy1, hy2⟩
          · rw [hy]
            cases yAble a w i <;> cases yPair a Q T S d i <;> rfl
          · have hy0 : ¬ yWhy a T W Q w i d = 0 := fun z => by rw [z] at hy1; exact absurd hy1 (by decide)
            rw [decide_eq_false hy0, cond_false, cond_false, decide_eq_false hy0, decide_eq_false hy2]
            rfl
      · rfl
    by_cases c0 : i = 0
    · subst c0
      rw [zcond_t (show nI 0 = 0 from rfl)]
      exact tail _ rfl
    · rw [zcond_f (show ¬ nI i = 0 from fun z => c0 ((nI_eq (by omega) (by decide)).mp (show nI i = nI 0 from z))), show nI i - 1 = nI (i - 1) from pk_sub (b := 1) (by omega), s_on (by omega), zcI_ok, hL (i - 1) (by omega)]
      exact tail _ (by rw [decide_eq_true (show 0 < i by omega)]; rfl)
  have he : ∀ v, M_mayAll_4 (nI d) (bI (!v)) (nI Q) c b = okI (bI (!v)) c b := by
    intro v
    rw [q_M_mayAll_4, q1]
    simp (disch := omega) only [zqA0, zqB0, zqC0, zqD0, zqE0, zqF0, zqG0, zqH0, zqA1, zqB1, zqC1, zqD1, zqE1, zqF1, zqG1, zqH1, zqA2, zqB2, zqC2, zqD2, zqE2, zqF2, zqG2, zqH2, zqA3, zqB3, zqC3, zqD3, zqE3, zqF3, zqG3, zqH3, zqA4, zqB4, zqC4, zqD4, zqE4, zqF4, zqG4, zqH4, zqA5, zqB5, zqC5, zqD5, zqE5, zqF5, zqG5, zqH5, zqA6, zqB6, zqC6, zqD6, zqE6, zqF6, zqG6, zqH6, zqA8, zqB8, zqC8, zqD8, zqE8, zqF8, zqG8, zqH8, zqA9, zqB9, zqC9, zqD9, zqE9, zqF9, zqG9, zqH9, zqA10, zqB10, zqC10, zqD10, zqE10, zqF10, zqG10, zqH10, zqA11, zqB11, zqC11, zqD11, zqE11, zqF11, zqG11, zqH11, zqA16, zqB16, zqC16, zqD16, zqE16, zqF16, zqG16, zqH16, zqA18, zqB18, zqC18, zqD18, zqE18, zqF18, zqG18, zqH18, zqA20, zqB20, zqC20, zqD20, zqE20, zqF20, zqG20, zqH20, zqA60, zqB60, zqC60, zqD60, zqE60, zqF60, zqG60, zqH60, zqA63, zqB63, zqC63, zqD63, zqE63, zqF63, zqG63, zqH63, zqA80, zqB80, zqC80, zqD80, zqE80, zqF80, zqG80, zqH80, zqA100, zqB100, zqC100, zqD100, zqE100, zqF100, zqG100, zqH100, zqA120, zqB120, zqC120, zqD120, zqE120, zqF120, zqG120, zqH120, zqA630, zqB630, zqC630, zqD630, zqE630, zqF630, zqG630, zqH630, zqA1000, zqB1000, zqC1000, zqD1000, zqE1000, zqF1000, zqG1000, zqH1000, zqA1010, zqB1010, zqC1010, zqD1010, zqE1010, zqF1010, zqG1010, zqH1010, zqA5000, zqB5000, zqC5000, zqD5000, zqE5000, zqF5000, zqG5000, zqH5000, zz_p01, zz_p02, zz_p03, zz_p04, zz_p05, zz_p06, zz_p10, zz_p12, zz_p13, zz_p14, zz_p15, zz_p16, zz_p20, zz_p21, zz_p23, zz_p24, zz_p25, zz_p26, zz_p30, zz_p31, zz_p32, zz_p34, zz_p35, zz_p36, zz_p40, zz_p41, zz_p42, zz_p43, zz_p45, zz_p46, zz_p50, zz_p51, zz_p52, zz_p53, zz_p54, zz_p56, zz_p60, zz_p61, zz_p62, zz_p63, zz_p64, zz_p65, zz_q1, zz_w1, zz_q2, zz_w2, zz_q3, zz_w3, zz_q4, zz_w4, zz_q5, zz_w5, zz_q6, zz_w6, zz_w0, zz_m1, zz_lt, zz_01, zz_le, zz_eq, zz_n1, zz_in, zz_cl, zz_max, zz_min, zz_minN, zz_maxN, zz_02, zz_12, zz_c0, zz_c1, zz_b0, zz_b1, zz_bb, zz_d00, zz_d10, zz_neg, nI_add, pk_mul, zc_b0, zc_b1, cond_true, cond_false, zcI_ok, zcV_ok, okI_ret, okV_ret, zz_sub, zcond_t, zcond_f, bI_t, bI_f, eq_self, decide_true, decide_false, Bool.false_or, Bool.true_or, Bool.or_false, Bool.or_true, Bool.and_true, Bool.true_and, Bool.and_false, Bool.false_and, Bool.not_true, Bool.not_false, if_true, if_false]
  rw [q_M_mayAll]
  exact lpB hs he Q false 0 (Nat.le_refl _) (Nat.zero_add _)
