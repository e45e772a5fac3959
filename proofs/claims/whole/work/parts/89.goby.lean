/-! The day goes by: post by post; day. -/
theorem bits63 {x : Int32} (h : 0 ≤ x ∧ x ≤ 63) : ∀ i, 6 ≤ i → i < 32 → hB x i = false := by
  obtain ⟨n, hn, rfl⟩ := nI_of2 (M := 63) (n := 63) (by decide) (Int32.not_lt.mpr h.1) h.2
  intro i h1 h2
  rw [hB_n h2]
  exact Nat.testBit_lt_two_pow (Nat.lt_of_lt_of_le (show n < 2 ^ 6 by omega) (Nat.pow_le_pow_right (by decide) h1))
theorem or63 {x : Int32} {k : Nat} (h : 0 ≤ x ∧ x ≤ 63) (hk : k < 6) : (0 : Int32) ≤ (x ||| (1 <<< (nI k &&& 31))) ∧ (x ||| (1 <<< (nI k &&& 31))) ≤ (63 : Int32) := by
  obtain ⟨n, hn, e⟩ := bits_lt (x := x ||| (1 <<< (nI k &&& 31))) (k := 6) (by decide) (fun i h1 h2 => by
    rw [hB_or, bits63 h i h1 h2, hB_bit (by omega) i h2, decide_eq_false (by omega)]
    rfl)
  rw [e]
  exact ⟨show nI 0 ≤ nI n from nI_le (by omega) (by omega), show nI n ≤ nI 63 from nI_le (by omega) (by decide)⟩
def dInv (P Q T i : Nat) (a c A C : zA) : Prop := (∀ q, ¬ (14 ≤ q ∧ q ≤ 18) → A q = a q) ∧ (∀ q, ¬ (q = 196 ∨ q = 198 ∨ (203 ≤ q ∧ q ≤ 206)) → C q = c q) ∧
  ((∀ j, j < 10 * T ∨ 10 * T + i ≤ j → C 206 j = c 206 j) ∧ ∀ k, k < i → C 206 (10 * T + k) = xE a T k) ∧ rCraft P (A 17) (C 196) (A 18) (C 198) ∧ (∀ j, j < 10 → A 14 j = C 204 j ∧ ∃ n, A 14 j = nI n ∧ n ≤ T + cond (decide (j < i)) 1 0) ∧ rSame 10 0 89 (A 15) (C 203) ∧ ((∀ j, j < Q → A 16 j = C 205 j ∧ rOne P (A 16 j)) ∧ ∀ j, Q ≤ j → j < 10 → A 16 j = -1) ∧ rPt Q (A 15) (a 6) ∧ rGo P (A 18) (a 3)
theorem d_step {P Q T W S i : Nat} {a c A C : zA} {b b' : zB} (hv : vw P Q T W S a c) (hT : T < 60) (hi : i < Q) (h : dInv P Q T i a c A C) : ∃ A' C', S_goBy_12 (nI i) A b = S_goBy_12 (nI (i + 1)) A' b ∧ M_passes_2 (nI i) C b' = M_passes_2 (nI (i + 1)) C' b' ∧ dInv P Q T (i + 1) a c A' C' := by
  obtain ⟨i1, i2, ⟨i3, i4⟩, ⟨i5, i6⟩, i7, i8, ⟨i9, i10⟩, i11, i12⟩ := id h
  have hR := vw_row hv T (Nat.le_refl T)
  have hD := vw_D hv
  obtain ⟨⟨g1, g2, g3, g4, g5⟩, ⟨⟨p1, p2⟩, ⟨q1, q2⟩, ⟨t1, t2⟩, -⟩, -, -, ⟨u1, u2, u3, u4, u5⟩, -⟩ := hv
  have aT : A 12 6 = nI T := (congrFun (i1 12 (by omega)) 6).trans t1
  have aQ : A 2 1 = nI Q := (congrFun (i1 2 (by omega)) 1).trans q1
  have aP : A 2 0 = nI P := (congrFun (i1 2 (by omega)) 0).trans p1
  have cT : C 194 15 = nI T := (congrFun (i2 194 (by omega)) 15).trans t2
  have cQ : C 194 7 = nI Q := (congrFun (i2 194 (by omega)) 7).trans q2
  have eX : S_onePlaced (nI T) (nI i) A b = okI (xE a T i) A b := by
    rw [s_onePlaced (by omega) (by omega), i1 13 (by omega)]
    rfl
  have eM : M_on 63 (nI i) C b' = okI (xE a T i) C b' := by
    rw [show (63 : Int32) = nI 63 from rfl, s_on (by omega), i3 _ (by omega), hD i hi]
  have hX0 : S_goBy_12 (nI i) A b = zcI (H_hasPerson (xE a T i) A b) (fun y2 a2 b2 => cond (decide (y2 = 0)) (S_goBy_70 (nI i) a2 b2) (zcI (S_isAble (xE a T i) (nI i) a2 b2) (fun y3 a3 b3 => cond (decide (y3 = 0)) (cond (zin (nI i) (10)) (zcV (S_learn (xE a T i) (a3 4 (nI i).toNatClampNeg) a3 b3) (fun a4 b4 => S_goBy_70 (nI i) a4 b4)) (none)) (zcV (S_work (xE a T i) (nI i) a3 b3) (fun a5 b5 => S_goBy_70 (nI i) a5 b5))))) := by
    rw [q_S_goBy_12, aQ, zcond_t (nI_lt hi (by omega)), aT, eX, zcI_ok]
  have hM0 : M_passes_2 (nI i) C b' = cond (decide (xE a T i < 0)) (M_passes_43 (nI i) (zup C 206 (10 * T + i) (xE a T i)) b') (zcV (M_worksOn (nI i) (xE a T i) (zup C 206 (10 * T + i) (xE a T i)) b') (fun a3 b3 => M_passes_43 (nI i) a3 b3)) := by
    have z1 : (10 : Int32) * nI T + nI i = nI (10 * T + i) := s_mul 10 T i
    rw [q_M_passes_2, cQ, zcond_t (nI_lt hi (by omega)), eM, zcI_ok, cT, z1]
    simp (disch := omega) only [zqA0, zqB0, zqC0, zqD0, zqE0, zqF0, zqG0, zqH0, zqA1, zqB1, zqC1, zqD1, zqE1, zqF1, zqG1, zqH1, zqA2, zqB2, zqC2, zqD2, zqE2, zqF2, zqG2, zqH2, zqA3, zqB3, zqC3, zqD3, zqE3, zqF3, zqG3, zqH3, zqA4, zqB4, zqC4, zqD4, zqE4, zqF4, zqG4, zqH4, zqA5, zqB5, zqC5, zqD5, zqE5, zqF5, zqG5, zqH5, zqA6, zqB6, zqC6, zqD6, zqE6, zqF6, zqG6, zqH6, zqA8, zqB8, zqC8, zqD8, zqE8, zqF8, zqG8, zqH8, zqA9, zqB9, zqC9, zqD9, zqE9, zqF9, zqG9, zqH9, zqA10, zqB10, zqC10, zqD10, zqE10, zqF10, zqG10, zqH10, zqA11, zqB11, zqC11, zqD11, zqE11, zqF11, zqG11, zqH11, zqA16, zqB16, zqC16, zqD16, zqE16, zqF16, zqG16, zqH16, zqA18, zqB18, zqC18, zqD18, zqE18, zqF18, zqG18, zqH18, zqA20, zqB20, zqC20, zqD20, zqE20, zqF20, zqG20, zqH20, zqA60, zqB60, zqC60, zqD60, zqE60, zqF60, zqG60, zqH60, zqA63, zqB63, zqC63, zqD63, zqE63, zqF63, zqG63, zqH63, zqA80, zqB80, zqC80, zqD80, zqE80, zqF80, zqG80, zqH80, zqA100, zqB100, zqC100, zqD100, zqE100, zqF100, zqG100, zqH100, zqA120, zqB120, zqC120, zqD120, zqE120, zqF120, zqG120, zqH120, zqA630, zqB630, zqC630, zqD630, zqE630, zqF630, zqG630, zqH630, zqA1000, zqB1000, zqC1000, zqD1000, zqE1000, zqF1000, zqG1000, zqH1000, zqA1010, zqB1010, zqC1010, zqD1010, zqE1010, zqF1010, zqG1010, zqH1010, zqA5000, zqB5000, zqC5000, zqD5000, zqE5000, zqF5000, zqG5000, zqH5000, zz_p01, zz_p02, zz_p03, zz_p04, zz_p05, zz_p06, zz_p10, zz_p12, zz_p13, zz_p14, zz_p15, zz_p16, zz_p20, zz_p21, zz_p23, zz_p24, zz_p25, zz_p26, zz_p30, zz_p31, zz_p32, zz_p34, zz_p35, zz_p36, zz_p40, zz_p41, zz_p42, zz_p43, zz_p45, zz_p46, zz_p50, zz_p51, zz_p52, zz_p53, zz_p54, zz_p56, zz_p60, zz_p61, zz_p62, zz_p63, zz_p64, zz_p65, zz_q1, zz_w1, zz_q2, zz_w2, zz_q3, zz_w3, zz_q4, zz_w4, zz_q5, zz_w5, zz_q6, zz_w6, zz_w0, zz_m1, zz_lt, zz_01, zz_le, zz_eq, zz_n1, zz_in, zz_cl, zz_max, zz_min, zz_minN, zz_maxN, zz_02, zz_12, zz_c0, zz_c1, zz_b0, zz_b1, zz_bb, zz_d00, zz_d10, zz_neg, nI_add, pk_mul, zc_b0, zc_b1, cond_true, cond_false, zcI_ok, zcV_ok, okI_ret, okV_ret, zz_sub, zcond_t, zcond_f, bI_t, bI_f, eq_self, decide_true, decide_false, Bool.false_or, Bool.true_or, Bool.or_false, Bool.or_true, Bool.and_true, Bool.true_and, Bool.and_false, Bool.false_and, Bool.not_true, Bool.not_false, if_true, if_false]
  -- the place of the day
  have base : dInv P Q T (i + 1) a c A (zup C 206 (10 * T + i) (xE a T i)) := by
    refine ⟨i1, fun q hq => (zup_row (by omega)).trans (i2 q hq), ⟨fun j hj => (zup_nj (by omega)).trans (i3 j (by omega)), fun k hk => ?_⟩, ?_, fun j hj => ?_, ?_, ⟨fun j hj => ?_, i10⟩, i11, i12⟩
    · by_cases e : k = i
      · subst e; exact zup_eq _ _ _ _
      · exact (zup_nj (by omega)).trans (i4 k (by omega))
    · rw [zup_row (by decide), zup_row (by decide)]; exact ⟨i5, i6⟩
    · obtain ⟨k1, n, k2, k3⟩ := i7 j hj
      refine ⟨k1.trans (zup_ne (by decide)).symm, n, k2, Nat.le_trans k3 (Nat.add_le_add_left ?_ T)⟩
      by_cases e : j < i
      · rw [decide_eq_true e, decide_eq_true (show j < i + 1 by omega)]
        exact Nat.le_refl _
      · rw [decide_eq_false e]
        exact Nat.zero_le _
    · rw [zup_row (by decide)]; exact i8
    · exact ⟨(i9 j hj).1.trans (zup_ne (by decide)).symm, (i9 j hj).2⟩
  rcases hR.1 i hi with e1 | ⟨w, hw, e1⟩
  · refine ⟨A, zup C 206 (10 * T + i) (xE a T i), ?_, ?_, base⟩
    · rw [hX0, e1, hp_f aP (fun z => z.1 (by decide)), zcI_ok, zcond_t rfl, q_S_goBy_70, nI_1]
    · rw [hM0, e1, zcond_t (by decide), q_M_passes_43, nI_1]
  · rw [e1] at hX0 hM0 base
    rw [hp_t aP ⟨nI_pos (by omega), nI_lt hw (by omega)⟩, zcI_ok, zcond_f (by decide)] at hX0
    rw [zcond_f (nI_pos (by omega))] at hM0
    generalize zup C 206 (10 * T + i) (nI w) = D at hM0 base
    obtain ⟨j1, j2, j3, ⟨j5, j6⟩, j7, j8, ⟨j9, j10⟩, j11, j12⟩ := id base
    have hi1 : i < 10 := by omega
    have hw1 : w < 10 := by omega
    have e4 : A 4 i = D 199 i := by rw [i1 4 (by omega), j2 199 (by omega)]; exact (u2 i hi).1
    have e17 : A 17 w = D 196 w := (j5 w hw).1
    have hab := ab2 (A := A) (C := D) (b := b) (b' := b') hw1 hi1 e4 e17
    rw [hab.1, zcI_ok, zc_b0] at hX0
    have bX : ∀ q, ¬ (14 ≤ q ∧ q ≤ 18) → A q = a q := i1
    cases hy : yAble A w i with
    | true =>
      rw [hy, cond_true] at hX0
      obtain ⟨r, r1, r2⟩ := nI_of2 (x := A 15 i) (M := 89) (n := 89) (by decide) (Int32.not_lt.mpr (j8 i hi1).2.1) (j8 i hi1).2.2
      obtain ⟨Lg, l1, l2⟩ := nI_of9 (x := a 6 i) (by have := (u4 i hi).2.1; rw [Int32.le_iff_toInt_le] at this ⊢; exact Int.le_trans (by decide) this) (u4 i hi).2.2
      obtain ⟨ls, m1, m2⟩ := nI_of10 (u5 i hi).2.1 (u5 i hi).2.2
      obtain ⟨k1, dn, k2, k3⟩ := i7 i hi1
      have hdn : dn ≤ T := by
        rw [decide_eq_false (Nat.lt_irrefl i)] at k3
        exact k3
      have hrl : r < 10 * Lg := by
        have := (j11 i hi1).1 hi
        rw [r2, l2, show (10 : Int32) * nI Lg = nI (10 * Lg) from pk_mul 10 Lg, nI_ltI (by omega) (by omega)] at this
        exact this
      obtain ⟨A', C', r', dn', sX, sM, w1, w2, w3, w4, w5, w6, w7, w8, w9, w10⟩ := d_work (A := A) (C := D) (b := b) (b' := b') (P := P) hi1 hw1 g1 hrl l1 m1 (show dn ≤ 100 by omega) r2 ((j8 i hi1).1.symm.trans r2) ((congrFun (i1 6 (by omega)) i).trans l2) ((congrFun (j2 201 (by omega)) i).trans ((u4 i hi).1.symm.trans l2)) ((congrFun (i1 7 (by omega)) i).trans m2) ((congrFun (j2 202 (by omega)) i).trans ((u5 i hi).1.symm.trans m2)) k2 ((j7 i hi1).1.symm.trans k2) (j9 i hi).1 (j9 i hi).2 hy e4 e17
      refine ⟨A', C', ?_, ?_, fun q hq => ?_, fun q hq => ?_, ⟨fun j hj => ?_, fun k hk => ?_⟩, ?_, fun j hj => ?_, fun j hj => ?_, ⟨fun j hj => ?_, fun j h1 h2 => ?_⟩, fun p hp => ?_, ?_⟩
      · rw [hX0, sX, zcV_ok, q_S_goBy_70, nI_1]
      · rw [hM0, sM, zcV_ok, q_M_passes_43, nI_1]
      · exact (funext fun j => w9 q j (.inl (by omega))).trans (i1 q hq)
      · exact (funext fun j => w10 q j (.inl (by omega))).trans (j2 q hq)
      · rw [w10 206 j (.inl (by decide))]; exact j3.1 j hj
      · rw [w10 206 _ (.inl (by decide))]; exact j3.2 k hk
      · rw [show A' 17 = A 17 from funext fun j => w9 17 j (.inl (by decide)), show A' 18 = A 18 from funext fun j => w9 18 j (.inl (by decide)), show C' 196 = D 196 from funext fun j => w10 196 j (.inl (by decide)), show C' 198 = D 198 from funext fun j => w10 198 j (.inl (by decide))]
        exact ⟨j5, j6⟩
      · by_cases e : j = i
        · subst e
          rw [w5, w6]
          refine ⟨rfl, dn', rfl, ?_⟩
          rw [decide_eq_true (Nat.lt_succ_self j)]
          rcases w2 with w2 | w2 <;> (show dn' ≤ T + 1) <;> omega
        · rw [w9 14 j (.inr e), w10 204 j (.inr e)]
          exact j7 j hj
      · by_cases e : j = i
        · subst e
          rw [w3, w4]
          exact ⟨rfl, show nI 0 ≤ nI r' from nI_le (by omega) (by omega), show nI r' ≤ nI 89 from nI_le (by omega) (by decide)⟩
        · rw [w9 15 j (.inr e), w10 203 j (.inr e)]
          exact j8 j hj
      · by_cases e : j = i
        · subst e
          rw [w7, w8]
          exact ⟨rfl, .inr ⟨w, hw, rfl⟩⟩
        · rw [w9 16 j (.inr e), w10 205 j (.inr e)]
          exact j9 j hj
      · rw [w9 16 j (.inr (by omega))]
        exact j10 j h1 h2
      · by_cases e : p = i
        · subst e
          rw [w3]
          refine ⟨fun _ => ?_, fun z => absurd z (by omega)⟩
          rw [l2, show (10 : Int32) * nI Lg = nI (10 * Lg) from pk_mul 10 Lg]
          exact nI_lt w1 (by omega)
        · rw [w9 15 p (.inr e)]
          exact j11 p hp
      · rw [show A' 18 = A 18 from funext fun j => w9 18 j (.inl (by decide))]
        exact j12
    | false =>
      rw [hy, cond_false] at hX0
      have n0 := yAble_f hy
      have e40 : A 4 i = a 4 i := congrFun (i1 4 (by omega)) i
      obtain ⟨k, k1, k2⟩ := nI_of2 (x := A 4 i) (M := 5) (n := 5) (by decide) n0 (by rw [e40]; exact (u2 i hi).2.2)
      have e18 := j6 (6 * w + k) (by omega)
      obtain ⟨gg, gg1, gg2⟩ := nI_of2 (x := A 18 (6 * w + k)) (M := 8) (n := 8) (by decide) (Int32.not_lt.mpr e18.2.1) e18.2.2
      obtain ⟨Gn, n1, n2⟩ := nI_of9 (x := a 3 w) (by have := (u1 w hw).2.1; rw [Int32.le_iff_toInt_le] at this ⊢; exact Int.le_trans (by decide) this) (u1 w hw).2.2
      have hgl : gg < Gn := by
        have := (j12 w k hw1 (by omega)).1 hw
        rw [gg2, n2, nI_ltI (by omega) (by omega)] at this
        exact this
      obtain ⟨A', C', g', x, sX, sM, w1, w2, w3, w4, w5, w6, w9, w10⟩ := d_learn (A := A) (C := D) (b := b) (b' := b') hi1 hw1 (show k < 6 by omega) hgl n1 k2 (e4.symm.trans k2) gg2 (e18.1.symm.trans gg2) ((congrFun (i1 3 (by omega)) w).trans n2) ((congrFun (j2 197 (by omega)) w).trans ((u1 w hw).1.symm.trans n2)) hy e17
      have hx : 0 ≤ x ∧ x ≤ 63 := by
        rcases w2 with w2 | w2
        · rw [w2]; exact (j5 w hw).2
        · rw [w2]; exact or63 (j5 w hw).2 (by omega)
      refine ⟨A', C', ?_, ?_, fun q hq => ?_, fun q hq => ?_, ⟨fun j hj => ?_, fun k' hk => ?_⟩, ⟨fun j hj => ?_, fun j hj => ?_⟩, fun j hj => ?_, fun j hj => ?_, ⟨fun j hj => ?_, fun j h1 h2 => ?_⟩, ?_, fun w' k' hw' hk' => ?_⟩
      · have zi : zin (nI i) 10 = true := zin_nI hi1 (by decide)
        rw [hX0, zi, cond_true, show (nI i).toNatClampNeg = i from nI_clamp (by omega), k2, sX, zcV_ok, q_S_goBy_70, nI_1]
      · rw [hM0, sM, zcV_ok, q_M_passes_43, nI_1]
      · exact (funext fun j => w9 q j ⟨.inl (by omega), .inl (by omega)⟩).trans (i1 q hq)
      · exact (funext fun j => w10 q j ⟨.inl (by omega), .inl (by omega)⟩).trans (j2 q hq)
      · rw [w10 206 j ⟨.inl (by decide), .inl (by decide)⟩]; exact j3.1 j hj
      · rw [w10 206 _ ⟨.inl (by decide), .inl (by decide)⟩]; exact j3.2 k' hk
      · by_cases e : j = w
        · subst e
          rw [w5, w6]
          exact ⟨rfl, hx⟩
        · rw [w9 17 j ⟨.inr e, .inl (by decide)⟩, w10 196 j ⟨.inr e, .inl (by decide)⟩]
          exact j5 j hj
      · by_cases e : j = 6 * w + k
        · subst e
          rw [w3, w4]
          exact ⟨rfl, show nI 0 ≤ nI g' from nI_le (by omega) (by omega), show nI g' ≤ nI 8 from nI_le (by omega) (by decide)⟩
        · rw [w9 18 j ⟨.inl (by decide), .inr e⟩, w10 198 j ⟨.inl (by decide), .inr e⟩]
          exact j6 j hj
      · rw [w9 14 j ⟨.inl (by decide), .inl (by decide)⟩, w10 204 j ⟨.inl (by decide), .inl (by decide)⟩]
        exact j7 j hj
      · rw [w9 15 j ⟨.inl (by decide), .inl (by decide)⟩, w10 203 j ⟨.inl (by decide), .inl (by decide)⟩]
        exact j8 j hj
      · rw [w9 16 j ⟨.inl (by decide), .inl (by decide)⟩, w10 205 j ⟨.inl (by decide), .inl (by decide)⟩]
        exact j9 j hj
      · rw [w9 16 j ⟨.inl (by decide), .inl (by decide)⟩]
        exact j10 j h1 h2
      · rw [show A' 15 = A 15 from funext fun j => w9 15 j ⟨.inl (by decide), .inl (by decide)⟩]
        exact j11
      · by_cases e : 6 * w' + k' = 6 * w + k
        · have e1 : w' = w := by omega
          have e2 : k' = k := by omega
          subst e1 e2
          rw [w3]
          refine ⟨fun _ => ?_, fun z => absurd z (by omega)⟩
          rw [n2]
          exact nI_lt w1 (by omega)
        · rw [w9 18 _ ⟨.inl (by decide), .inr e⟩]
          exact j12 w' k' hw' hk'
