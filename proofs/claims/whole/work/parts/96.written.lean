/-! written. -/
theorem sumN_c {f g : Nat → Nat} : ∀ k, (∀ i, i < k → f i = g i) → sumN f k = sumN g k
  | 0, _ => rfl
  | k + 1, h => by
    unfold sumN
    rw [sumN_c k (fun i hi => h i (by omega)), h k (by omega)]
theorem sumN_add {f g : Nat → Nat} : ∀ k, sumN (fun i => f i + g i) k = sumN f k + sumN g k
  | 0 => rfl
  | k + 1 => by
    unfold sumN
    rw [sumN_add k]
    omega
theorem sumN_z : ∀ k, sumN (fun _ => 0) k = 0
  | 0 => rfl
  | k + 1 => by
    unfold sumN
    rw [sumN_z k]
theorem cnt_s (f : Nat → Bool) : ∀ k, cnt f k = sumN (fun i => cond (f i) 1 0) k
  | 0 => rfl
  | k + 1 => by
    unfold cnt sumN
    rw [cnt_s f k]
/-- counted by rows, counted by columns -/
theorem cnt_rc (R : Nat → Nat → Bool) (m : Nat) : ∀ n, sumN (fun p => cnt (fun w => R w p) m) n = sumN (fun w => cnt (R w) n) m
  | 0 => (sumN_z m).symm
  | n + 1 => by
    show sumN (fun p => cnt (fun w => R w p) m) n + cnt (fun w => R w n) m = sumN (fun w => cnt (R w) n + cond (R w n) 1 0) m
    rw [cnt_rc R m n, sumN_add, cnt_s]
theorem cnt_sym {R : Nat → Nat → Bool} (hs : ∀ x y, R x y = R y x) (hi : ∀ x, R x x = false) : ∀ n, sumN (fun w => cnt (R w) n) n = 2 * sumN (fun w => cnt (R w) w) n
  | 0 => rfl
  | n + 1 => by
    show sumN (fun w => cnt (R w) n + cond (R w n) 1 0) n + (cnt (R n) n + cond (R n n) 1 0) = 2 * (sumN (fun w => cnt (R w) w) n + cnt (R n) n)
    rw [sumN_add, cnt_sym hs hi n, hi n, ← cnt_s, cnt_c (f := fun w => R w n) (g := R n) n (fun i _ => hs i n)]
    show _ + _ + (_ + 0) = _
    omega
theorem x_bits2 {a : zA} {b : zB} {g : Nat → Int32} (h : ∀ w, w < 10 → ∀ i, 10 ≤ i → i < 32 → hB (g w) i = false) : X_countBits (zfn a 172 10 g) b = okI (nI (sumN (fun w => cnt (hB (g w)) 10) 10)) (zfn a 172 10 g) b := by
  have hs : ∀ x i, 0 ≤ i → i < 10 → X_countBits_4 x (nI i) (zfn a 172 10 g) b = X_countBits_4 (x + pcI (g i)) (nI (i + 1)) (zfn a 172 10 g) b := by
    intro x i _ hi
    rw [q_X_countBits_4]
    simp (disch := omega) only [zqA0, zqB0, zqC0, zqD0, zqE0, zqF0, zqG0, zqH0, zqA1, zqB1, zqC1, zqD1, zqE1, zqF1, zqG1, zqH1, zqA2, zqB2, zqC2, zqD2, zqE2, zqF2, zqG2, zqH2, zqA3, zqB3, zqC3, zqD3, zqE3, zqF3, zqG3, zqH3, zqA4, zqB4, zqC4, zqD4, zqE4, zqF4, zqG4, zqH4, zqA5, zqB5, zqC5, zqD5, zqE5, zqF5, zqG5, zqH5, zqA6, zqB6, zqC6, zqD6, zqE6, zqF6, zqG6, zqH6, zqA8, zqB8, zqC8, zqD8, zqE8, zqF8, zqG8, zqH8, zqA9, zqB9, zqC9, zqD9, zqE9, zqF9, zqG9, zqH9, zqA10, zqB10, zqC10, zqD10, zqE10, zqF10, zqG10, zqH10, zqA11, zqB11, zqC11, zqD11, zqE11, zqF11, zqG11, zqH11, zqA16, zqB16, zqC16, zqD16, zqE16, zqF16, zqG16, zqH16, zqA18, zqB18, zqC18, zqD18, zqE18, zqF18, zqG18, zqH18, zqA20, zqB20, zqC20, zqD20, zqE20, zqF20, zqG20, zqH20, zqA60, zqB60, zqC60, zqD60, zqE60, zqF60, zqG60, zqH60, zqA63, zqB63, zqC63, zqD63, zqE63, zqF63, zqG63, zqH63, zqA80, zqB80, zqC80, zqD80, zqE80, zqF80, zqG80, zqH80, zqA100, zqB100, zqC100, zqD100, zqE100, zqF100, zqG100, zqH100, zqA120, zqB120, zqC120, zqD120, zqE120, zqF120, zqG120, zqH120, zqA630, zqB630, zqC630, zqD630, zqE630, zqF630, zqG630, zqH630, zqA1000, zqB1000, zqC1000, zqD1000, zqE1000, zqF1000, zqG1000, zqH1000, zqA1010, zqB1010, zqC1010, zqD1010, zqE1010, zqF1010, zqG1010, zqH1010, zqA5000, zqB5000, zqC5000, zqD5000, zqE5000, zqF5000, zqG5000, zqH5000, zz_p01, zz_p02, zz_p03, zz_p04, zz_p05, zz_p06, zz_p10, zz_p12, zz_p13, zz_p14, zz_p15, zz_p16, zz_p20, zz_p21, zz_p23, zz_p24, zz_p25, zz_p26, zz_p30, zz_p31, zz_p32, zz_p34, zz_p35, zz_p36, zz_p40, zz_p41, zz_p42, zz_p43, zz_p45, zz_p46, zz_p50, zz_p51, zz_p52, zz_p53, zz_p54, zz_p56, zz_p60, zz_p61, zz_p62, zz_p63, zz_p64, zz_p65, zz_q1, zz_w1, zz_q2, zz_w2, zz_q3, zz_w3, zz_q4, zz_w4, zz_q5, zz_w5, zz_q6, zz_w6, zz_w0, zz_m1, zz_lt, zz_01, zz_le, zz_eq, zz_n1, zz_in, zz_cl, zz_max, zz_min, zz_minN, zz_maxN, zz_02, zz_12, zz_c0, zz_c1, zz_b0, zz_b1, zz_bb, zz_d00, zz_d10, zz_neg, nI_add, pk_mul, zc_b0, zc_b1, cond_true, cond_false, zcI_ok, zcV_ok, okI_ret, okV_ret, zz_sub, zcond_t, zcond_f, bI_t, bI_f, eq_self, decide_true, decide_false, Bool.false_or, Bool.true_or, Bool.or_false, Bool.or_true, Bool.and_true, Bool.true_and, Bool.and_false, Bool.false_and, Bool.not_true, Bool.not_false, if_true, if_false]
    rw [zfn_j hi, x_pc, zcI_ok]
  have he : ∀ x, X_countBits_4 x (nI 10) (zfn a 172 10 g) b = okI x (zfn a 172 10 g) b := by
    intro x
    rw [q_X_countBits_4]
    simp (disch := omega) only [zqA0, zqB0, zqC0, zqD0, zqE0, zqF0, zqG0, zqH0, zqA1, zqB1, zqC1, zqD1, zqE1, zqF1, zqG1, zqH1, zqA2, zqB2, zqC2, zqD2, zqE2, zqF2, zqG2, zqH2, zqA3, zqB3, zqC3, zqD3, zqE3, zqF3, zqG3, zqH3, zqA4, zqB4, zqC4, zqD4, zqE4, zqF4, zqG4, zqH4, zqA5, zqB5, zqC5, zqD5, zqE5, zqF5, zqG5, zqH5, zqA6, zqB6, zqC6, zqD6, zqE6, zqF6, zqG6, zqH6, zqA8, zqB8, zqC8, zqD8, zqE8, zqF8, zqG8, zqH8, zqA9, zqB9, zqC9, zqD9, zqE9, zqF9, zqG9, zqH9, zqA10, zqB10, zqC10, zqD10, zqE10, zqF10, zqG10, zqH10, zqA11, zqB11, zqC11, zqD11, zqE11, zqF11, zqG11, zqH11, zqA16, zqB16, zqC16, zqD16, zqE16, zqF16, zqG16, zqH16, zqA18, zqB18, zqC18, zqD18, zqE18, zqF18, zqG18, zqH18, zqA20, zqB20, zqC20, zqD20, zqE20, zqF20, zqG20, zqH20, zqA60, zqB60, zqC60, zqD60, zqE60, zqF60, zqG60, zqH60, zqA63, zqB63, zqC63, zqD63, zqE63, zqF63, zqG63, zqH63, zqA80, zqB80, zqC80, zqD80, zqE80, zqF80, zqG80, zqH80, zqA100, zqB100, zqC100, zqD100, zqE100, zqF100, zqG100, zqH100, zqA120, zqB120, zqC120, zqD120, zqE120, zqF120, zqG120, zqH120, zqA630, zqB630, zqC630, zqD630, zqE630, zqF630, zqG630, zqH630, zqA1000, zqB1000, zqC1000, zqD1000, zqE1000, zqF1000, zqG1000, zqH1000, zqA1010, zqB1010, zqC1010, zqD1010, zqE1010, zqF1010, zqG1010, zqH1010, zqA5000, zqB5000, zqC5000, zqD5000, zqE5000, zqF5000, zqG5000, zqH5000, zz_p01, zz_p02, zz_p03, zz_p04, zz_p05, zz_p06, zz_p10, zz_p12, zz_p13, zz_p14, zz_p15, zz_p16, zz_p20, zz_p21, zz_p23, zz_p24, zz_p25, zz_p26, zz_p30, zz_p31, zz_p32, zz_p34, zz_p35, zz_p36, zz_p40, zz_p41, zz_p42, zz_p43, zz_p45, zz_p46, zz_p50, zz_p51, zz_p52, zz_p53, zz_p54, zz_p56, zz_p60, zz_p61, zz_p62, zz_p63, zz_p64, zz_p65, zz_q1, zz_w1, zz_q2, zz_w2, zz_q3, zz_w3, zz_q4, zz_w4, zz_q5, zz_w5, zz_q6, zz_w6, zz_w0, zz_m1, zz_lt, zz_01, zz_le, zz_eq, zz_n1, zz_in, zz_cl, zz_max, zz_min, zz_minN, zz_maxN, zz_02, zz_12, zz_c0, zz_c1, zz_b0, zz_b1, zz_bb, zz_d00, zz_d10, zz_neg, nI_add, pk_mul, zc_b0, zc_b1, cond_true, cond_false, zcI_ok, zcV_ok, okI_ret, okV_ret, zz_sub, zcond_t, zcond_f, bI_t, bI_f, eq_self, decide_true, decide_false, Bool.false_or, Bool.true_or, Bool.or_false, Bool.or_true, Bool.and_true, Bool.true_and, Bool.and_false, Bool.false_and, Bool.not_true, Bool.not_false, if_true, if_false]
  rw [q_X_countBits]
  refine (lpF (F := fun x i => X_countBits_4 x (nI i) (zfn a 172 10 g) b) hs he 10 0 0 (Nat.le_refl _) rfl).trans ?_
  rw [fF_sum 10 (fun i hi => pc_bits (h i hi))]
theorem fF_cnt {f : Nat → Bool} : ∀ k x, fF (fun i y => y + bI (f i)) 0 k (nI x) = nI (x + cnt f k)
  | 0, _ => rfl
  | k + 1, x => by
    rw [fF_sn, fF_cnt k, Nat.zero_add]
    show nI (x + cnt f k) + bI (f k) = nI (x + (cnt f k + cond (f k) 1 0))
    rw [show bI (f k) = nI (cond (f k) 1 0) from by cases f k <;> rfl, nI_add, Nat.add_assoc]
theorem r_written {L : Nat} {xs : Nat → Int32} : zAns (Rel L xs) X_written M_written := by
  intro a b hr
  obtain ⟨P, Q, T, G, N, hall⟩ := id hr
  obtain ⟨W, S, hv⟩ := vw_mask hall
  have h0 := v0_of hall
  have hR := vw_row hv
  obtain ⟨⟨g1, g2, g3, g4, g5⟩, ⟨⟨p1, p2⟩, ⟨q1, q2⟩, ⟨t1, t2⟩, ⟨w1, w2⟩, s1, s2⟩, -⟩ := id hv
  -- who was where
  obtain ⟨R, hRd⟩ : ∃ R : Nat → Nat → Nat → Bool, R = fun e w p => aF (fun d => decide (xE a d p = nI w)) (T - W) (e - (T - W)) && !hB (a 8 3) p := ⟨_, rfl⟩
  obtain ⟨U, hU⟩ : ∃ U : Nat → Nat → Int32, U = fun e p => cond (decide (p < Q)) (bitsN (fun w => R e w p) P) 0 := ⟨_, rfl⟩
  have fP : ∀ g, zfn a 172 10 g 2 0 = nI P := fun g => (congrFun (zfn_q (by decide)) 0).trans p1
  have fQ : ∀ g, zfn a 172 10 g 2 1 = nI Q := fun g => (congrFun (zfn_q (by decide)) 1).trans q1
  have fT : ∀ g, zfn a 172 10 g 12 6 = nI T := fun g => (congrFun (zfn_q (by decide)) 6).trans t1
  have fr : ∀ g p, p < 10 → L_isFree (nI p) (zfn a 172 10 g) b = okI (bI (hB (a 8 3) p)) (zfn a 172 10 g) b := fun g p hp => by
    rw [q_L_isFree, zfn_q (by decide), hB_test (by omega), zc_b0]
    cases hB (a 8 3) p
    · simp (disch := omega) only [zqA0, zqB0, zqC0, zqD0, zqE0, zqF0, zqG0, zqH0, zqA1, zqB1, zqC1, zqD1, zqE1, zqF1, zqG1, zqH1, zqA2, zqB2, zqC2, zqD2, zqE2, zqF2, zqG2, zqH2, zqA3, zqB3, zqC3, zqD3, zqE3, zqF3, zqG3, zqH3, zqA4, zqB4, zqC4, zqD4, zqE4, zqF4, zqG4, zqH4, zqA5, zqB5, zqC5, zqD5, zqE5, zqF5, zqG5, zqH5, zqA6, zqB6, zqC6, zqD6, zqE6, zqF6, zqG6, zqH6, zqA8, zqB8, zqC8, zqD8, zqE8, zqF8, zqG8, zqH8, zqA9, zqB9, zqC9, zqD9, zqE9, zqF9, zqG9, zqH9, zqA10, zqB10, zqC10, zqD10, zqE10, zqF10, zqG10, zqH10, zqA11, zqB11, zqC11, zqD11, zqE11, zqF11, zqG11, zqH11, zqA16, zqB16, zqC16, zqD16, zqE16, zqF16, zqG16, zqH16, zqA18, zqB18, zqC18, zqD18, zqE18, zqF18, zqG18, zqH18, zqA20, zqB20, zqC20, zqD20, zqE20, zqF20, zqG20, zqH20, zqA60, zqB60, zqC60, zqD60, zqE60, zqF60, zqG60, zqH60, zqA63, zqB63, zqC63, zqD63, zqE63, zqF63, zqG63, zqH63, zqA80, zqB80, zqC80, zqD80, zqE80, zqF80, zqG80, zqH80, zqA100, zqB100, zqC100, zqD100, zqE100, zqF100, zqG100, zqH100, zqA120, zqB120, zqC120, zqD120, zqE120, zqF120, zqG120, zqH120, zqA630, zqB630, zqC630, zqD630, zqE630, zqF630, zqG630, zqH630, zqA1000, zqB1000, zqC1000, zqD1000, zqE1000, zqF1000, zqG1000, zqH1000, zqA1010, zqB1010, zqC1010, zqD1010, zqE1010, zqF1010, zqG1010, zqH1010, zqA5000, zqB5000, zqC5000, zqD5000, zqE5000, zqF5000, zqG5000, zqH5000, zz_p01, zz_p02, zz_p03, zz_p04, zz_p05, zz_p06, zz_p10, zz_p12, zz_p13, zz_p14, zz_p15, zz_p16, zz_p20, zz_p21, zz_p23, zz_p24, zz_p25, zz_p26, zz_p30, zz_p31, zz_p32, zz_p34, zz_p35, zz_p36, zz_p40, zz_p41, zz_p42, zz_p43, zz_p45, zz_p46, zz_p50, zz_p51, zz_p52, zz_p53, zz_p54, zz_p56, zz_p60, zz_p61, zz_p62, zz_p63, zz_p64, zz_p65, zz_q1, zz_w1, zz_q2, zz_w2, zz_q3, zz_w3, zz_q4, zz_w4, zz_q5, zz_w5, zz_q6, zz_w6, zz_w0, zz_m1, zz_lt, zz_01, zz_le, zz_eq, zz_n1, zz_in, zz_cl, zz_max, zz_min, zz_minN, zz_maxN, zz_02, zz_12, zz_c0, zz_c1, zz_b0, zz_b1, zz_bb, zz_d00, zz_d10, zz_neg, nI_add, pk_mul, zc_b0, zc_b1, cond_true, cond_false, zcI_ok, zcV_ok, okI_ret, okV_ret, zz_sub, zcond_t, zcond_f, bI_t, bI_f, eq_self, decide_true, decide_false, Bool.false_or, Bool.true_or, Bool.or_false, Bool.or_true, Bool.and_true, Bool.true_and, Bool.and_false, Bool.false_and, Bool.not_true, Bool.not_false, if_true, if_false, q_L_isFree_16]
    · simp (disch := omega) only [zqA0, zqB0, zqC0, zqD0, zqE0, zqF0, zqG0, zqH0, zqA1, zqB1, zqC1, zqD1, zqE1, zqF1, zqG1, zqH1, zqA2, zqB2, zqC2, zqD2, zqE2, zqF2, zqG2, zqH2, zqA3, zqB3, zqC3, zqD3, zqE3, zqF3, zqG3, zqH3, zqA4, zqB4, zqC4, zqD4, zqE4, zqF4, zqG4, zqH4, zqA5, zqB5, zqC5, zqD5, zqE5, zqF5, zqG5, zqH5, zqA6, zqB6, zqC6, zqD6, zqE6, zqF6, zqG6, zqH6, zqA8, zqB8, zqC8, zqD8, zqE8, zqF8, zqG8, zqH8, zqA9, zqB9, zqC9, zqD9, zqE9, zqF9, zqG9, zqH9, zqA10, zqB10, zqC10, zqD10, zqE10, zqF10, zqG10, zqH10, zqA11, zqB11, zqC11, zqD11, zqE11, zqF11, zqG11, zqH11, zqA16, zqB16, zqC16, zqD16, zqE16, zqF16, zqG16, zqH16, zqA18, zqB18, zqC18, zqD18, zqE18, zqF18, zqG18, zqH18, zqA20, zqB20, zqC20, zqD20, zqE20, zqF20, zqG20, zqH20, zqA60, zqB60, zqC60, zqD60, zqE60, zqF60, zqG60, zqH60, zqA63, zqB63, zqC63, zqD63, zqE63, zqF63, zqG63, zqH63, zqA80, zqB80, zqC80, zqD80, zqE80, zqF80, zqG80, zqH80, zqA100, zqB100, zqC100, zqD100, zqE100, zqF100, zqG100, zqH100, zqA120, zqB120, zqC120, zqD120, zqE120, zqF120, zqG120, zqH120, zqA630, zqB630, zqC630, zqD630, zqE630, zqF630, zqG630, zqH630, zqA1000, zqB1000, zqC1000, zqD1000, zqE1000, zqF1000, zqG1000, zqH1000, zqA1010, zqB1010, zqC1010, zqD1010, zqE1010, zqF1010, zqG1010, zqH1010, zqA5000, zqB5000, zqC5000, zqD5000, zqE5000, zqF5000, zqG5000, zqH5000, zz_p01, zz_p02, zz_p03, zz_p04, zz_p05, zz_p06, zz_p10, zz_p12, zz_p13, zz_p14, zz_p15, zz_p16, zz_p20, zz_p21, zz_p23, zz_p24, zz_p25, zz_p26, zz_p30, zz_p31, zz_p32, zz_p34, zz_p35, zz_p36, zz_p40, zz_p41, zz_p42, zz_p43, zz_p45, zz_p46, zz_p50, zz_p51, zz_p52, zz_p53, zz_p54, zz_p56, zz_p60, zz_p61, zz_p62, zz_p63, zz_p64, zz_p65, zz_q1, zz_w1, zz_q2, zz_w2, zz_q3, zz_w3, zz_q4, zz_w4, zz_q5, zz_w5, zz_q6, zz_w6, zz_w0, zz_m1, zz_lt, zz_01, zz_le, zz_eq, zz_n1, zz_in, zz_cl, zz_max, zz_min, zz_minN, zz_maxN, zz_02, zz_12, zz_c0, zz_c1, zz_b0, zz_b1, zz_bb, zz_d00, zz_d10, zz_neg, nI_add, pk_mul, zc_b0, zc_b1, cond_true, cond_false, zcI_ok, zcV_ok, okI_ret, okV_ret, zz_sub, zcond_t, zcond_f, bI_t, bI_f, eq_self, decide_true, decide_false, Bool.false_or, Bool.true_or, Bool.or_false, Bool.or_true, Bool.and_true, Bool.true_and, Bool.and_false, Bool.false_and, Bool.not_true, Bool.not_false, if_true, if_false, q_L_isFree_16]
  have on : ∀ g d p, d ≤ T → p < 10 → S_onePlaced (nI d) (nI p) (zfn a 172 10 g) b = okI (xE a d p) (zfn a 172 10 g) b := fun g d p hd hp => by
    rw [s_onePlaced (by omega) hp, zfn_q (by decide)]
    rfl
  have inner : ∀ d, T - W ≤ d → d < T → X_written_43 (nI d) 0 (zfn a 172 10 (U d)) b = X_written_30 (nI (d + 1)) (zfn a 172 10 (U (d + 1))) b := by
    intro d hd1 hd2
    have hs : ∀ p, p < Q → X_written_43 (nI d) (nI p) (zfn a 172 10 (fun k => if k < p then U (d + 1) k else U d k)) b = X_written_43 (nI d) (nI (p + 1)) (zfn a 172 10 (fun k => if k < p + 1 then U (d + 1) k else U d k)) b := by
      intro p hp
      have l1 : p < 10 := by omega
      have step : ∀ i, i < 32 → hB (U (d + 1) p) i = (hB (U d p) i || (decide (i < P) && (decide (xE a d p = nI i) && !hB (a 8 3) p))) := by
        intro i hi
        rw [hU]
        show hB (cond (decide (p < Q)) (bitsN (fun w => R (d + 1) w p) P) 0) i = (hB (cond (decide (p < Q)) (bitsN (fun w => R d w p) P) 0) i || _)
        rw [decide_eq_true hp, cond_true, cond_true, hB_bitsN (by omega) hi, hB_bitsN (by omega) hi, hRd]
        have := aF_sn (f := fun d => decide (xE a d p = nI i)) (d - (T - W)) (T - W)
        rw [show d - (T - W) + 1 = d + 1 - (T - W) by omega, show T - W + (d - (T - W)) = d by omega] at this
        show (decide (i < P) && (aF (fun d => decide (xE a d p = nI i)) (T - W) (d + 1 - (T - W)) && !hB (a 8 3) p)) = ((decide (i < P) && (aF (fun d => decide (xE a d p = nI i)) (T - W) (d - (T - W)) && !hB (a 8 3) p)) || _)
        rw [this]
        cases decide (i < P) <;> cases aF (fun d => decide (xE a d p = nI i)) (T - W) (d - (T - W)) <;> cases decide (xE a d p = nI i) <;> cases hB (a 8 3) p <;> rfl
      have same : (∀ i, i < 32 → (decide (i < P) && (decide (xE a d p = nI i) && !hB (a 8 3) p)) = false) → zfn a 172 10 (fun k => if k < p then U (d + 1) k else U d k) = zfn a 172 10 (fun k => if k < p + 1 then U (d + 1) k else U d k) := by
        intro h
        refine zfn_c fun k hk => ?_
        show (if k < p then U (d + 1) k else U d k) = (if k < p + 1 then U (d + 1) k else U d k)
        by_cases e : k = p
        · subst e
          rw [if_neg (Nat.lt_irrefl k), if_pos (Nat.lt_succ_self k)]
          exact hB_ext fun i hi => by rw [step i hi, h i hi, Bool.or_false]
        · by_cases e2 : k < p
          · rw [if_pos e2, if_pos (by omega)]
          · rw [if_neg e2, if_neg (by omega)]
      rw [q_X_written_43, fQ, zcond_t (nI_lt hp (by omega)), on _ d p (by omega) l1, zcI_ok]
      rcases (hR d (by omega)).1 p hp with e1 | ⟨w, hw, e1⟩
      · rw [e1, hp_f (fP _) (fun z => z.1 (by decide)), zcI_ok, zcond_t rfl, q_X_written_98, nI_1, same (fun i hi => by rw [e1, decide_eq_false (show ¬ (-1 : Int32) = nI i from fun z => nI_m1 (w := i) (by omega) z.symm)]; cases decide (i < P) <;> rfl)]
      · rw [e1, hp_t (fP _) ⟨nI_pos (by omega), nI_lt hw (by omega)⟩, zcI_ok, zcond_f (by decide), fr _ p l1, zcI_ok, zc_b0]
        cases hf : hB (a 8 3) p
        · have zp : zin (nI p) 10 = true := zin_nI l1 (by decide)
          rw [cond_false, zp, cond_true, cond_true, show (nI p).toNatClampNeg = p from nI_clamp (by omega), zfn_j l1, zfn_up l1, if_neg (Nat.lt_irrefl p), q_X_written_98, nI_1]
          refine congrArg (fun m => X_written_43 (nI d) (nI (p + 1)) m b) (zfn_c fun k hk => ?_)
          show (if k = p then U d p ||| (1 <<< (nI w &&& 31)) else if k < p then U (d + 1) k else U d k) = (if k < p + 1 then U (d + 1) k else U d k)
          by_cases e : k = p
          · subst e
            rw [if_pos rfl, if_pos (Nat.lt_succ_self k)]
            refine hB_ext fun i hi => ?_
            rw [step i hi, hB_or, hB_bit (by omega) i hi, e1, hf, Bool.not_false, Bool.and_true, zz_deq (by omega) (by omega)]
            congr 1
            by_cases e3 : i = w
            · subst e3
              rw [decide_eq_true hw, decide_eq_true rfl]
              rfl
            · rw [decide_eq_false e3, decide_eq_false (show ¬ w = i from fun z => e3 z.symm), Bool.and_false]
          · rw [if_neg e]
            by_cases e2 : k < p
            · rw [if_pos e2, if_pos (by omega)]
            · rw [if_neg e2, if_neg (by omega)]
        · rw [cond_true, q_X_written_98, nI_1, same (fun i hi => by rw [hf, Bool.not_true, Bool.and_false, Bool.and_false])]
    have h := lpC (F := fun i => X_written_43 (nI d) (nI i) (zfn a 172 10 (fun k => if k < i then U (d + 1) k else U d k)) b) hs Q 0 (Nat.zero_add _)
    have e0 : zfn a 172 10 (U d) = zfn a 172 10 (fun k => if k < 0 then U (d + 1) k else U d k) := zfn_c fun k _ => (if_neg (Nat.not_lt_zero k)).symm
    rw [e0]
    refine Eq.trans h ?_
    rw [q_X_written_43, fQ, zcond_f (nI_nlt (Nat.le_refl _) (by omega)), nI_1]
    refine congrArg (fun m => X_written_30 (nI (d + 1)) m b) (zfn_c fun k hk => ?_)
    show (if k < Q then U (d + 1) k else U d k) = U (d + 1) k
    by_cases e : k < Q
    · rw [if_pos e]
    · rw [if_neg e, hU]
      show cond (decide (k < Q)) _ _ = cond (decide (k < Q)) _ _
      rw [decide_eq_false e]
      rfl
  have hW1 := lpC (F := fun i => X_written_30 (nI (T - W + i)) (zfn a 172 10 (U (T - W + i))) b) (n := T - (T - W)) (fun i hi => by
    show X_written_30 (nI (T - W + i)) _ b = X_written_30 (nI (T - W + (i + 1))) _ b
    rw [q_X_written_30, fT, zcond_t (nI_lt (by omega) (by omega))]
    exact inner (T - W + i) (by omega) (by omega)) (T - (T - W)) 0 (Nat.zero_add _)
  rw [Nat.add_zero, show T - W + (T - (T - W)) = T by omega] at hW1
  have u0 : zfn a 172 10 (fun _ => 0) = zfn a 172 10 (U (T - W)) := zfn_c fun k hk => by
    rw [hU]
    show 0 = cond (decide (k < Q)) (bitsN (fun w => R (T - W) w k) P) 0
    cases decide (k < Q)
    · rfl
    · refine hB_ext fun i hi => ?_
      rw [cond_true, hB_zero, hB_bitsN (by omega) hi, hRd]
      show false = (decide (i < P) && (aF _ (T - W) (T - W - (T - W)) && _))
      rw [Nat.sub_self]
      cases decide (i < P) <;> rfl
  -- whom one met
  obtain ⟨V, hV⟩ : ∃ V : Nat → Nat → Int32, V = fun e w => fF (fun e x => x ||| nbK (xE a) e w (Q - 1)) (T - S) (e - (T - S)) 0 := ⟨_, rfl⟩
  have vs : ∀ d, T - S ≤ d → V (d + 1) = fun w => V d w ||| nbK (xE a) d w (Q - 1) := fun d hd => by
    funext w
    rw [hV]
    show fF _ (T - S) (d + 1 - (T - S)) 0 = fF _ (T - S) (d - (T - S)) 0 ||| _
    rw [show d + 1 - (T - S) = d - (T - S) + 1 by omega, fF_sn, show T - S + (d - (T - S)) = d by omega]
  have v0' : zfn a 172 10 (fun _ => 0) = zfn a 172 10 (V (T - S)) := zfn_c fun k hk => by
    rw [hV]
    show 0 = fF _ (T - S) (T - S - (T - S)) 0
    rw [Nat.sub_self]
    rfl
  have hV1 := fun (v : Int32) => lpC (F := fun i => X_written_145 v (nI (T - S + i)) (zfn a 172 10 (V (T - S + i))) b) (n := T - (T - S)) (fun i hi => by
    show X_written_145 v (nI (T - S + i)) _ b = X_written_145 v (nI (T - S + (i + 1))) _ b
    have e1 := x_adds (b := b) (g := V (T - S + i)) (show T - S + i ≤ 60 by omega) g1 g2 p1 (hR (T - S + i) (by omega))
    rw [← vs _ (by omega)] at e1
    rw [q_X_written_145, fT, zcond_t (nI_lt (by omega) (by omega)), e1, zcV_ok, nI_1]
    rfl) (T - (T - S)) 0 (Nat.zero_add _)
  rw [Nat.add_zero, show T - S + (T - (T - S)) = T by omega] at hV1
  have vb : ∀ w i, i < 32 → hB (V T w) i = metB (xE a) Q T S T w i := fun w i hi => by
    rw [hV]
    show hB (fF _ (T - S) (T - (T - S)) 0) i = _
    rw [fF_or, hB_zero, Bool.false_or]
    unfold metB nbK
    rw [Nat.min_self]
    exact congrArg (fun f => aF f (T - S) (T - (T - S))) (funext fun e => hB_bits hi)
  have vi : ∀ w i, w < 10 → i < 32 → hB (V T w) i = true → w < P ∧ i < P ∧ i ≠ w := by
    intro w i hw hi h
    rw [hV] at h
    have h : hB (fF (fun e x => x ||| nbK (xE a) e w (Q - 1)) (T - S) (T - (T - S)) 0) i = true := h
    rw [fF_or, hB_zero, Bool.false_or, aF_i] at h
    obtain ⟨e, k1, k2, k3⟩ := h
    exact nbK_i (by omega) hi (hR e (by omega)) g1 k3
  -- the numbers
  have ub : ∀ p, p < 10 → ∀ i, i < 32 → hB (U T p) i = (decide (p < Q) && (decide (i < P) && (thereB (xE a) T W p T i && !hB (a 8 3) p))) := fun p hp i hi => by
    rw [hU]
    show hB (cond (decide (p < Q)) (bitsN (fun w => R T w p) P) 0) i = _
    cases decide (p < Q)
    · exact hB_zero i
    · rw [cond_true, hB_bitsN (by omega) hi, hRd, Bool.true_and]
      unfold thereB
      rw [Nat.min_self]
  obtain ⟨RR, hRR⟩ : ∃ RR : Nat → Nat → Bool, RR = fun w p => thereB (xE a) T W p T w && !hB (a 8 3) p := ⟨_, rfl⟩
  have n1 : sumN (fun w => cnt (hB (U T w)) 10) 10 = sumN (fun w => cnt (RR w) Q) P := by
    rw [← cnt_rc RR P Q]
    have z : ∀ p, Q ≤ p → (fun p => if p < 10 then cnt (hB (U T p)) 10 else 0) p = 0 := fun p hp => by
      show (if p < 10 then cnt (hB (U T p)) 10 else 0) = 0
      by_cases c : p < 10
      · rw [if_pos c]
        exact (cnt_0 10).mpr fun i hi => by rw [ub p c i (by omega), decide_eq_false (by omega)]; rfl
      · rw [if_neg c]
    rw [sumN_c (f := fun w => cnt (hB (U T w)) 10) (g := fun p => if p < 10 then cnt (hB (U T p)) 10 else 0) 10 (fun i hi => (if_pos hi).symm), sumN_tail z 10 g2]
    refine sumN_c Q fun p hp => ?_
    show (if p < 10 then cnt (hB (U T p)) 10 else 0) = cnt (fun w => RR w p) P
    rw [if_pos (by omega)]
    have : cnt (hB (U T p)) 10 = cnt (fun i => decide (i < P) && RR i p) 10 := cnt_c 10 fun i hi => by
      rw [ub p (by omega) i (by omega), decide_eq_true hp, Bool.true_and, hRR]
    rw [this, cnt_tail (n := P) (fun i hi => by rw [decide_eq_false (by omega)]; rfl) 10 g1]
    exact cnt_c P fun i hi => by rw [decide_eq_true hi, Bool.true_and]
  obtain ⟨MM, hMM⟩ : ∃ MM : Nat → Nat → Bool, MM = fun w i => decide (w < 10) && (decide (i < 10) && metB (xE a) Q T S T w i) := ⟨_, rfl⟩
  have mm : ∀ w i, w < 10 → i < 10 → MM w i = metB (xE a) Q T S T w i := fun w i hw hi => by
    rw [hMM]
    show (decide (w < 10) && (decide (i < 10) && _)) = _
    rw [decide_eq_true hw, decide_eq_true hi]
    rfl
  have n2 : sumN (fun w => cnt (hB (V T w)) 10) 10 = 2 * sumN (fun w => cnt (MM w) w) P := by
    have ms : ∀ x y, MM x y = MM y x := fun x y => by
      rw [hMM]
      show (decide (x < 10) && (decide (y < 10) && metB (xE a) Q T S T x y)) = (decide (y < 10) && (decide (x < 10) && metB (xE a) Q T S T y x))
      have : metB (xE a) Q T S T x y = metB (xE a) Q T S T y x := by
        unfold metB nbF
        exact aF_congr _ _ fun e _ _ => aF_congr _ _ fun p _ _ => Bool.or_comm _ _
      rw [this]
      cases decide (x < 10) <;> cases decide (y < 10) <;> rfl
    have mi : ∀ x, MM x x = false := fun x => by
      rw [hMM]
      show (decide (x < 10) && (decide (x < 10) && metB (xE a) Q T S T x x)) = false
      by_cases c : x < 10
      · have : metB (xE a) Q T S T x x = false := Bool.eq_false_iff.mpr fun z => (vi x x c (by omega) ((vb x x (by omega)).trans z)).2.2 rfl
        rw [this, Bool.and_false, Bool.and_false]
      · rw [decide_eq_false c]
        rfl
    rw [sumN_c (g := fun w => cnt (MM w) 10) 10 (fun w hw => cnt_c 10 fun i hi => by rw [vb w i (by omega), mm w i hw hi]), cnt_sym ms mi]
    have z : ∀ w, P ≤ w → cnt (MM w) w = 0 := fun w hw => (cnt_0 w).mpr fun i hi => Bool.eq_false_iff.mpr fun y => by
      rw [hMM] at y
      have y : (decide (w < 10) && (decide (i < 10) && metB (xE a) Q T S T w i)) = true := y
      rw [Bool.and_eq_true, Bool.and_eq_true, decide_eq_true_iff, decide_eq_true_iff] at y
      have := vi w i y.1 (by omega) ((vb w i (by omega)).trans y.2.2)
      omega
    rw [sumN_tail z 10 g1]
  obtain ⟨v1, hv1⟩ : ∃ v1, v1 = sumN (fun w => cnt (RR w) Q) P := ⟨_, rfl⟩
  obtain ⟨v2, hv2⟩ : ∃ v2, v2 = sumN (fun w => cnt (MM w) w) P := ⟨_, rfl⟩
  have v2b : v2 ≤ 10 * 10 := by
    rw [hv2]
    exact Nat.le_trans (sumN_le (m := 10) P (fun w hw => Nat.le_trans (cnt_le _ _) (by omega))) (Nat.mul_le_mul g1 (Nat.le_refl 10))
  obtain ⟨A, hA⟩ : ∃ A, A = zfn a 172 10 (V T) := ⟨_, rfl⟩
  have mA : zmask A = zmask a := by rw [hA]; exact zm_fn (fun _ => rfl)
  have hX : X_written a b = okI (nI v1) (xT A [nI v2]) b := by
    have e1 := x_bits2 (a := a) (b := b) (g := U T) (fun w hw i h1 h2 => by rw [ub w hw i h2, decide_eq_false (show ¬ i < P by omega)]; cases decide (w < Q) <;> rfl)
    have e2 := x_bits2 (a := zup a 1 12 0) (b := b) (g := V T) (fun w hw i h1 h2 => Bool.eq_false_iff.mpr fun z => by
      have := vi w i hw h2 z
      omega)
    have sw : zfn (zup a 1 12 0) 172 10 (V T) = xT A [] := by
      rw [hA]
      funext q j
      show (if q = 172 ∧ j < 10 then V T j else zup a 1 12 0 q j) = zup (zfn a 172 10 (V T)) 1 12 0 q j
      unfold zup zfn
      by_cases c : q = 172 ∧ j < 10
      · rw [if_pos c, if_neg (by omega), if_pos c]
      · rw [if_neg c, if_neg c]
    rw [sw] at e2
    have re : ∀ g, zfn (zfn a 172 10 g) 172 10 (fun _ => 0) = zfn a 172 10 (fun _ => 0) := fun g => by
      funext q j
      unfold zfn
      by_cases c : q = 172 ∧ j < 10
      · rw [if_pos c, if_pos c]
      · rw [if_neg c, if_neg c, if_neg c]
    have k9 : ∀ g, zfn a 172 10 g 9 0 = nI W := fun g => (congrFun (zfn_q (by decide)) 0).trans w1
    have k91 : ∀ g, zfn a 172 10 g 9 1 = nI S := fun g => (congrFun (zfn_q (by decide)) 1).trans s1
    have fin : ∀ v, X_written_145 v (nI T) (zfn a 172 10 (V T)) b = okI v (xT A [nI v2]) b := by
      intro v
      rw [q_X_written_145, fT, zcond_f (nI_nlt (Nat.le_refl _) (by omega)), ← hA, x_clear, zcV_ok, e2, zcI_ok, n2, ← hv2, div2 (by omega), show 2 * v2 / 2 = v2 by omega, zcond_f (show ¬ (2 : Int32) = 0 by decide), x_t0, zcV_ok]
      exact okI_ret _ _ _
    rw [q_X_written, x_fill0, zcV_ok, zz_02, cond_true, zz_c0, fT, k9, zz_max (by omega) (by omega), u0, hW1, q_X_written_30, fT, zcond_f (nI_nlt (Nat.le_refl _) (by omega)), e1, zcI_ok, x_fill0, zcV_ok, re, zz_12, cond_true, zz_c1, fT, k91, zz_max (by omega) (by omega), v0', hV1, fin, n1, ← hv1]
  have hM : ∀ c, vw P Q T W S a c → v0 c → M_written_9 0 0 c b = okI (nI v1) (mT c [nI v2]) b := by
    intro c hc hc0
    have hE := vw_E hc (Nat.le_refl T)
    obtain ⟨⟨-, p3⟩, ⟨-, q3⟩, ⟨-, t3⟩, ⟨-, w3⟩, -⟩ := hc.2.1
    have f3 := hc.2.2.1.1
    have was : ∀ w p, p < Q → M_wasThere (nI w) (nI p) (nI T) c b = okI (bI (RR w p)) c b := fun w p hp => by
      rw [m_was (E := xE a) hp g2 (by omega) w3 g4 hE, thereB_d (Nat.le_refl T), ← f3, hRR]
    have i19 : ∀ x w, w < P → M_written_19 x (nI w) 0 c b = M_written_9 (fF (fun p y => y + bI (RR w p)) 0 Q x) (nI (w + 1)) c b := by
      intro x w hw
      have hs : ∀ x p, 0 ≤ p → p < Q → M_written_19 x (nI w) (nI p) c b = M_written_19 (x + bI (RR w p)) (nI w) (nI (p + 1)) c b := by
        intro x p _ hp
        rw [q_M_written_19, q3, t3, was w p hp]
        simp (disch := omega) only [zqA0, zqB0, zqC0, zqD0, zqE0, zqF0, zqG0, zqH0, zqA1, zqB1, zqC1, zqD1, zqE1, zqF1, zqG1, zqH1, zqA2, zqB2, zqC2, zqD2, zqE2, zqF2, zqG2, zqH2, zqA3, zqB3, zqC3, zqD3, zqE3, zqF3, zqG3, zqH3, zqA4, zqB4, zqC4, zqD4, zqE4, zqF4, zqG4, zqH4, zqA5, zqB5, zqC5, zqD5, zqE5, zqF5, zqG5, zqH5, zqA6, zqB6, zqC6, zqD6, zqE6, zqF6, zqG6, zqH6, zqA8, zqB8, zqC8, zqD8, zqE8, zqF8, zqG8, zqH8, zqA9, zqB9, zqC9, zqD9, zqE9, zqF9, zqG9, zqH9, zqA10, zqB10, zqC10, zqD10, zqE10, zqF10, zqG10, zqH10, zqA11, zqB11, zqC11, zqD11, zqE11, zqF11, zqG11, zqH11, zqA16, zqB16, zqC16, zqD16, zqE16, zqF16, zqG16, zqH16, zqA18, zqB18, zqC18, zqD18, zqE18, zqF18, zqG18, zqH18, zqA20, zqB20, zqC20, zqD20, zqE20, zqF20, zqG20, zqH20, zqA60, zqB60, zqC60, zqD60, zqE60, zqF60, zqG60, zqH60, zqA63, zqB63, zqC63, zqD63, zqE63, zqF63, zqG63, zqH63, zqA80, zqB80, zqC80, zqD80, zqE80, zqF80, zqG80, zqH80, zqA100, zqB100, zqC100, zqD100, zqE100, zqF100, zqG100, zqH100, zqA120, zqB120, zqC120, zqD120, zqE120, zqF120, zqG120, zqH120, zqA630, zqB630, zqC630, zqD630, zqE630, zqF630, zqG630, zqH630, zqA1000, zqB1000, zqC1000, zqD1000, zqE1000, zqF1000, zqG1000, zqH1000, zqA1010, zqB1010, zqC1010, zqD1010, zqE1010, zqF1010, zqG1010, zqH1010, zqA5000, zqB5000, zqC5000, zqD5000, zqE5000, zqF5000, zqG5000, zqH5000, zz_p01, zz_p02, zz_p03, zz_p04, zz_p05, zz_p06, zz_p10, zz_p12, zz_p13, zz_p14, zz_p15, zz_p16, zz_p20, zz_p21, zz_p23, zz_p24, zz_p25, zz_p26, zz_p30, zz_p31, zz_p32, zz_p34, zz_p35, zz_p36, zz_p40, zz_p41, zz_p42, zz_p43, zz_p45, zz_p46, zz_p50, zz_p51, zz_p52, zz_p53, zz_p54, zz_p56, zz_p60, zz_p61, zz_p62, zz_p63, zz_p64, zz_p65, zz_q1, zz_w1, zz_q2, zz_w2, zz_q3, zz_w3, zz_q4, zz_w4, zz_q5, zz_w5, zz_q6, zz_w6, zz_w0, zz_m1, zz_lt, zz_01, zz_le, zz_eq, zz_n1, zz_in, zz_cl, zz_max, zz_min, zz_minN, zz_maxN, zz_02, zz_12, zz_c0, zz_c1, zz_b0, zz_b1, zz_bb, zz_d00, zz_d10, zz_neg, nI_add, pk_mul, zc_b0, zc_b1, cond_true, cond_false, zcI_ok, zcV_ok, okI_ret, okV_ret, zz_sub, zcond_t, zcond_f, bI_t, bI_f, eq_self, decide_true, decide_false, Bool.false_or, Bool.true_or, Bool.or_false, Bool.or_true, Bool.and_true, Bool.true_and, Bool.and_false, Bool.false_and, Bool.not_true, Bool.not_false, if_true, if_false, m_flag]
      have he : ∀ x, M_written_19 x (nI w) (nI Q) c b = M_written_9 x (nI (w + 1)) c b := by
        intro x
        rw [q_M_written_19, q3]
        simp (disch := omega) only [zqA0, zqB0, zqC0, zqD0, zqE0, zqF0, zqG0, zqH0, zqA1, zqB1, zqC1, zqD1, zqE1, zqF1, zqG1, zqH1, zqA2, zqB2, zqC2, zqD2, zqE2, zqF2, zqG2, zqH2, zqA3, zqB3, zqC3, zqD3, zqE3, zqF3, zqG3, zqH3, zqA4, zqB4, zqC4, zqD4, zqE4, zqF4, zqG4, zqH4, zqA5, zqB5, zqC5, zqD5, zqE5, zqF5, zqG5, zqH5, zqA6, zqB6, zqC6, zqD6, zqE6, zqF6, zqG6, zqH6, zqA8, zqB8, zqC8, zqD8, zqE8, zqF8, zqG8, zqH8, zqA9, zqB9, zqC9, zqD9, zqE9, zqF9, zqG9, zqH9, zqA10, zqB10, zqC10, zqD10, zqE10, zqF10, zqG10, zqH10, zqA11, zqB11, zqC11, zqD11, zqE11, zqF11, zqG11, zqH11, zqA16, zqB16, zqC16, zqD16, zqE16, zqF16, zqG16, zqH16, zqA18, zqB18, zqC18, zqD18, zqE18, zqF18, zqG18, zqH18, zqA20, zqB20, zqC20, zqD20, zqE20, zqF20, zqG20, zqH20, zqA60, zqB60, zqC60, zqD60, zqE60, zqF60, zqG60, zqH60, zqA63, zqB63, zqC63, zqD63, zqE63, zqF63, zqG63, zqH63, zqA80, zqB80, zqC80, zqD80, zqE80, zqF80, zqG80, zqH80, zqA100, zqB100, zqC100, zqD100, zqE100, zqF100, zqG100, zqH100, zqA120, zqB120, zqC120, zqD120, zqE120, zqF120, zqG120, zqH120, zqA630, zqB630, zqC630, zqD630, zqE630, zqF630, zqG630, zqH630, zqA1000, zqB1000, zqC1000, zqD1000, zqE1000, zqF1000, zqG1000, zqH1000, zqA1010, zqB1010, zqC1010, zqD1010, zqE1010, zqF1010, zqG1010, zqH1010, zqA5000, zqB5000, zqC5000, zqD5000, zqE5000, zqF5000, zqG5000, zqH5000, zz_p01, zz_p02, zz_p03, zz_p04, zz_p05, zz_p06, zz_p10, zz_p12, zz_p13, zz_p14, zz_p15, zz_p16, zz_p20, zz_p21, zz_p23, zz_p24, zz_p25, zz_p26, zz_p30, zz_p31, zz_p32, zz_p34, zz_p35, zz_p36, zz_p40, zz_p41, zz_p42, zz_p43, zz_p45, zz_p46, zz_p50, zz_p51, zz_p52, zz_p53, zz_p54, zz_p56, zz_p60, zz_p61, zz_p62, zz_p63, zz_p64, zz_p65, zz_q1, zz_w1, zz_q2, zz_w2, zz_q3, zz_w3, zz_q4, zz_w4, zz_q5, zz_w5, zz_q6, zz_w6, zz_w0, zz_m1, zz_lt, zz_01, zz_le, zz_eq, zz_n1, zz_in, zz_cl, zz_max, zz_min, zz_minN, zz_maxN, zz_02, zz_12, zz_c0, zz_c1, zz_b0, zz_b1, zz_bb, zz_d00, zz_d10, zz_neg, nI_add, pk_mul, zc_b0, zc_b1, cond_true, cond_false, zcI_ok, zcV_ok, okI_ret, okV_ret, zz_sub, zcond_t, zcond_f, bI_t, bI_f, eq_self, decide_true, decide_false, Bool.false_or, Bool.true_or, Bool.or_false, Bool.or_true, Bool.and_true, Bool.true_and, Bool.and_false, Bool.false_and, Bool.not_true, Bool.not_false, if_true, if_false]
      exact lpF (F := fun x p => M_written_19 x (nI w) (nI p) c b) (K := fun x => M_written_9 x (nI (w + 1)) c b) hs he Q x 0 (Nat.le_refl _) (Nat.zero_add _)
    have o9 : ∀ w, w < P → M_written_9 (nI (sumN (fun w => cnt (RR w) Q) w)) (nI w) c b = M_written_9 (nI (sumN (fun w => cnt (RR w) Q) (w + 1))) (nI (w + 1)) c b := by
      intro w hw
      rw [q_M_written_9, p3, zcond_t (nI_lt hw (by omega)), i19 _ w hw, fF_cnt]
      rfl
    have h9 := lpC (F := fun w => M_written_9 (nI (sumN (fun w => cnt (RR w) Q) w)) (nI w) c b) o9 P 0 (Nat.zero_add _)
    have i70 : ∀ v x w, w < P → M_written_70 v x (nI w) 0 c b = M_written_59 v (fF (fun i y => y + bI (MM w i)) 0 w x) (nI (w + 1)) c b := by
      intro v x w hw
      have hs : ∀ x i, 0 ≤ i → i < w → M_written_70 v x (nI w) (nI i) c b = M_written_70 v (x + bI (MM w i)) (nI w) (nI (i + 1)) c b := by
        intro x i _ hi
        rw [q_M_written_70, t3, v_bes hc hc0 (show w < 32 by omega) (show i < 32 by omega) (Nat.le_refl T), ← mm w i (by omega) (by omega)]
        cases MM w i
        · simp (disch := omega) only [zqA0, zqB0, zqC0, zqD0, zqE0, zqF0, zqG0, zqH0, zqA1, zqB1, zqC1, zqD1, zqE1, zqF1, zqG1, zqH1, zqA2, zqB2, zqC2, zqD2, zqE2, zqF2, zqG2, zqH2, zqA3, zqB3, zqC3, zqD3, zqE3, zqF3, zqG3, zqH3, zqA4, zqB4, zqC4, zqD4, zqE4, zqF4, zqG4, zqH4, zqA5, zqB5, zqC5, zqD5, zqE5, zqF5, zqG5, zqH5, zqA6, zqB6, zqC6, zqD6, zqE6, zqF6, zqG6, zqH6, zqA8, zqB8, zqC8, zqD8, zqE8, zqF8, zqG8, zqH8, zqA9, zqB9, zqC9, zqD9, zqE9, zqF9, zqG9, zqH9, zqA10, zqB10, zqC10, zqD10, zqE10, zqF10, zqG10, zqH10, zqA11, zqB11, zqC11, zqD11, zqE11, zqF11, zqG11, zqH11, zqA16, zqB16, zqC16, zqD16, zqE16, zqF16, zqG16, zqH16, zqA18, zqB18, zqC18, zqD18, zqE18, zqF18, zqG18, zqH18, zqA20, zqB20, zqC20, zqD20, zqE20, zqF20, zqG20, zqH20, zqA60, zqB60, zqC60, zqD60, zqE60, zqF60, zqG60, zqH60, zqA63, zqB63, zqC63, zqD63, zqE63, zqF63, zqG63, zqH63, zqA80, zqB80, zqC80, zqD80, zqE80, zqF80, zqG80, zqH80, zqA100, zqB100, zqC100, zqD100, zqE100, zqF100, zqG100, zqH100, zqA120, zqB120, zqC120, zqD120, zqE120, zqF120, zqG120, zqH120, zqA630, zqB630, zqC630, zqD630, zqE630, zqF630, zqG630, zqH630, zqA1000, zqB1000, zqC1000, zqD1000, zqE1000, zqF1000, zqG1000, zqH1000, zqA1010, zqB1010, zqC1010, zqD1010, zqE1010, zqF1010, zqG1010, zqH1010, zqA5000, zqB5000, zqC5000, zqD5000, zqE5000, zqF5000, zqG5000, zqH5000, zz_p01, zz_p02, zz_p03, zz_p04, zz_p05, zz_p06, zz_p10, zz_p12, zz_p13, zz_p14, zz_p15, zz_p16, zz_p20, zz_p21, zz_p23, zz_p24, zz_p25, zz_p26, zz_p30, zz_p31, zz_p32, zz_p34, zz_p35, zz_p36, zz_p40, zz_p41, zz_p42, zz_p43, zz_p45, zz_p46, zz_p50, zz_p51, zz_p52, zz_p53, zz_p54, zz_p56, zz_p60, zz_p61, zz_p62, zz_p63, zz_p64, zz_p65, zz_q1, zz_w1, zz_q2, zz_w2, zz_q3, zz_w3, zz_q4, zz_w4, zz_q5, zz_w5, zz_q6, zz_w6, zz_w0, zz_m1, zz_lt, zz_01, zz_le, zz_eq, zz_n1, zz_in, zz_cl, zz_max, zz_min, zz_minN, zz_maxN, zz_02, zz_12, zz_c0, zz_c1, zz_b0, zz_b1, zz_bb, zz_d00, zz_d10, zz_neg, nI_add, pk_mul, zc_b0, zc_b1, cond_true, cond_false, zcI_ok, zcV_ok, okI_ret, okV_ret, zz_sub, zcond_t, zcond_f, bI_t, bI_f, eq_self, decide_true, decide_false, Bool.false_or, Bool.true_or, Bool.or_false, Bool.or_true, Bool.and_true, Bool.true_and, Bool.and_false, Bool.false_and, Bool.not_true, Bool.not_false, if_true, if_false, q_M_written_96, s_flag]
        · simp (disch := omega) only [zqA0, zqB0, zqC0, zqD0, zqE0, zqF0, zqG0, zqH0, zqA1, zqB1, zqC1, zqD1, zqE1, zqF1, zqG1, zqH1, zqA2, zqB2, zqC2, zqD2, zqE2, zqF2, zqG2, zqH2, zqA3, zqB3, zqC3, zqD3, zqE3, zqF3, zqG3, zqH3, zqA4, zqB4, zqC4, zqD4, zqE4, zqF4, zqG4, zqH4, zqA5, zqB5, zqC5, zqD5, zqE5, zqF5, zqG5, zqH5, zqA6, zqB6, zqC6, zqD6, zqE6, zqF6, zqG6, zqH6, zqA8, zqB8, zqC8, zqD8, zqE8, zqF8, zqG8, zqH8, zqA9, zqB9, zqC9, zqD9, zqE9, zqF9, zqG9, zqH9, zqA10, zqB10, zqC10, zqD10, zqE10, zqF10, zqG10, zqH10, zqA11, zqB11, zqC11, zqD11, zqE11, zqF11, zqG11, zqH11, zqA16, zqB16, zqC16, zqD16, zqE16, zqF16, zqG16, zqH16, zqA18, zqB18, zqC18, zqD18, zqE18, zqF18, zqG18, zqH18, zqA20, zqB20, zqC20, zqD20, zqE20, zqF20, zqG20, zqH20, zqA60, zqB60, zqC60, zqD60, zqE60, zqF60, zqG60, zqH60, zqA63, zqB63, zqC63, zqD63, zqE63, zqF63, zqG63, zqH63, zqA80, zqB80, zqC80, zqD80, zqE80, zqF80, zqG80, zqH80, zqA100, zqB100, zqC100, zqD100, zqE100, zqF100, zqG100, zqH100, zqA120, zqB120, zqC120, zqD120, zqE120, zqF120, zqG120, zqH120, zqA630, zqB630, zqC630, zqD630, zqE630, zqF630, zqG630, zqH630, zqA1000, zqB1000, zqC1000, zqD1000, zqE1000, zqF1000, zqG1000, zqH1000, zqA1010, zqB1010, zqC1010, zqD1010, zqE1010, zqF1010, zqG1010, zqH1010, zqA5000, zqB5000, zqC5000, zqD5000, zqE5000, zqF5000, zqG5000, zqH5000, zz_p01, zz_p02, zz_p03, zz_p04, zz_p05, zz_p06, zz_p10, zz_p12, zz_p13, zz_p14, zz_p15, zz_p16, zz_p20, zz_p21, zz_p23, zz_p24, zz_p25, zz_p26, zz_p30, zz_p31, zz_p32, zz_p34, zz_p35, zz_p36, zz_p40, zz_p41, zz_p42, zz_p43, zz_p45, zz_p46, zz_p50, zz_p51, zz_p52, zz_p53, zz_p54, zz_p56, zz_p60, zz_p61, zz_p62, zz_p63, zz_p64, zz_p65, zz_q1, zz_w1, zz_q2, zz_w2, zz_q3, zz_w3, zz_q4, zz_w4, zz_q5, zz_w5, zz_q6, zz_w6, zz_w0, zz_m1, zz_lt, zz_01, zz_le, zz_eq, zz_n1, zz_in, zz_cl, zz_max, zz_min, zz_minN, zz_maxN, zz_02, zz_12, zz_c0, zz_c1, zz_b0, zz_b1, zz_bb, zz_d00, zz_d10, zz_neg, nI_add, pk_mul, zc_b0, zc_b1, cond_true, cond_false, zcI_ok, zcV_ok, okI_ret, okV_ret, zz_sub, zcond_t, zcond_f, bI_t, bI_f, eq_self, decide_true, decide_false, Bool.false_or, Bool.true_or, Bool.or_false, Bool.or_true, Bool.and_true, Bool.true_and, Bool.and_false, Bool.false_and, Bool.not_true, Bool.not_false, if_true, if_false, q_M_written_96, s_flag]
      have he : ∀ x, M_written_70 v x (nI w) (nI w) c b = M_written_59 v x (nI (w + 1)) c b := by
        intro x
        rw [q_M_written_70]
        simp (disch := omega) only [zqA0, zqB0, zqC0, zqD0, zqE0, zqF0, zqG0, zqH0, zqA1, zqB1, zqC1, zqD1, zqE1, zqF1, zqG1, zqH1, zqA2, zqB2, zqC2, zqD2, zqE2, zqF2, zqG2, zqH2, zqA3, zqB3, zqC3, zqD3, zqE3, zqF3, zqG3, zqH3, zqA4, zqB4, zqC4, zqD4, zqE4, zqF4, zqG4, zqH4, zqA5, zqB5, zqC5, zqD5, zqE5, zqF5, zqG5, zqH5, zqA6, zqB6, zqC6, zqD6, zqE6, zqF6, zqG6, zqH6, zqA8, zqB8, zqC8, zqD8, zqE8, zqF8, zqG8, zqH8, zqA9, zqB9, zqC9, zqD9, zqE9, zqF9, zqG9, zqH9, zqA10, zqB10, zqC10, zqD10, zqE10, zqF10, zqG10, zqH10, zqA11, zqB11, zqC11, zqD11, zqE11, zqF11, zqG11, zqH11, zqA16, zqB16, zqC16, zqD16, zqE16, zqF16, zqG16, zqH16, zqA18, zqB18, zqC18, zqD18, zqE18, zqF18, zqG18, zqH18, zqA20, zqB20, zqC20, zqD20, zqE20, zqF20, zqG20, zqH20, zqA60, zqB60, zqC60, zqD60, zqE60, zqF60, zqG60, zqH60, zqA63, zqB63, zqC63, zqD63, zqE63, zqF63, zqG63, zqH63, zqA80, zqB80, zqC80, zqD80, zqE80, zqF80, zqG80, zqH80, zqA100, zqB100, zqC100, zqD100, zqE100, zqF100, zqG100, zqH100, zqA120, zqB120, zqC120, zqD120, zqE120, zqF120, zqG120, zqH120, zqA630, zqB630, zqC630, zqD630, zqE630, zqF630, zqG630, zqH630, zqA1000, zqB1000, zqC1000, zqD1000, zqE1000, zqF1000, zqG1000, zqH1000, zqA1010, zqB1010, zqC1010, zqD1010, zqE1010, zqF1010, zqG1010, zqH1010, zqA5000, zqB5000, zqC5000, zqD5000, zqE5000, zqF5000, zqG5000, zqH5000, zz_p01, zz_p02, zz_p03, zz_p04, zz_p05, zz_p06, zz_p10, zz_p12, zz_p13, zz_p14, zz_p15, zz_p16, zz_p20, zz_p21, zz_p23, zz_p24, zz_p25, zz_p26, zz_p30, zz_p31, zz_p32, zz_p34, zz_p35, zz_p36, zz_p40, zz_p41, zz_p42, zz_p43, zz_p45, zz_p46, zz_p50, zz_p51, zz_p52, zz_p53, zz_p54, zz_p56, zz_p60, zz_p61, zz_p62, zz_p63, zz_p64, zz_p65, zz_q1, zz_w1, zz_q2, zz_w2, zz_q3, zz_w3, zz_q4, zz_w4, zz_q5, zz_w5, zz_q6, zz_w6, zz_w0, zz_m1, zz_lt, zz_01, zz_le, zz_eq, zz_n1, zz_in, zz_cl, zz_max, zz_min, zz_minN, zz_maxN, zz_02, zz_12, zz_c0, zz_c1, zz_b0, zz_b1, zz_bb, zz_d00, zz_d10, zz_neg, nI_add, pk_mul, zc_b0, zc_b1, cond_true, cond_false, zcI_ok, zcV_ok, okI_ret, okV_ret, zz_sub, zcond_t, zcond_f, bI_t, bI_f, eq_self, decide_true, decide_false, Bool.false_or, Bool.true_or, Bool.or_false, Bool.or_true, Bool.and_true, Bool.true_and, Bool.and_false, Bool.false_and, Bool.not_true, Bool.not_false, if_true, if_false]
      exact lpF (F := fun x i => M_written_70 v x (nI w) (nI i) c b) (K := fun x => M_written_59 v x (nI (w + 1)) c b) hs he w x 0 (Nat.le_refl _) (Nat.zero_add _)
    have o59 : ∀ v w, w < P → M_written_59 v (nI (sumN (fun w => cnt (MM w) w) w)) (nI w) c b = M_written_59 v (nI (sumN (fun w => cnt (MM w) w) (w + 1))) (nI (w + 1)) c b := by
      intro v w hw
      rw [q_M_written_59, p3, zcond_t (nI_lt hw (by omega)), i70 _ _ w hw, fF_cnt]
      rfl
    have h59 := fun v => lpC (F := fun w => M_written_59 v (nI (sumN (fun w => cnt (MM w) w) w)) (nI w) c b) (o59 v) P 0 (Nat.zero_add _)
    refine Eq.trans h9 ?_
    rw [q_M_written_9, p3, zcond_f (nI_nlt (Nat.le_refl _) (by omega)), ← hv1]
    refine Eq.trans (h59 _) ?_
    rw [q_M_written_59, p3, zcond_f (nI_nlt (Nat.le_refl _) (by omega)), ← hv2, mT_0, m_e0, zcV_ok]
    exact okI_ret _ _ _
  have vA : vw P Q T W S a (zup (xT A [nI v2]) 194 0 0) := vw_c hv (fun j hj => (zup_nj (by rintro rfl; exact kf_0 hj)).trans ((congrFun (xT_q (by decide)) j).trans (by rw [hA, zfn_q (by decide)]))) (fun q h1 h2 => (zup_row (by omega)).trans ((xT_q (by omega)).trans (by rw [hA, zfn_q (by omega)])))
  have vA0 : v0 (zup (xT A [nI v2]) 194 0 0) := v0_u ⟨(congrFun (xT_q (by decide)) 37).trans (by rw [hA, zfn_q (by decide)]; exact h0.1), (congrFun (xT_q (by decide)) 38).trans (by rw [hA, zfn_q (by decide)]; exact h0.2)⟩ (.inr (by decide))
  refine ⟨nI v1, xT A [nI v2], b, mT (zup (xT A [nI v2]) 194 0 0) [nI v2], b, hX, fun j => ?_, ?_, rel_tell (l := [nI v2]) (a1 := xT A [nI v2]) hall (Nat.le_of_ble_eq_true rfl) ?_ ?_⟩
  · rw [xT_q (by decide), hA, zfn_q (by decide)]
  · rw [q_M_written]
    exact hM _ vA vA0
  · rw [xT_m, mA]
  · rw [mT_m, zmask_f rfl]
