/-! sheet. -/
def ent (kind v : Int32) : Int32 := if kind = 0 then v.toInt8.toInt32 else if kind = 1 then v.toInt16.toInt32 else v
theorem x_ent (kind v : Int32) (a : zA) (b : zB) : X_entry kind v a b = okI (ent kind v) a b := by
  rw [q_X_entry]
  unfold ent
  by_cases c1 : kind = 0
  · rw [zcond_t c1, if_pos c1]; exact okI_ret _ _ _
  · by_cases c2 : kind = 1
    · rw [zcond_f c1, zcond_t c2, if_neg c1, if_pos c2, q_X_entry_18]; exact okI_ret _ _ _
    · rw [zcond_f c1, zcond_f c2, if_neg c1, if_neg c2, q_X_entry_18]; exact okI_ret _ _ _
theorem x_putD {T p : Nat} {a : zA} {b : zB} {g : Nat → Int32} (hT : T ≤ 60) (hp : p < 10) (ht : a 12 6 = nI T) (x : Int32) : S_place (nI p) x (zfo a 13 (10 * T) 10 g) b = okV (zfo a 13 (10 * T) 10 (fun k => if k = p then x else g k)) b := by
  rw [s_place hT hp x _ _ ((congrFun (zfo_q (by decide)) 6).trans ht), zfo_up hp]
theorem x_clearD {T : Nat} {a : zA} {b : zB} {g : Nat → Int32} (hT : T ≤ 60) (ht : a 12 6 = nI T) : S_clearDraft (zfo a 13 (10 * T) 10 g) b = okV (zfo a 13 (10 * T) 10 (fun _ => -1)) b := by
  have hs : ∀ i, i < 10 → S_clearDraft_2 (nI i) (zfo a 13 (10 * T) 10 (fun k => if k < i then -1 else g k)) b = S_clearDraft_2 (nI (i + 1)) (zfo a 13 (10 * T) 10 (fun k => if k < i + 1 then -1 else g k)) b := by
    intro i hi
    rw [q_S_clearDraft_2, x_putD hT hi ht]
    simp (disch := omega) only [zqA0, zqB0, zqC0, zqD0, zqE0, zqF0, zqG0, zqH0, zqA1, zqB1, zqC1, zqD1, zqE1, zqF1, zqG1, zqH1, zqA2, zqB2, zqC2, zqD2, zqE2, zqF2, zqG2, zqH2, zqA3, zqB3, zqC3, zqD3, zqE3, zqF3, zqG3, zqH3, zqA4, zqB4, zqC4, zqD4, zqE4, zqF4, zqG4, zqH4, zqA5, zqB5, zqC5, zqD5, zqE5, zqF5, zqG5, zqH5, zqA6, zqB6, zqC6, zqD6, zqE6, zqF6, zqG6, zqH6, zqA8, zqB8, zqC8, zqD8, zqE8, zqF8, zqG8, zqH8, zqA9, zqB9, zqC9, zqD9, zqE9, zqF9, zqG9, zqH9, zqA10, zqB10, zqC10, zqD10, zqE10, zqF10, zqG10, zqH10, zqA11, zqB11, zqC11, zqD11, zqE11, zqF11, zqG11, zqH11, zqA16, zqB16, zqC16, zqD16, zqE16, zqF16, zqG16, zqH16, zqA18, zqB18, zqC18, zqD18, zqE18, zqF18, zqG18, zqH18, zqA20, zqB20, zqC20, zqD20, zqE20, zqF20, zqG20, zqH20, zqA60, zqB60, zqC60, zqD60, zqE60, zqF60, zqG60, zqH60, zqA63, zqB63, zqC63, zqD63, zqE63, zqF63, zqG63, zqH63, zqA80, zqB80, zqC80, zqD80, zqE80, zqF80, zqG80, zqH80, zqA100, zqB100, zqC100, zqD100, zqE100, zqF100, zqG100, zqH100, zqA120, zqB120, zqC120, zqD120, zqE120, zqF120, zqG120, zqH120, zqA630, zqB630, zqC630, zqD630, zqE630, zqF630, zqG630, zqH630, zqA1000, zqB1000, zqC1000, zqD1000, zqE1000, zqF1000, zqG1000, zqH1000, zqA1010, zqB1010, zqC1010, zqD1010, zqE1010, zqF1010, zqG1010, zqH1010, zqA5000, zqB5000, zqC5000, zqD5000, zqE5000, zqF5000, zqG5000, zqH5000, zz_p01, zz_p02, zz_p03, zz_p04, zz_p05, zz_p06, zz_p10, zz_p12, zz_p13, zz_p14, zz_p15, zz_p16, zz_p20, zz_p21, zz_p23, zz_p24, zz_p25, zz_p26, zz_p30, zz_p31, zz_p32, zz_p34, zz_p35, zz_p36, zz_p40, zz_p41, zz_p42, zz_p43, zz_p45, zz_p46, zz_p50, zz_p51, zz_p52, zz_p53, zz_p54, zz_p56, zz_p60, zz_p61, zz_p62, zz_p63, zz_p64, zz_p65, zz_q1, zz_w1, zz_q2, zz_w2, zz_q3, zz_w3, zz_q4, zz_w4, zz_q5, zz_w5, zz_q6, zz_w6, zz_w0, zz_m1, zz_lt, zz_01, zz_le, zz_eq, zz_n1, zz_in, zz_cl, zz_max, zz_min, zz_minN, zz_maxN, zz_02, zz_12, zz_c0, zz_c1, zz_b0, zz_b1, zz_bb, zz_d00, zz_d10, zz_neg, nI_add, pk_mul, zc_b0, zc_b1, cond_true, cond_false, zcI_ok, zcV_ok, okI_ret, okV_ret, zz_sub, zcond_t, zcond_f, bI_t, bI_f, eq_self, decide_true, decide_false, Bool.false_or, Bool.true_or, Bool.or_false, Bool.or_true, Bool.and_true, Bool.true_and, Bool.and_false, Bool.false_and, Bool.not_true, Bool.not_false, if_true, if_false]
    refine congrArg (fun m => S_clearDraft_2 (nI (i + 1)) m b) (zfo_c fun k hk => ?_)
    by_cases c : k = i
    · rw [if_pos c, if_pos (by omega)]
    · rw [if_neg c]
      by_cases c2 : k < i
      · rw [if_pos c2, if_pos (by omega)]
      · rw [if_neg c2, if_neg (by omega)]
  have h := lpC (F := fun i => S_clearDraft_2 (nI i) (zfo a 13 (10 * T) 10 (fun k => if k < i then -1 else g k)) b) hs 10 0 rfl
  have e0 : zfo a 13 (10 * T) 10 g = zfo a 13 (10 * T) 10 (fun k => if k < 0 then -1 else g k) := zfo_c fun k _ => (if_neg (Nat.not_lt_zero k)).symm
  rw [q_S_clearDraft, e0]
  refine Eq.trans h ?_
  rw [q_S_clearDraft_2]
  simp (disch := omega) only [zqA0, zqB0, zqC0, zqD0, zqE0, zqF0, zqG0, zqH0, zqA1, zqB1, zqC1, zqD1, zqE1, zqF1, zqG1, zqH1, zqA2, zqB2, zqC2, zqD2, zqE2, zqF2, zqG2, zqH2, zqA3, zqB3, zqC3, zqD3, zqE3, zqF3, zqG3, zqH3, zqA4, zqB4, zqC4, zqD4, zqE4, zqF4, zqG4, zqH4, zqA5, zqB5, zqC5, zqD5, zqE5, zqF5, zqG5, zqH5, zqA6, zqB6, zqC6, zqD6, zqE6, zqF6, zqG6, zqH6, zqA8, zqB8, zqC8, zqD8, zqE8, zqF8, zqG8, zqH8, zqA9, zqB9, zqC9, zqD9, zqE9, zqF9, zqG9, zqH9, zqA10, zqB10, zqC10, zqD10, zqE10, zqF10, zqG10, zqH10, zqA11, zqB11, zqC11, zqD11, zqE11, zqF11, zqG11, zqH11, zqA16, zqB16, zqC16, zqD16, zqE16, zqF16, zqG16, zqH16, zqA18, zqB18, zqC18, zqD18, zqE18, zqF18, zqG18, zqH18, zqA20, zqB20, zqC20, zqD20, zqE20, zqF20, zqG20, zqH20, zqA60, zqB60, zqC60, zqD60, zqE60, zqF60, zqG60, zqH60, zqA63, zqB63, zqC63, zqD63, zqE63, zqF63, zqG63, zqH63, zqA80, zqB80, zqC80, zqD80, zqE80, zqF80, zqG80, zqH80, zqA100, zqB100, zqC100, zqD100, zqE100, zqF100, zqG100, zqH100, zqA120, zqB120, zqC120, zqD120, zqE120, zqF120, zqG120, zqH120, zqA630, zqB630, zqC630, zqD630, zqE630, zqF630, zqG630, zqH630, zqA1000, zqB1000, zqC1000, zqD1000, zqE1000, zqF1000, zqG1000, zqH1000, zqA1010, zqB1010, zqC1010, zqD1010, zqE1010, zqF1010, zqG1010, zqH1010, zqA5000, zqB5000, zqC5000, zqD5000, zqE5000, zqF5000, zqG5000, zqH5000, zz_p01, zz_p02, zz_p03, zz_p04, zz_p05, zz_p06, zz_p10, zz_p12, zz_p13, zz_p14, zz_p15, zz_p16, zz_p20, zz_p21, zz_p23, zz_p24, zz_p25, zz_p26, zz_p30, zz_p31, zz_p32, zz_p34, zz_p35, zz_p36, zz_p40, zz_p41, zz_p42, zz_p43, zz_p45, zz_p46, zz_p50, zz_p51, zz_p52, zz_p53, zz_p54, zz_p56, zz_p60, zz_p61, zz_p62, zz_p63, zz_p64, zz_p65, zz_q1, zz_w1, zz_q2, zz_w2, zz_q3, zz_w3, zz_q4, zz_w4, zz_q5, zz_w5, zz_q6, zz_w6, zz_w0, zz_m1, zz_lt, zz_01, zz_le, zz_eq, zz_n1, zz_in, zz_cl, zz_max, zz_min, zz_minN, zz_maxN, zz_02, zz_12, zz_c0, zz_c1, zz_b0, zz_b1, zz_bb, zz_d00, zz_d10, zz_neg, nI_add, pk_mul, zc_b0, zc_b1, cond_true, cond_false, zcI_ok, zcV_ok, okI_ret, okV_ret, zz_sub, zcond_t, zcond_f, bI_t, bI_f, eq_self, decide_true, decide_false, Bool.false_or, Bool.true_or, Bool.or_false, Bool.or_true, Bool.and_true, Bool.true_and, Bool.and_false, Bool.false_and, Bool.not_true, Bool.not_false, if_true, if_false]
  exact congrArg (fun m => okV m b) (zfo_c fun k hk => if_pos hk)
theorem m_clearD {Q : Nat} {c : zA} {b : zB} {g : Nat → Int32} (hQ : Q ≤ 10) (hq : c 194 7 = nI Q) : M_empties (zfo c 206 630 Q g) b = okV (zfo c 206 630 Q (fun _ => -1)) b := by
  have fr : ∀ g, zfo c 206 630 Q g 194 7 = nI Q := fun g => (congrFun (zfo_q (by decide)) 7).trans hq
  have hs : ∀ i, i < Q → M_empties_2 (nI i) (zfo c 206 630 Q (fun k => if k < i then -1 else g k)) b = M_empties_2 (nI (i + 1)) (zfo c 206 630 Q (fun k => if k < i + 1 then -1 else g k)) b := by
    intro i hi
    rw [q_M_empties_2, fr]
    simp (disch := omega) only [zqA0, zqB0, zqC0, zqD0, zqE0, zqF0, zqG0, zqH0, zqA1, zqB1, zqC1, zqD1, zqE1, zqF1, zqG1, zqH1, zqA2, zqB2, zqC2, zqD2, zqE2, zqF2, zqG2, zqH2, zqA3, zqB3, zqC3, zqD3, zqE3, zqF3, zqG3, zqH3, zqA4, zqB4, zqC4, zqD4, zqE4, zqF4, zqG4, zqH4, zqA5, zqB5, zqC5, zqD5, zqE5, zqF5, zqG5, zqH5, zqA6, zqB6, zqC6, zqD6, zqE6, zqF6, zqG6, zqH6, zqA8, zqB8, zqC8, zqD8, zqE8, zqF8, zqG8, zqH8, zqA9, zqB9, zqC9, zqD9, zqE9, zqF9, zqG9, zqH9, zqA10, zqB10, zqC10, zqD10, zqE10, zqF10, zqG10, zqH10, zqA11, zqB11, zqC11, zqD11, zqE11, zqF11, zqG11, zqH11, zqA16, zqB16, zqC16, zqD16, zqE16, zqF16, zqG16, zqH16, zqA18, zqB18, zqC18, zqD18, zqE18, zqF18, zqG18, zqH18, zqA20, zqB20, zqC20, zqD20, zqE20, zqF20, zqG20, zqH20, zqA60, zqB60, zqC60, zqD60, zqE60, zqF60, zqG60, zqH60, zqA63, zqB63, zqC63, zqD63, zqE63, zqF63, zqG63, zqH63, zqA80, zqB80, zqC80, zqD80, zqE80, zqF80, zqG80, zqH80, zqA100, zqB100, zqC100, zqD100, zqE100, zqF100, zqG100, zqH100, zqA120, zqB120, zqC120, zqD120, zqE120, zqF120, zqG120, zqH120, zqA630, zqB630, zqC630, zqD630, zqE630, zqF630, zqG630, zqH630, zqA1000, zqB1000, zqC1000, zqD1000, zqE1000, zqF1000, zqG1000, zqH1000, zqA1010, zqB1010, zqC1010, zqD1010, zqE1010, zqF1010, zqG1010, zqH1010, zqA5000, zqB5000, zqC5000, zqD5000, zqE5000, zqF5000, zqG5000, zqH5000, zz_p01, zz_p02, zz_p03, zz_p04, zz_p05, zz_p06, zz_p10, zz_p12, zz_p13, zz_p14, zz_p15, zz_p16, zz_p20, zz_p21, zz_p23, zz_p24, zz_p25, zz_p26, zz_p30, zz_p31, zz_p32, zz_p34, zz_p35, zz_p36, zz_p40, zz_p41, zz_p42, zz_p43, zz_p45, zz_p46, zz_p50, zz_p51, zz_p52, zz_p53, zz_p54, zz_p56, zz_p60, zz_p61, zz_p62, zz_p63, zz_p64, zz_p65, zz_q1, zz_w1, zz_q2, zz_w2, zz_q3, zz_w3, zz_q4, zz_w4, zz_q5, zz_w5, zz_q6, zz_w6, zz_w0, zz_m1, zz_lt, zz_01, zz_le, zz_eq, zz_n1, zz_in, zz_cl, zz_max, zz_min, zz_minN, zz_maxN, zz_02, zz_12, zz_c0, zz_c1, zz_b0, zz_b1, zz_bb, zz_d00, zz_d10, zz_neg, nI_add, pk_mul, zc_b0, zc_b1, cond_true, cond_false, zcI_ok, zcV_ok, okI_ret, okV_ret, zz_sub, zcond_t, zcond_f, bI_t, bI_f, eq_self, decide_true, decide_false, Bool.false_or, Bool.true_or, Bool.or_false, Bool.or_true, Bool.and_true, Bool.true_and, Bool.and_false, Bool.false_and, Bool.not_true, Bool.not_false, if_true, if_false]
    rw [zfo_up hi]
    refine congrArg (fun m => M_empties_2 (nI (i + 1)) m b) (zfo_c fun k hk => ?_)
    by_cases c : k = i
    · rw [if_pos c, if_pos (by omega)]
    · rw [if_neg c]
      by_cases c2 : k < i
      · rw [if_pos c2, if_pos (by omega)]
      · rw [if_neg c2, if_neg (by omega)]
  have h := lpC (F := fun i => M_empties_2 (nI i) (zfo c 206 630 Q (fun k => if k < i then -1 else g k)) b) hs Q 0 (Nat.zero_add _)
  have e0 : zfo c 206 630 Q g = zfo c 206 630 Q (fun k => if k < 0 then -1 else g k) := zfo_c fun k _ => (if_neg (Nat.not_lt_zero k)).symm
  rw [q_M_empties, e0]
  refine Eq.trans h ?_
  rw [q_M_empties_2, fr]
  simp (disch := omega) only [zqA0, zqB0, zqC0, zqD0, zqE0, zqF0, zqG0, zqH0, zqA1, zqB1, zqC1, zqD1, zqE1, zqF1, zqG1, zqH1, zqA2, zqB2, zqC2, zqD2, zqE2, zqF2, zqG2, zqH2, zqA3, zqB3, zqC3, zqD3, zqE3, zqF3, zqG3, zqH3, zqA4, zqB4, zqC4, zqD4, zqE4, zqF4, zqG4, zqH4, zqA5, zqB5, zqC5, zqD5, zqE5, zqF5, zqG5, zqH5, zqA6, zqB6, zqC6, zqD6, zqE6, zqF6, zqG6, zqH6, zqA8, zqB8, zqC8, zqD8, zqE8, zqF8, zqG8, zqH8, zqA9, zqB9, zqC9, zqD9, zqE9, zqF9, zqG9, zqH9, zqA10, zqB10, zqC10, zqD10, zqE10, zqF10, zqG10, zqH10, zqA11, zqB11, zqC11, zqD11, zqE11, zqF11, zqG11, zqH11, zqA16, zqB16, zqC16, zqD16, zqE16, zqF16, zqG16, zqH16, zqA18, zqB18, zqC18, zqD18, zqE18, zqF18, zqG18, zqH18, zqA20, zqB20, zqC20, zqD20, zqE20, zqF20, zqG20, zqH20, zqA60, zqB60, zqC60, zqD60, zqE60, zqF60, zqG60, zqH60, zqA63, zqB63, zqC63, zqD63, zqE63, zqF63, zqG63, zqH63, zqA80, zqB80, zqC80, zqD80, zqE80, zqF80, zqG80, zqH80, zqA100, zqB100, zqC100, zqD100, zqE100, zqF100, zqG100, zqH100, zqA120, zqB120, zqC120, zqD120, zqE120, zqF120, zqG120, zqH120, zqA630, zqB630, zqC630, zqD630, zqE630, zqF630, zqG630, zqH630, zqA1000, zqB1000, zqC1000, zqD1000, zqE1000, zqF1000, zqG1000, zqH1000, zqA1010, zqB1010, zqC1010, zqD1010, zqE1010, zqF1010, zqG1010, zqH1010, zqA5000, zqB5000, zqC5000, zqD5000, zqE5000, zqF5000, zqG5000, zqH5000, zz_p01, zz_p02, zz_p03, zz_p04, zz_p05, zz_p06, zz_p10, zz_p12, zz_p13, zz_p14, zz_p15, zz_p16, zz_p20, zz_p21, zz_p23, zz_p24, zz_p25, zz_p26, zz_p30, zz_p31, zz_p32, zz_p34, zz_p35, zz_p36, zz_p40, zz_p41, zz_p42, zz_p43, zz_p45, zz_p46, zz_p50, zz_p51, zz_p52, zz_p53, zz_p54, zz_p56, zz_p60, zz_p61, zz_p62, zz_p63, zz_p64, zz_p65, zz_q1, zz_w1, zz_q2, zz_w2, zz_q3, zz_w3, zz_q4, zz_w4, zz_q5, zz_w5, zz_q6, zz_w6, zz_w0, zz_m1, zz_lt, zz_01, zz_le, zz_eq, zz_n1, zz_in, zz_cl, zz_max, zz_min, zz_minN, zz_maxN, zz_02, zz_12, zz_c0, zz_c1, zz_b0, zz_b1, zz_bb, zz_d00, zz_d10, zz_neg, nI_add, pk_mul, zc_b0, zc_b1, cond_true, cond_false, zcI_ok, zcV_ok, okI_ret, okV_ret, zz_sub, zcond_t, zcond_f, bI_t, bI_f, eq_self, decide_true, decide_false, Bool.false_or, Bool.true_or, Bool.or_false, Bool.or_true, Bool.and_true, Bool.true_and, Bool.and_false, Bool.false_and, Bool.not_true, Bool.not_false, if_true, if_false]
  exact congrArg (fun m => okV m b) (zfo_c fun k hk => if_pos hk)
theorem rowOk_put {P Q p : Nat} {g : Nat → Int32} {x : Int32} (hg : rowOk P Q g) (hp : p < Q) (hx : rOne P x) (hn : x ≠ -1 → ∀ j, j < 10 → j ≠ p → g j ≠ x) (hQ : Q ≤ 10) : rowOk P Q (fun k => if k = p then x else g k) := by
  refine ⟨fun k hk => ?_, fun k k' h1 h2 h3 h4 => ?_, fun k h1 h2 => ?_⟩
  · show rOne P (if k = p then x else g k)
    by_cases c : k = p
    · rw [if_pos c]; exact hx
    · rw [if_neg c]; exact hg.1 k hk
  · have h4 : (if k = p then x else g k) = (if k' = p then x else g k') := h4
    show (if k = p then x else g k) = -1
    by_cases c : k = p
    · rw [if_pos c, if_neg (by omega)] at h4
      rw [if_pos c]
      exact Classical.byContradiction fun z => hn z k' (by omega) (by omega) h4.symm
    · rw [if_neg c]
      by_cases c2 : k' = p
      · rw [if_neg c, if_pos c2] at h4
        rw [h4]
        exact Classical.byContradiction fun z => hn z k (by omega) c h4
      · rw [if_neg c, if_neg c2] at h4
        exact hg.2.1 k k' h1 h2 h3 h4
  · show (if k = p then x else g k) = -1
    rw [if_neg (by omega)]
    exact hg.2.2 k h1 h2
theorem rowOk_none (P Q : Nat) : rowOk P Q (fun _ => -1) := ⟨fun _ _ => .inl rfl, fun _ _ _ _ _ _ => rfl, fun _ _ _ => rfl⟩
/-- is one on the draft already: by both -/
theorem d_find {P Q T : Nat} {a c : zA} {b b' : zB} {g : Nat → Int32} {x : Int32} (hT : T ≤ 60) (hQ : Q ≤ 10) (hg : rowOk P Q g) (hx : x ≠ -1) (hq : c 194 7 = nI Q) : ∃ y z, S_postOf (nI T) x (zfo a 13 (10 * T) 10 g) b = okI y (zfo a 13 (10 * T) 10 g) b ∧ M_postOf x (zfo c 206 630 Q g) b' = okI z (zfo c 206 630 Q g) b' ∧ ((y = -1 ∧ z = -1 ∧ ∀ j, j < 10 → g j ≠ x) ∨ (¬ y = -1 ∧ ¬ z < 0 ∧ ∃ j, j < 10 ∧ g j = x)) := by
  obtain ⟨y, h1, h2⟩ := s_postOf hT x (zfo a 13 (10 * T) 10 g) b 10 0 rfl
  obtain ⟨z, h3, h4⟩ := s_MpostOf hQ x (zfo c 206 630 Q g) b' ((congrFun (zfo_q (by decide)) 7).trans hq) Q 0 (Nat.zero_add _)
  refine ⟨y, z, ?_, ?_, ?_⟩
  · rw [q_S_postOf, zcond_f (nI_pos (by omega)), zcond_f (show ¬ (60 : Int32) < nI T from nI_nlt (a := 60) hT (by decide))]
    exact h1
  · rw [q_M_postOf]
    exact h3
  · have e1 : ∀ j, j < 10 → zfo a 13 (10 * T) 10 g 13 (10 * T + j) = g j := fun j hj => zfo_j hj
    have e2 : ∀ j, j < Q → zfo c 206 630 Q g 206 (630 + j) = g j := fun j hj => zfo_j hj
    rcases h4 with ⟨h4, h5⟩ | ⟨j, _, h6, h7, h8, _⟩
    · have no : ∀ j, j < 10 → g j ≠ x := fun j hj => by
        by_cases c : j < Q
        · rw [← e2 j c]; exact h5 j (Nat.zero_le _) c
        · rw [hg.2.2 j (by omega) hj]; exact fun z => hx z.symm
      rcases h2 with ⟨h2, _⟩ | ⟨j, _, k1, _, k3, _⟩
      · exact .inl ⟨h2, h4, no⟩
      · exact absurd ((e1 j k1).symm.trans k3) (no j k1)
    · have yes : g j = x := (e2 j h6).symm.trans h8
      rcases h2 with ⟨_, k1⟩ | ⟨i, _, k1, k2, k3, _⟩
      · exact absurd ((e1 j (by omega)).trans yes) (k1 j (Nat.zero_le _) (by omega))
      · exact .inr ⟨by rw [k2]; exact nI_m1 (by omega), by rw [h7]; exact nI_pos (by omega), j, by omega, yes⟩
theorem r_sheet {L : Nat} {xs : Nat → Int32} (x1 x2 x3 x4 : Int32) : zAns (Rel L xs) (X_sheet x1 x2 x3 x4) (M_sheet x1 x2 x3 x4) := by
  intro a b hr
  obtain ⟨P, Q, T, G, N, hall⟩ := id hr
  obtain ⟨W, S, hv⟩ := vw_mask hall
  obtain ⟨⟨g1, g2, g3, g4, g5⟩, ⟨⟨p1, p2⟩, ⟨q1, q2⟩, ⟨t1, t2⟩, -⟩, -⟩ := id hv
  have hin : ∀ c, M_in x1.toInt64 0 3 c b = okI (if x1 < 0 then 0 else if 3 < x1 then 0 else 1) c b := fun c => s_in32 x1 0 3 (by decide) (by decide) c b
  by_cases c1 : x1 < 0
  · refine ans_thr hr (-1) ?_ ?_
    · rw [q_X_sheet]
      simp (disch := omega) only [zqA0, zqB0, zqC0, zqD0, zqE0, zqF0, zqG0, zqH0, zqA1, zqB1, zqC1, zqD1, zqE1, zqF1, zqG1, zqH1, zqA2, zqB2, zqC2, zqD2, zqE2, zqF2, zqG2, zqH2, zqA3, zqB3, zqC3, zqD3, zqE3, zqF3, zqG3, zqH3, zqA4, zqB4, zqC4, zqD4, zqE4, zqF4, zqG4, zqH4, zqA5, zqB5, zqC5, zqD5, zqE5, zqF5, zqG5, zqH5, zqA6, zqB6, zqC6, zqD6, zqE6, zqF6, zqG6, zqH6, zqA8, zqB8, zqC8, zqD8, zqE8, zqF8, zqG8, zqH8, zqA9, zqB9, zqC9, zqD9, zqE9, zqF9, zqG9, zqH9, zqA10, zqB10, zqC10, zqD10, zqE10, zqF10, zqG10, zqH10, zqA11, zqB11, zqC11, zqD11, zqE11, zqF11, zqG11, zqH11, zqA16, zqB16, zqC16, zqD16, zqE16, zqF16, zqG16, zqH16, zqA18, zqB18, zqC18, zqD18, zqE18, zqF18, zqG18, zqH18, zqA20, zqB20, zqC20, zqD20, zqE20, zqF20, zqG20, zqH20, zqA60, zqB60, zqC60, zqD60, zqE60, zqF60, zqG60, zqH60, zqA63, zqB63, zqC63, zqD63, zqE63, zqF63, zqG63, zqH63, zqA80, zqB80, zqC80, zqD80, zqE80, zqF80, zqG80, zqH80, zqA100, zqB100, zqC100, zqD100, zqE100, zqF100, zqG100, zqH100, zqA120, zqB120, zqC120, zqD120, zqE120, zqF120, zqG120, zqH120, zqA630, zqB630, zqC630, zqD630, zqE630, zqF630, zqG630, zqH630, zqA1000, zqB1000, zqC1000, zqD1000, zqE1000, zqF1000, zqG1000, zqH1000, zqA1010, zqB1010, zqC1010, zqD1010, zqE1010, zqF1010, zqG1010, zqH1010, zqA5000, zqB5000, zqC5000, zqD5000, zqE5000, zqF5000, zqG5000, zqH5000, zz_p01, zz_p02, zz_p03, zz_p04, zz_p05, zz_p06, zz_p10, zz_p12, zz_p13, zz_p14, zz_p15, zz_p16, zz_p20, zz_p21, zz_p23, zz_p24, zz_p25, zz_p26, zz_p30, zz_p31, zz_p32, zz_p34, zz_p35, zz_p36, zz_p40, zz_p41, zz_p42, zz_p43, zz_p45, zz_p46, zz_p50, zz_p51, zz_p52, zz_p53, zz_p54, zz_p56, zz_p60, zz_p61, zz_p62, zz_p63, zz_p64, zz_p65, zz_q1, zz_w1, zz_q2, zz_w2, zz_q3, zz_w3, zz_q4, zz_w4, zz_q5, zz_w5, zz_q6, zz_w6, zz_w0, zz_m1, zz_lt, zz_01, zz_le, zz_eq, zz_n1, zz_in, zz_cl, zz_max, zz_min, zz_minN, zz_maxN, zz_02, zz_12, zz_c0, zz_c1, zz_b0, zz_b1, zz_bb, zz_d00, zz_d10, zz_neg, nI_add, pk_mul, zc_b0, zc_b1, cond_true, cond_false, zcI_ok, zcV_ok, okI_ret, okV_ret, zz_sub, zcond_t, zcond_f, bI_t, bI_f, eq_self, decide_true, decide_false, Bool.false_or, Bool.true_or, Bool.or_false, Bool.or_true, Bool.and_true, Bool.true_and, Bool.and_false, Bool.false_and, Bool.not_true, Bool.not_false, if_true, if_false, c1, q_X_sheet_15]
    · rw [q_M_sheet, hin]
      simp (disch := omega) only [zqA0, zqB0, zqC0, zqD0, zqE0, zqF0, zqG0, zqH0, zqA1, zqB1, zqC1, zqD1, zqE1, zqF1, zqG1, zqH1, zqA2, zqB2, zqC2, zqD2, zqE2, zqF2, zqG2, zqH2, zqA3, zqB3, zqC3, zqD3, zqE3, zqF3, zqG3, zqH3, zqA4, zqB4, zqC4, zqD4, zqE4, zqF4, zqG4, zqH4, zqA5, zqB5, zqC5, zqD5, zqE5, zqF5, zqG5, zqH5, zqA6, zqB6, zqC6, zqD6, zqE6, zqF6, zqG6, zqH6, zqA8, zqB8, zqC8, zqD8, zqE8, zqF8, zqG8, zqH8, zqA9, zqB9, zqC9, zqD9, zqE9, zqF9, zqG9, zqH9, zqA10, zqB10, zqC10, zqD10, zqE10, zqF10, zqG10, zqH10, zqA11, zqB11, zqC11, zqD11, zqE11, zqF11, zqG11, zqH11, zqA16, zqB16, zqC16, zqD16, zqE16, zqF16, zqG16, zqH16, zqA18, zqB18, zqC18, zqD18, zqE18, zqF18, zqG18, zqH18, zqA20, zqB20, zqC20, zqD20, zqE20, zqF20, zqG20, zqH20, zqA60, zqB60, zqC60, zqD60, zqE60, zqF60, zqG60, zqH60, zqA63, zqB63, zqC63, zqD63, zqE63, zqF63, zqG63, zqH63, zqA80, zqB80, zqC80, zqD80, zqE80, zqF80, zqG80, zqH80, zqA100, zqB100, zqC100, zqD100, zqE100, zqF100, zqG100, zqH100, zqA120, zqB120, zqC120, zqD120, zqE120, zqF120, zqG120, zqH120, zqA630, zqB630, zqC630, zqD630, zqE630, zqF630, zqG630, zqH630, zqA1000, zqB1000, zqC1000, zqD1000, zqE1000, zqF1000, zqG1000, zqH1000, zqA1010, zqB1010, zqC1010, zqD1010, zqE1010, zqF1010, zqG1010, zqH1010, zqA5000, zqB5000, zqC5000, zqD5000, zqE5000, zqF5000, zqG5000, zqH5000, zz_p01, zz_p02, zz_p03, zz_p04, zz_p05, zz_p06, zz_p10, zz_p12, zz_p13, zz_p14, zz_p15, zz_p16, zz_p20, zz_p21, zz_p23, zz_p24, zz_p25, zz_p26, zz_p30, zz_p31, zz_p32, zz_p34, zz_p35, zz_p36, zz_p40, zz_p41, zz_p42, zz_p43, zz_p45, zz_p46, zz_p50, zz_p51, zz_p52, zz_p53, zz_p54, zz_p56, zz_p60, zz_p61, zz_p62, zz_p63, zz_p64, zz_p65, zz_q1, zz_w1, zz_q2, zz_w2, zz_q3, zz_w3, zz_q4, zz_w4, zz_q5, zz_w5, zz_q6, zz_w6, zz_w0, zz_m1, zz_lt, zz_01, zz_le, zz_eq, zz_n1, zz_in, zz_cl, zz_max, zz_min, zz_minN, zz_maxN, zz_02, zz_12, zz_c0, zz_c1, zz_b0, zz_b1, zz_bb, zz_d00, zz_d10, zz_neg, nI_add, pk_mul, zc_b0, zc_b1, cond_true, cond_false, zcI_ok, zcV_ok, okI_ret, okV_ret, zz_sub, zcond_t, zcond_f, bI_t, bI_f, eq_self, decide_true, decide_false, Bool.false_or, Bool.true_or, Bool.or_false, Bool.or_true, Bool.and_true, Bool.true_and, Bool.and_false, Bool.false_and, Bool.not_true, Bool.not_false, if_true, if_false, c1, q_M_sheet_23]
  by_cases c2 : 3 < x1
  · refine ans_thr hr (-1) ?_ ?_
    · rw [q_X_sheet]
      simp (disch := omega) only [zqA0, zqB0, zqC0, zqD0, zqE0, zqF0, zqG0, zqH0, zqA1, zqB1, zqC1, zqD1, zqE1, zqF1, zqG1, zqH1, zqA2, zqB2, zqC2, zqD2, zqE2, zqF2, zqG2, zqH2, zqA3, zqB3, zqC3, zqD3, zqE3, zqF3, zqG3, zqH3, zqA4, zqB4, zqC4, zqD4, zqE4, zqF4, zqG4, zqH4, zqA5, zqB5, zqC5, zqD5, zqE5, zqF5, zqG5, zqH5, zqA6, zqB6, zqC6, zqD6, zqE6, zqF6, zqG6, zqH6, zqA8, zqB8, zqC8, zqD8, zqE8, zqF8, zqG8, zqH8, zqA9, zqB9, zqC9, zqD9, zqE9, zqF9, zqG9, zqH9, zqA10, zqB10, zqC10, zqD10, zqE10, zqF10, zqG10, zqH10, zqA11, zqB11, zqC11, zqD11, zqE11, zqF11, zqG11, zqH11, zqA16, zqB16, zqC16, zqD16, zqE16, zqF16, zqG16, zqH16, zqA18, zqB18, zqC18, zqD18, zqE18, zqF18, zqG18, zqH18, zqA20, zqB20, zqC20, zqD20, zqE20, zqF20, zqG20, zqH20, zqA60, zqB60, zqC60, zqD60, zqE60, zqF60, zqG60, zqH60, zqA63, zqB63, zqC63, zqD63, zqE63, zqF63, zqG63, zqH63, zqA80, zqB80, zqC80, zqD80, zqE80, zqF80, zqG80, zqH80, zqA100, zqB100, zqC100, zqD100, zqE100, zqF100, zqG100, zqH100, zqA120, zqB120, zqC120, zqD120, zqE120, zqF120, zqG120, zqH120, zqA630, zqB630, zqC630, zqD630, zqE630, zqF630, zqG630, zqH630, zqA1000, zqB1000, zqC1000, zqD1000, zqE1000, zqF1000, zqG1000, zqH1000, zqA1010, zqB1010, zqC1010, zqD1010, zqE1010, zqF1010, zqG1010, zqH1010, zqA5000, zqB5000, zqC5000, zqD5000, zqE5000, zqF5000, zqG5000, zqH5000, zz_p01, zz_p02, zz_p03, zz_p04, zz_p05, zz_p06, zz_p10, zz_p12, zz_p13, zz_p14, zz_p15, zz_p16, zz_p20, zz_p21, zz_p23, zz_p24, zz_p25, zz_p26, zz_p30, zz_p31, zz_p32, zz_p34, zz_p35, zz_p36, zz_p40, zz_p41, zz_p42, zz_p43, zz_p45, zz_p46, zz_p50, zz_p51, zz_p52, zz_p53, zz_p54, zz_p56, zz_p60, zz_p61, zz_p62, zz_p63, zz_p64, zz_p65, zz_q1, zz_w1, zz_q2, zz_w2, zz_q3, zz_w3, zz_q4, zz_w4, zz_q5, zz_w5, zz_q6, zz_w6, zz_w0, zz_m1, zz_lt, zz_01, zz_le, zz_eq, zz_n1, zz_in, zz_cl, zz_max, zz_min, zz_minN, zz_maxN, zz_02, zz_12, zz_c0, zz_c1, zz_b0, zz_b1, zz_bb, zz_d00, zz_d10, zz_neg, nI_add, pk_mul, zc_b0, zc_b1, cond_true, cond_false, zcI_ok, zcV_ok, okI_ret, okV_ret, zz_sub, zcond_t, zcond_f, bI_t, bI_f, eq_self, decide_true, decide_false, Bool.false_or, Bool.true_or, Bool.or_false, Bool.or_true, Bool.and_true, Bool.true_and, Bool.and_false, Bool.false_and, Bool.not_true, Bool.not_false, if_true, if_false, c1, c2, q_X_sheet_15]
    · rw [q_M_sheet, hin]
      simp (disch := omega) only [zqA0, zqB0, zqC0, zqD0, zqE0, zqF0, zqG0, zqH0, zqA1, zqB1, zqC1, zqD1, zqE1, zqF1, zqG1, zqH1, zqA2, zqB2, zqC2, zqD2, zqE2, zqF2, zqG2, zqH2, zqA3, zqB3, zqC3, zqD3, zqE3, zqF3, zqG3, zqH3, zqA4, zqB4, zqC4, zqD4, zqE4, zqF4, zqG4, zqH4, zqA5, zqB5, zqC5, zqD5, zqE5, zqF5, zqG5, zqH5, zqA6, zqB6, zqC6, zqD6, zqE6, zqF6, zqG6, zqH6, zqA8, zqB8, zqC8, zqD8, zqE8, zqF8, zqG8, zqH8, zqA9, zqB9, zqC9, zqD9, zqE9, zqF9, zqG9, zqH9, zqA10, zqB10, zqC10, zqD10, zqE10, zqF10, zqG10, zqH10, zqA11, zqB11, zqC11, zqD11, zqE11, zqF11, zqG11, zqH11, zqA16, zqB16, zqC16, zqD16, zqE16, zqF16, zqG16, zqH16, zqA18, zqB18, zqC18, zqD18, zqE18, zqF18, zqG18, zqH18, zqA20, zqB20, zqC20, zqD20, zqE20, zqF20, zqG20, zqH20, zqA60, zqB60, zqC60, zqD60, zqE60, zqF60, zqG60, zqH60, zqA63, zqB63, zqC63, zqD63, zqE63, zqF63, zqG63, zqH63, zqA80, zqB80, zqC80, zqD80, zqE80, zqF80, zqG80, zqH80, zqA100, zqB100, zqC100, zqD100, zqE100, zqF100, zqG100, zqH100, zqA120, zqB120, zqC120, zqD120, zqE120, zqF120, zqG120, zqH120, zqA630, zqB630, zqC630, zqD630, zqE630, zqF630, zqG630, zqH630, zqA1000, zqB1000, zqC1000, zqD1000, zqE1000, zqF1000, zqG1000, zqH1000, zqA1010, zqB1010, zqC1010, zqD1010, zqE1010, zqF1010, zqG1010, zqH1010, zqA5000, zqB5000, zqC5000, zqD5000, zqE5000, zqF5000, zqG5000, zqH5000, zz_p01, zz_p02, zz_p03, zz_p04, zz_p05, zz_p06, zz_p10, zz_p12, zz_p13, zz_p14, zz_p15, zz_p16, zz_p20, zz_p21, zz_p23, zz_p24, zz_p25, zz_p26, zz_p30, zz_p31, zz_p32, zz_p34, zz_p35, zz_p36, zz_p40, zz_p41, zz_p42, zz_p43, zz_p45, zz_p46, zz_p50, zz_p51, zz_p52, zz_p53, zz_p54, zz_p56, zz_p60, zz_p61, zz_p62, zz_p63, zz_p64, zz_p65, zz_q1, zz_w1, zz_q2, zz_w2, zz_q3, zz_w3, zz_q4, zz_w4, zz_q5, zz_w5, zz_q6, zz_w6, zz_w0, zz_m1, zz_lt, zz_01, zz_le, zz_eq, zz_n1, zz_in, zz_cl, zz_max, zz_min, zz_minN, zz_maxN, zz_02, zz_12, zz_c0, zz_c1, zz_b0, zz_b1, zz_bb, zz_d00, zz_d10, zz_neg, nI_add, pk_mul, zc_b0, zc_b1, cond_true, cond_false, zcI_ok, zcV_ok, okI_ret, okV_ret, zz_sub, zcond_t, zcond_f, bI_t, bI_f, eq_self, decide_true, decide_false, Bool.false_or, Bool.true_or, Bool.or_false, Bool.or_true, Bool.and_true, Bool.true_and, Bool.and_false, Bool.false_and, Bool.not_true, Bool.not_false, if_true, if_false, c1, c2, q_M_sheet_23]
  by_cases c3 : 10 < x2
  · refine ans_thr hr (-1) ?_ ?_
    · rw [q_X_sheet]
      simp (disch := omega) only [zqA0, zqB0, zqC0, zqD0, zqE0, zqF0, zqG0, zqH0, zqA1, zqB1, zqC1, zqD1, zqE1, zqF1, zqG1, zqH1, zqA2, zqB2, zqC2, zqD2, zqE2, zqF2, zqG2, zqH2, zqA3, zqB3, zqC3, zqD3, zqE3, zqF3, zqG3, zqH3, zqA4, zqB4, zqC4, zqD4, zqE4, zqF4, zqG4, zqH4, zqA5, zqB5, zqC5, zqD5, zqE5, zqF5, zqG5, zqH5, zqA6, zqB6, zqC6, zqD6, zqE6, zqF6, zqG6, zqH6, zqA8, zqB8, zqC8, zqD8, zqE8, zqF8, zqG8, zqH8, zqA9, zqB9, zqC9, zqD9, zqE9, zqF9, zqG9, zqH9, zqA10, zqB10, zqC10, zqD10, zqE10, zqF10, zqG10, zqH10, zqA11, zqB11, zqC11, zqD11, zqE11, zqF11, zqG11, zqH11, zqA16, zqB16, zqC16, zqD16, zqE16, zqF16, zqG16, zqH16, zqA18, zqB18, zqC18, zqD18, zqE18, zqF18, zqG18, zqH18, zqA20, zqB20, zqC20, zqD20, zqE20, zqF20, zqG20, zqH20, zqA60, zqB60, zqC60, zqD60, zqE60, zqF60, zqG60, zqH60, zqA63, zqB63, zqC63, zqD63, zqE63, zqF63, zqG63, zqH63, zqA80, zqB80, zqC80, zqD80, zqE80, zqF80, zqG80, zqH80, zqA100, zqB100, zqC100, zqD100, zqE100, zqF100, zqG100, zqH100, zqA120, zqB120, zqC120, zqD120, zqE120, zqF120, zqG120, zqH120, zqA630, zqB630, zqC630, zqD630, zqE630, zqF630, zqG630, zqH630, zqA1000, zqB1000, zqC1000, zqD1000, zqE1000, zqF1000, zqG1000, zqH1000, zqA1010, zqB1010, zqC1010, zqD1010, zqE1010, zqF1010, zqG1010, zqH1010, zqA5000, zqB5000, zqC5000, zqD5000, zqE5000, zqF5000, zqG5000, zqH5000, zz_p01, zz_p02, zz_p03, zz_p04, zz_p05, zz_p06, zz_p10, zz_p12, zz_p13, zz_p14, zz_p15, zz_p16, zz_p20, zz_p21, zz_p23, zz_p24, zz_p25, zz_p26, zz_p30, zz_p31, zz_p32, zz_p34, zz_p35, zz_p36, zz_p40, zz_p41, zz_p42, zz_p43, zz_p45, zz_p46, zz_p50, zz_p51, zz_p52, zz_p53, zz_p54, zz_p56, zz_p60, zz_p61, zz_p62, zz_p63, zz_p64, zz_p65, zz_q1, zz_w1, zz_q2, zz_w2, zz_q3, zz_w3, zz_q4, zz_w4, zz_q5, zz_w5, zz_q6, zz_w6, zz_w0, zz_m1, zz_lt, zz_01, zz_le, zz_eq, zz_n1, zz_in, zz_cl, zz_max, zz_min, zz_minN, zz_maxN, zz_02, zz_12, zz_c0, zz_c1, zz_b0, zz_b1, zz_bb, zz_d00, zz_d10, zz_neg, nI_add, pk_mul, zc_b0, zc_b1, cond_true, cond_false, zcI_ok, zcV_ok, okI_ret, okV_ret, zz_sub, zcond_t, zcond_f, bI_t, bI_f, eq_self, decide_true, decide_false, Bool.false_or, Bool.true_or, Bool.or_false, Bool.or_true, Bool.and_true, Bool.true_and, Bool.and_false, Bool.false_and, Bool.not_true, Bool.not_false, if_true, if_false, c1, c2, c3, q_X_sheet_15]
    · rw [q_M_sheet, hin]
      simp (disch := omega) only [zqA0, zqB0, zqC0, zqD0, zqE0, zqF0, zqG0, zqH0, zqA1, zqB1, zqC1, zqD1, zqE1, zqF1, zqG1, zqH1, zqA2, zqB2, zqC2, zqD2, zqE2, zqF2, zqG2, zqH2, zqA3, zqB3, zqC3, zqD3, zqE3, zqF3, zqG3, zqH3, zqA4, zqB4, zqC4, zqD4, zqE4, zqF4, zqG4, zqH4, zqA5, zqB5, zqC5, zqD5, zqE5, zqF5, zqG5, zqH5, zqA6, zqB6, zqC6, zqD6, zqE6, zqF6, zqG6, zqH6, zqA8, zqB8, zqC8, zqD8, zqE8, zqF8, zqG8, zqH8, zqA9, zqB9, zqC9, zqD9, zqE9, zqF9, zqG9, zqH9, zqA10, zqB10, zqC10, zqD10, zqE10, zqF10, zqG10, zqH10, zqA11, zqB11, zqC11, zqD11, zqE11, zqF11, zqG11, zqH11, zqA16, zqB16, zqC16, zqD16, zqE16, zqF16, zqG16, zqH16, zqA18, zqB18, zqC18, zqD18, zqE18, zqF18, zqG18, zqH18, zqA20, zqB20, zqC20, zqD20, zqE20, zqF20, zqG20, zqH20, zqA60, zqB60, zqC60, zqD60, zqE60, zqF60, zqG60, zqH60, zqA63, zqB63, zqC63, zqD63, zqE63, zqF63, zqG63, zqH63, zqA80, zqB80, zqC80, zqD80, zqE80, zqF80, zqG80, zqH80, zqA100, zqB100, zqC100, zqD100, zqE100, zqF100, zqG100, zqH100, zqA120, zqB120, zqC120, zqD120, zqE120, zqF120, zqG120, zqH120, zqA630, zqB630, zqC630, zqD630, zqE630, zqF630, zqG630, zqH630, zqA1000, zqB1000, zqC1000, zqD1000, zqE1000, zqF1000, zqG1000, zqH1000, zqA1010, zqB1010, zqC1010, zqD1010, zqE1010, zqF1010, zqG1010, zqH1010, zqA5000, zqB5000, zqC5000, zqD5000, zqE5000, zqF5000, zqG5000, zqH5000, zz_p01, zz_p02, zz_p03, zz_p04, zz_p05, zz_p06, zz_p10, zz_p12, zz_p13, zz_p14, zz_p15, zz_p16, zz_p20, zz_p21, zz_p23, zz_p24, zz_p25, zz_p26, zz_p30, zz_p31, zz_p32, zz_p34, zz_p35, zz_p36, zz_p40, zz_p41, zz_p42, zz_p43, zz_p45, zz_p46, zz_p50, zz_p51, zz_p52, zz_p53, zz_p54, zz_p56, zz_p60, zz_p61, zz_p62, zz_p63, zz_p64, zz_p65, zz_q1, zz_w1, zz_q2, zz_w2, zz_q3, zz_w3, zz_q4, zz_w4, zz_q5, zz_w5, zz_q6, zz_w6, zz_w0, zz_m1, zz_lt, zz_01, zz_le, zz_eq, zz_n1, zz_in, zz_cl, zz_max, zz_min, zz_minN, zz_maxN, zz_02, zz_12, zz_c0, zz_c1, zz_b0, zz_b1, zz_bb, zz_d00, zz_d10, zz_neg, nI_add, pk_mul, zc_b0, zc_b1, cond_true, cond_false, zcI_ok, zcV_ok, okI_ret, okV_ret, zz_sub, zcond_t, zcond_f, bI_t, bI_f, eq_self, decide_true, decide_false, Bool.false_or, Bool.true_or, Bool.or_false, Bool.or_true, Bool.and_true, Bool.true_and, Bool.and_false, Bool.false_and, Bool.not_true, Bool.not_false, if_true, if_false, c1, c2, c3, q_M_sheet_23]
  have k3 : x1 < 3 ↔ ¬ x1 = 3 := by
    have h1 : (3 : Int32).toInt = 3 := by decide
    constructor
    · intro z1 z2
      rw [z2] at z1
      exact absurd z1 (by decide)
    · intro z
      rw [Int32.lt_iff_toInt_lt] at c2 ⊢
      have : x1.toInt ≠ (3 : Int32).toInt := fun y => z (Int32.toInt_inj.mp y)
      omega
  by_cases c4 : ¬ x1 = 3 ∧ x2 < 0
  · refine ans_thr hr (-2) ?_ ?_
    · rw [q_X_sheet, zcond_f c1, zcond_f c2, zcond_f c3, zcond_t (k3.mpr c4.1), zcond_t c4.2]
      exact okI_ret _ _ _
    · rw [q_M_sheet, hin, if_neg c1, if_neg c2, zcI_ok, zcond_f (by decide), zcond_f c3, zcond_f c4.1, zcond_t c4.2]
      exact okI_ret _ _ _
  have hX0 : X_sheet x1 x2 x3 x4 a b = X_sheet_29 x1 x2 x3 x4 a b := by
    rw [q_X_sheet, zcond_f c1, zcond_f c2, zcond_f c3]
    by_cases d : x1 = 3
    · rw [zcond_f (fun z => k3.mp z d)]
    · rw [zcond_t (k3.mpr d), zcond_f (fun z => c4 ⟨d, z⟩)]
  have hM0 : ∀ a1, M_sheet x1 x2 x3 x4 a1 b = M_sheet_37 x1 x2 x3 x4 (zup a1 194 0 0) b := by
    intro a1
    rw [q_M_sheet, hin, if_neg c1, if_neg c2, zcI_ok, zcond_f (by decide), zcond_f c3]
    by_cases d : x1 = 3
    · rw [zcond_t d]
    · rw [zcond_f d, zcond_f (fun z => c4 ⟨d, z⟩)]
  -- how many entries
  obtain ⟨n, hn, hXn, hMn⟩ : ∃ n, n ≤ Q ∧ (∀ g, X_sheet_29 x1 x2 x3 x4 (zfo a 13 (10 * T) 10 g) b = X_sheet_61 x1 x3 x4 (nI n) 0 (zfo a 13 (10 * T) 10 (fun _ => -1)) b) ∧ (∀ (c : zA) (v : Int32) (i : Nat), c 194 7 = nI Q → i ≤ 10 → M_sheet_47 x1 x2 x4 v (nI i) c b = cond (decide (i < n)) (M_sheet_90 x1 x2 x4 v (nI i) (ent x1 v) c b) (M_sheet_140 c b)) := by
    have fr : ∀ g, zfo a 13 (10 * T) 10 g 2 1 = nI Q := fun g => (congrFun (zfo_q (by decide)) 1).trans q1
    by_cases d : x1 = 3
    · refine ⟨0, Nat.zero_le _, fun g => ?_, fun c v i hc hi => ?_⟩
      · rw [q_X_sheet_29, x_clearD g3 t1, zcV_ok, zcond_t d, q_X_sheet_56]
        rfl
      · rw [q_M_sheet_47, hc, zcond_t d, decide_eq_false (Nat.not_lt_zero i)]
        cases decide (nI i < nI Q) <;> cases decide (nI i < x2) <;> rfl
    · have e0 : ¬ x2 < 0 := fun z => c4 ⟨d, z⟩
      obtain ⟨n, hn, hn2⟩ := nI_of2 (x := x2) (M := 10) (n := 10) (by decide) e0 (Int32.not_lt.mp c3)
      subst hn2
      refine ⟨min Q n, by omega, fun g => ?_, fun c v i hc hi => ?_⟩
      · rw [q_X_sheet_29, x_clearD g3 t1, zcV_ok, zcond_f d, q_X_sheet_56, fr]
        simp (disch := omega) only [zqA0, zqB0, zqC0, zqD0, zqE0, zqF0, zqG0, zqH0, zqA1, zqB1, zqC1, zqD1, zqE1, zqF1, zqG1, zqH1, zqA2, zqB2, zqC2, zqD2, zqE2, zqF2, zqG2, zqH2, zqA3, zqB3, zqC3, zqD3, zqE3, zqF3, zqG3, zqH3, zqA4, zqB4, zqC4, zqD4, zqE4, zqF4, zqG4, zqH4, zqA5, zqB5, zqC5, zqD5, zqE5, zqF5, zqG5, zqH5, zqA6, zqB6, zqC6, zqD6, zqE6, zqF6, zqG6, zqH6, zqA8, zqB8, zqC8, zqD8, zqE8, zqF8, zqG8, zqH8, zqA9, zqB9, zqC9, zqD9, zqE9, zqF9, zqG9, zqH9, zqA10, zqB10, zqC10, zqD10, zqE10, zqF10, zqG10, zqH10, zqA11, zqB11, zqC11, zqD11, zqE11, zqF11, zqG11, zqH11, zqA16, zqB16, zqC16, zqD16, zqE16, zqF16, zqG16, zqH16, zqA18, zqB18, zqC18, zqD18, zqE18, zqF18, zqG18, zqH18, zqA20, zqB20, zqC20, zqD20, zqE20, zqF20, zqG20, zqH20, zqA60, zqB60, zqC60, zqD60, zqE60, zqF60, zqG60, zqH60, zqA63, zqB63, zqC63, zqD63, zqE63, zqF63, zqG63, zqH63, zqA80, zqB80, zqC80, zqD80, zqE80, zqF80, zqG80, zqH80, zqA100, zqB100, zqC100, zqD100, zqE100, zqF100, zqG100, zqH100, zqA120, zqB120, zqC120, zqD120, zqE120, zqF120, zqG120, zqH120, zqA630, zqB630, zqC630, zqD630, zqE630, zqF630, zqG630, zqH630, zqA1000, zqB1000, zqC1000, zqD1000, zqE1000, zqF1000, zqG1000, zqH1000, zqA1010, zqB1010, zqC1010, zqD1010, zqE1010, zqF1010, zqG1010, zqH1010, zqA5000, zqB5000, zqC5000, zqD5000, zqE5000, zqF5000, zqG5000, zqH5000, zz_p01, zz_p02, zz_p03, zz_p04, zz_p05, zz_p06, zz_p10, zz_p12, zz_p13, zz_p14, zz_p15, zz_p16, zz_p20, zz_p21, zz_p23, zz_p24, zz_p25, zz_p26, zz_p30, zz_p31, zz_p32, zz_p34, zz_p35, zz_p36, zz_p40, zz_p41, zz_p42, zz_p43, zz_p45, zz_p46, zz_p50, zz_p51, zz_p52, zz_p53, zz_p54, zz_p56, zz_p60, zz_p61, zz_p62, zz_p63, zz_p64, zz_p65, zz_q1, zz_w1, zz_q2, zz_w2, zz_q3, zz_w3, zz_q4, zz_w4, zz_q5, zz_w5, zz_q6, zz_w6, zz_w0, zz_m1, zz_lt, zz_01, zz_le, zz_eq, zz_n1, zz_in, zz_cl, zz_max, zz_min, zz_minN, zz_maxN, zz_02, zz_12, zz_c0, zz_c1, zz_b0, zz_b1, zz_bb, zz_d00, zz_d10, zz_neg, nI_add, pk_mul, zc_b0, zc_b1, cond_true, cond_false, zcI_ok, zcV_ok, okI_ret, okV_ret, zz_sub, zcond_t, zcond_f, bI_t, bI_f, eq_self, decide_true, decide_false, Bool.false_or, Bool.true_or, Bool.or_false, Bool.or_true, Bool.and_true, Bool.true_and, Bool.and_false, Bool.false_and, Bool.not_true, Bool.not_false, if_true, if_false]
      · have hE : cond (decide (x1 = 0)) (M_sheet_90 x1 (nI n) x4 v (nI i) v.toInt8.toInt32 c b) (cond (decide (x1 = 1)) (M_sheet_90 x1 (nI n) x4 v (nI i) v.toInt16.toInt32 c b) (M_sheet_90 x1 (nI n) x4 v (nI i) v c b)) = M_sheet_90 x1 (nI n) x4 v (nI i) (ent x1 v) c b := by
          unfold ent
          by_cases e1 : x1 = 0
          · rw [zcond_t e1, if_pos e1]
          · by_cases e2 : x1 = 1
            · rw [zcond_f e1, zcond_t e2, if_neg e1, if_pos e2]
            · rw [zcond_f e1, zcond_f e2, if_neg e1, if_neg e2]
        rw [q_M_sheet_47, hc, zcond_f d, hE]
        by_cases e1 : i < Q
        · by_cases e2 : i < n
          · rw [zcond_t (nI_lt e1 (by omega)), zcond_t (nI_lt e2 (by omega)), decide_eq_true (show i < min Q n by omega)]
            rfl
          · rw [zcond_t (nI_lt e1 (by omega)), zcond_f (nI_nlt (by omega) (by omega)), decide_eq_false (show ¬ i < min Q n by omega)]
            rfl
        · rw [zcond_f (nI_nlt (by omega) (by omega)), decide_eq_false (show ¬ i < min Q n by omega)]
          rfl
  have go : ∀ i, i ≤ n → ∃ g, rowOk P Q g ∧ (∀ k, i ≤ k → k < 10 → g k = -1) ∧ X_sheet_61 x1 x3 x4 (nI n) 0 (zfo a 13 (10 * T) 10 (fun _ => -1)) b = X_sheet_61 x1 x3 x4 (nI n) (nI i) (zfo a 13 (10 * T) 10 g) b ∧ ∀ c, c 194 7 = nI Q → c 194 3 = nI P → M_sheet_47 x1 x2 x4 x3 0 (zfo c 206 630 Q (fun _ => -1)) b = M_sheet_47 x1 x2 x4 (x3 + nI i * x4) (nI i) (zfo c 206 630 Q g) b := by
    intro i
    induction i with
    | zero =>
      intro _
      refine ⟨_, rowOk_none P Q, fun _ _ _ => rfl, rfl, fun c _ _ => ?_⟩
      rw [show nI 0 * x4 = 0 from Int32.zero_mul, Int32.add_zero]
      rfl
    | succ i ih =>
      intro hi
      obtain ⟨g, hg, hk, hx, hm⟩ := ih (by omega)
      have hst : x3 + nI i * x4 + x4 = x3 + nI (i + 1) * x4 := by
        rw [nI_succ, Int32.add_mul, Int32.one_mul, Int32.add_assoc]
      have fa : ∀ g, zfo a 13 (10 * T) 10 g 12 6 = nI T := fun g => (congrFun (zfo_q (by decide)) 6).trans t1
      have fp : ∀ g, zfo a 13 (10 * T) 10 g 2 0 = nI P := fun g => (congrFun (zfo_q (by decide)) 0).trans p1
      obtain ⟨v, hv⟩ : ∃ v, v = ent x1 (x3 + nI i * x4) := ⟨_, rfl⟩
      have hX1 : X_sheet_61 x1 x3 x4 (nI n) (nI i) (zfo a 13 (10 * T) 10 g) b = zcI (H_hasPerson v (zfo a 13 (10 * T) 10 g) b) (fun y3 a3 b3 => cond (decide (y3 = 0)) (X_sheet_125 x1 x3 x4 (nI n) (nI i) a3 b3) (zcI (S_postOf (a3 12 6) v a3 b3) (fun y4 a4 b4 => cond (decide (y4 = ((-1)))) (zcV (S_place (nI i) v a4 b4) (fun a5 b5 => X_sheet_125 x1 x3 x4 (nI n) (nI i) a5 b5)) (X_sheet_125 x1 x3 x4 (nI n) (nI i) a4 b4)))) := by
        rw [q_X_sheet_61, zcond_t (nI_lt (by omega) (by omega)), x_ent, zcI_ok, ← hv]
      have hM1 : ∀ c, c 194 7 = nI Q → M_sheet_47 x1 x2 x4 (x3 + nI i * x4) (nI i) (zfo c 206 630 Q g) b = M_sheet_90 x1 x2 x4 (x3 + nI i * x4) (nI i) v (zfo c 206 630 Q g) b := fun c hc => by
        rw [hMn _ _ i ((congrFun (zfo_q (by decide)) 7).trans hc) (by omega), decide_eq_true (show i < n by omega), ← hv]
        rfl
      have same : zfo a 13 (10 * T) 10 g = zfo a 13 (10 * T) 10 (fun k => if k = i then -1 else g k) := zfo_c fun k hk2 => by
        by_cases e : k = i
        · rw [if_pos e, e]; exact hk i (Nat.le_refl _) (by omega)
        · rw [if_neg e]
      have noM : ∀ c, M_sheet_125 x1 x2 x4 (x3 + nI i * x4) (nI i) (630 + nI i) (zfo c 206 630 Q g) b = M_sheet_47 x1 x2 x4 (x3 + nI (i + 1) * x4) (nI (i + 1)) (zfo c 206 630 Q g) b := fun c => by
        have l1 : i < Q := by omega
        rw [q_M_sheet_125, q_M_sheet_126, hst]
        simp (disch := omega) only [zqA0, zqB0, zqC0, zqD0, zqE0, zqF0, zqG0, zqH0, zqA1, zqB1, zqC1, zqD1, zqE1, zqF1, zqG1, zqH1, zqA2, zqB2, zqC2, zqD2, zqE2, zqF2, zqG2, zqH2, zqA3, zqB3, zqC3, zqD3, zqE3, zqF3, zqG3, zqH3, zqA4, zqB4, zqC4, zqD4, zqE4, zqF4, zqG4, zqH4, zqA5, zqB5, zqC5, zqD5, zqE5, zqF5, zqG5, zqH5, zqA6, zqB6, zqC6, zqD6, zqE6, zqF6, zqG6, zqH6, zqA8, zqB8, zqC8, zqD8, zqE8, zqF8, zqG8, zqH8, zqA9, zqB9, zqC9, zqD9, zqE9, zqF9, zqG9, zqH9, zqA10, zqB10, zqC10, zqD10, zqE10, zqF10, zqG10, zqH10, zqA11, zqB11, zqC11, zqD11, zqE11, zqF11, zqG11, zqH11, zqA16, zqB16, zqC16, zqD16, zqE16, zqF16, zqG16, zqH16, zqA18, zqB18, zqC18, zqD18, zqE18, zqF18, zqG18, zqH18, zqA20, zqB20, zqC20, zqD20, zqE20, zqF20, zqG20, zqH20, zqA60, zqB60, zqC60, zqD60, zqE60, zqF60, zqG60, zqH60, zqA63, zqB63, zqC63, zqD63, zqE63, zqF63, zqG63, zqH63, zqA80, zqB80, zqC80, zqD80, zqE80, zqF80, zqG80, zqH80, zqA100, zqB100, zqC100, zqD100, zqE100, zqF100, zqG100, zqH100, zqA120, zqB120, zqC120, zqD120, zqE120, zqF120, zqG120, zqH120, zqA630, zqB630, zqC630, zqD630, zqE630, zqF630, zqG630, zqH630, zqA1000, zqB1000, zqC1000, zqD1000, zqE1000, zqF1000, zqG1000, zqH1000, zqA1010, zqB1010, zqC1010, zqD1010, zqE1010, zqF1010, zqG1010, zqH1010, zqA5000, zqB5000, zqC5000, zqD5000, zqE5000, zqF5000, zqG5000, zqH5000, zz_p01, zz_p02, zz_p03, zz_p04, zz_p05, zz_p06, zz_p10, zz_p12, zz_p13, zz_p14, zz_p15, zz_p16, zz_p20, zz_p21, zz_p23, zz_p24, zz_p25, zz_p26, zz_p30, zz_p31, zz_p32, zz_p34, zz_p35, zz_p36, zz_p40, zz_p41, zz_p42, zz_p43, zz_p45, zz_p46, zz_p50, zz_p51, zz_p52, zz_p53, zz_p54, zz_p56, zz_p60, zz_p61, zz_p62, zz_p63, zz_p64, zz_p65, zz_q1, zz_w1, zz_q2, zz_w2, zz_q3, zz_w3, zz_q4, zz_w4, zz_q5, zz_w5, zz_q6, zz_w6, zz_w0, zz_m1, zz_lt, zz_01, zz_le, zz_eq, zz_n1, zz_in, zz_cl, zz_max, zz_min, zz_minN, zz_maxN, zz_02, zz_12, zz_c0, zz_c1, zz_b0, zz_b1, zz_bb, zz_d00, zz_d10, zz_neg, nI_add, pk_mul, zc_b0, zc_b1, cond_true, cond_false, zcI_ok, zcV_ok, okI_ret, okV_ret, zz_sub, zcond_t, zcond_f, bI_t, bI_f, eq_self, decide_true, decide_false, Bool.false_or, Bool.true_or, Bool.or_false, Bool.or_true, Bool.and_true, Bool.true_and, Bool.and_false, Bool.false_and, Bool.not_true, Bool.not_false, if_true, if_false]
        rw [zfo_up l1]
        refine congrArg (fun m => M_sheet_47 x1 x2 x4 (x3 + nI (i + 1) * x4) (nI (i + 1)) m b) (zfo_c fun k hk2 => ?_)
        by_cases e : k = i
        · rw [if_pos e, e]; exact (hk i (Nat.le_refl _) (by omega)).symm
        · rw [if_neg e]
      by_cases d1 : ¬ v < 0 ∧ v < nI P
      · obtain ⟨w, hw, -, hw2⟩ := s_idx d1
        have nm : v ≠ -1 := by rw [hw2]; exact nI_m1 (by omega)
        have fnd := fun c (hc : c 194 7 = nI Q) => d_find (a := a) (c := c) (b := b) (b' := b) g3 g2 hg nm hc
        have hpX := hp_t (b := b) (fp g) d1
        have hpM := fun c (hc : c 194 3 = nI P) => ip_t (b := b) (show zfo c 206 630 Q g 194 3 = nI P from (congrFun (zfo_q (by decide)) 3).trans hc) (by omega) d1
        by_cases d2 : ∃ j, j < 10 ∧ g j = v
        · refine ⟨g, hg, fun k h1 h2 => hk k (by omega) h2, ?_, fun c hc hc2 => ?_⟩
          · obtain ⟨y, z, f1, f2, f3⟩ := fnd (zup a 194 7 (nI Q)) (zup_eq _ _ _ _)
            have f4 : ¬ y = -1 := by
              rcases f3 with ⟨_, _, f3⟩ | ⟨f3, _⟩
              · obtain ⟨j, hj, e⟩ := d2
                exact absurd e (f3 j hj)
              · exact f3
            rw [hx, hX1, hpX, zcI_ok, zcond_f (by decide), fa, f1, zcI_ok, zcond_f f4, q_X_sheet_125, nI_1]
          · obtain ⟨y, z, f1, f2, f3⟩ := fnd c hc
            have f4 : ¬ z < 0 := by
              rcases f3 with ⟨_, _, f3⟩ | ⟨_, f3, _⟩
              · obtain ⟨j, hj, e⟩ := d2
                exact absurd e (f3 j hj)
              · exact f3
            rw [hm c hc hc2, hM1 c hc, q_M_sheet_90, hpM c hc2, zcI_ok, zcond_f (by decide), f2, zcI_ok, zcond_f f4, noM]
        · refine ⟨fun k => if k = i then v else g k, rowOk_put hg (by omega) (.inr ⟨w, hw, hw2⟩) (fun _ j hj _ e => d2 ⟨j, hj, e⟩) g2, fun k h1 h2 => ?_, ?_, fun c hc hc2 => ?_⟩
          · show (if k = i then v else g k) = -1
            rw [if_neg (by omega)]
            exact hk k (by omega) h2
          · obtain ⟨y, z, f1, f2, f3⟩ := fnd (zup a 194 7 (nI Q)) (zup_eq _ _ _ _)
            have f4 : y = -1 := by
              rcases f3 with ⟨f3, _⟩ | ⟨_, _, f3⟩
              · exact f3
              · exact absurd f3 d2
            rw [hx, hX1, hpX, zcI_ok, zcond_f (by decide), fa, f1, zcI_ok, zcond_t f4, x_putD g3 (by omega) t1, zcV_ok, q_X_sheet_125, nI_1]
          · obtain ⟨y, z, f1, f2, f3⟩ := fnd c hc
            have f4 : z < 0 := by
              rcases f3 with ⟨_, f3, _⟩ | ⟨_, _, f3⟩
              · rw [f3]; decide
              · exact absurd f3 d2
            have l1 : i < Q := by omega
            rw [hm c hc hc2, hM1 c hc, q_M_sheet_90, hpM c hc2, zcI_ok, zcond_f (by decide), f2, zcI_ok, zcond_t f4, q_M_sheet_126, hst]
            simp (disch := omega) only [zqA0, zqB0, zqC0, zqD0, zqE0, zqF0, zqG0, zqH0, zqA1, zqB1, zqC1, zqD1, zqE1, zqF1, zqG1, zqH1, zqA2, zqB2, zqC2, zqD2, zqE2, zqF2, zqG2, zqH2, zqA3, zqB3, zqC3, zqD3, zqE3, zqF3, zqG3, zqH3, zqA4, zqB4, zqC4, zqD4, zqE4, zqF4, zqG4, zqH4, zqA5, zqB5, zqC5, zqD5, zqE5, zqF5, zqG5, zqH5, zqA6, zqB6, zqC6, zqD6, zqE6, zqF6, zqG6, zqH6, zqA8, zqB8, zqC8, zqD8, zqE8, zqF8, zqG8, zqH8, zqA9, zqB9, zqC9, zqD9, zqE9, zqF9, zqG9, zqH9, zqA10, zqB10, zqC10, zqD10, zqE10, zqF10, zqG10, zqH10, zqA11, zqB11, zqC11, zqD11, zqE11, zqF11, zqG11, zqH11, zqA16, zqB16, zqC16, zqD16, zqE16, zqF16, zqG16, zqH16, zqA18, zqB18, zqC18, zqD18, zqE18, zqF18, zqG18, zqH18, zqA20, zqB20, zqC20, zqD20, zqE20, zqF20, zqG20, zqH20, zqA60, zqB60, zqC60, zqD60, zqE60, zqF60, zqG60, zqH60, zqA63, zqB63, zqC63, zqD63, zqE63, zqF63, zqG63, zqH63, zqA80, zqB80, zqC80, zqD80, zqE80, zqF80, zqG80, zqH80, zqA100, zqB100, zqC100, zqD100, zqE100, zqF100, zqG100, zqH100, zqA120, zqB120, zqC120, zqD120, zqE120, zqF120, zqG120, zqH120, zqA630, zqB630, zqC630, zqD630, zqE630, zqF630, zqG630, zqH630, zqA1000, zqB1000, zqC1000, zqD1000, zqE1000, zqF1000, zqG1000, zqH1000, zqA1010, zqB1010, zqC1010, zqD1010, zqE1010, zqF1010, zqG1010, zqH1010, zqA5000, zqB5000, zqC5000, zqD5000, zqE5000, zqF5000, zqG5000, zqH5000, zz_p01, zz_p02, zz_p03, zz_p04, zz_p05, zz_p06, zz_p10, zz_p12, zz_p13, zz_p14, zz_p15, zz_p16, zz_p20, zz_p21, zz_p23, zz_p24, zz_p25, zz_p26, zz_p30, zz_p31, zz_p32, zz_p34, zz_p35, zz_p36, zz_p40, zz_p41, zz_p42, zz_p43, zz_p45, zz_p46, zz_p50, zz_p51, zz_p52, zz_p53, zz_p54, zz_p56, zz_p60, zz_p61, zz_p62, zz_p63, zz_p64, zz_p65, zz_q1, zz_w1, zz_q2, zz_w2, zz_q3, zz_w3, zz_q4, zz_w4, zz_q5, zz_w5, zz_q6, zz_w6, zz_w0, zz_m1, zz_lt, zz_01, zz_le, zz_eq, zz_n1, zz_in, zz_cl, zz_max, zz_min, zz_minN, zz_maxN, zz_02, zz_12, zz_c0, zz_c1, zz_b0, zz_b1, zz_bb, zz_d00, zz_d10, zz_neg, nI_add, pk_mul, zc_b0, zc_b1, cond_true, cond_false, zcI_ok, zcV_ok, okI_ret, okV_ret, zz_sub, zcond_t, zcond_f, bI_t, bI_f, eq_self, decide_true, decide_false, Bool.false_or, Bool.true_or, Bool.or_false, Bool.or_true, Bool.and_true, Bool.true_and, Bool.and_false, Bool.false_and, Bool.not_true, Bool.not_false, if_true, if_false]
            rw [zfo_up l1]
      · have hpX := hp_f (b := b) (fp g) d1
        have hpM := fun c (hc : c 194 3 = nI P) => ip_f (b := b) (show zfo c 206 630 Q g 194 3 = nI P from (congrFun (zfo_q (by decide)) 3).trans hc) (by omega) d1
        refine ⟨g, hg, fun k h1 h2 => hk k (by omega) h2, ?_, fun c hc hc2 => ?_⟩
        · rw [hx, hX1, hpX, zcI_ok, zcond_t rfl, q_X_sheet_125, nI_1]
        · rw [hm c hc hc2, hM1 c hc, q_M_sheet_90, hpM c hc2, zcI_ok, zcond_t rfl, noM]
  obtain ⟨g, hg, -, hx, hm⟩ := go n (Nat.le_refl n)
  have id1 : zfo a 13 (10 * T) 10 (fun k => a 13 (10 * T + k)) = a := zfo_id a 13 (10 * T) 10
  have hX2 := hXn (fun k => a 13 (10 * T + k))
  rw [id1] at hX2
  -- both count
  obtain ⟨c, hc⟩ : ∃ c, c = zup (zfo a 13 (10 * T) 10 g) 194 0 0 := ⟨_, rfl⟩
  have cq : c 194 7 = nI Q := by rw [hc]; exact (zup_nj (by decide)).trans ((congrFun (zfo_q (by decide)) 7).trans q2)
  have cp : c 194 3 = nI P := by rw [hc]; exact (zup_nj (by decide)).trans ((congrFun (zfo_q (by decide)) 3).trans p2)
  have fq : zfo c 206 630 Q g 194 7 = nI Q := (congrFun (zfo_q (by decide)) 7).trans cq
  obtain ⟨v, -, s1, s2⟩ := s_filled (a := zfo a 13 (10 * T) 10 g) (a' := zfo c 206 630 Q g) (b := b) (b' := b) g1 g2 g3 ((congrFun (zfo_q (by decide)) 1).trans q1) fq ((congrFun (zfo_q (by decide)) 6).trans t1) (fun p hp => by rw [zfo_j (by omega), zfo_j hp]) (fun p hp => by rw [zfo_j (by omega)]; exact hg.1 p hp) Q 0 0 (Nat.zero_add _)
  refine ⟨nI v, zfo a 13 (10 * T) 10 g, b, zfo c 206 630 Q g, b, ?_, fun j => congrFun (zfo_q (by decide)) j, ?_, P, Q, T, G, N, ?_⟩
  · rw [hX0, hX2, hx, q_X_sheet_61, zcond_f (nI_nlt (Nat.le_refl _) (by omega)), q_X_filledPosts]
    refine Eq.trans (congrArg (fun r => zcI r _) s1) ?_
    rw [zcI_ok]
    exact okI_ret _ _ _
  · have em := m_clearD (b := b) (g := fun k => c 206 (630 + k)) g2 cq
    rw [zfo_id] at em
    rw [hM0, ← hc, q_M_sheet_37, em, zcV_ok, hm c cq cp, hMn _ _ n fq (by omega), decide_eq_false (Nat.lt_irrefl n), cond_false, q_M_sheet_140, q_M_filled]
    refine Eq.trans (congrArg (fun r => zcI r _) s2) ?_
    rw [zcI_ok]
    exact okI_ret _ _ _
  · rw [zm_fo (fun _ => rfl), hc, zmask_f rfl, zm_fo (fun _ => rfl)]
    exact rel_draft hall hg
