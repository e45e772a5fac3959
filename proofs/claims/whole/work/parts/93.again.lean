/-! again. -/
def tak (c : zA) (q f o n : Nat) : zA := zup (zfo c q f n (fun k => c 236 (o + k))) 194 65 (nI (o + n))
theorem tak_q {c : zA} {q f o n q' : Nat} (h1 : q' ≠ 194) (h2 : q' ≠ q) : tak c q f o n q' = c q' := (zup_row h1).trans (zfo_q h2)
theorem tak_4 {c : zA} {q f o n j : Nat} (h1 : j ≠ 65) (h2 : q ≠ 194) : tak c q f o n 194 j = c 194 j := (zup_nj h1).trans (congrFun (zfo_q (fun z => h2 z.symm)) j)
theorem tak_o {c : zA} {q f o n j : Nat} (h2 : q ≠ 194) (h : j < f ∨ f + n ≤ j) : tak c q f o n q j = c q j := (zup_ne h2).trans (zfo_o h)
theorem tak_j {c : zA} {q f o n k : Nat} (h2 : q ≠ 194) (h : k < n) : tak c q f o n q (f + k) = c 236 (o + k) := (zup_ne h2).trans (zfo_j h)
theorem tak_5 {c : zA} {q f o n : Nat} : tak c q f o n 194 65 = nI (o + n) := zup_eq _ _ _ _
theorem m_tak {q f n o len : Nat} {a : zA} {b : zB} (h1 : q ≠ 236) (h5 : q ≠ 194) (h2 : zSH[q]? = some (20, len, [])) (h4 : f + n ≤ len) (hl : len ≤ 100000) (ho : a 194 65 = nI o) (hon : o + n ≤ 2133) : M_takesBack q (nI f) (nI n) a b = okV (tak a q f o n) b := m_takes h1 h5 (sh_i h2).2.1 (sh_i h2).2.2 h4 hl ho hon
theorem r_again {L : Nat} {xs : Nat → Int32} (x1 : Int32) : zAns (Rel L xs) (X_again x1) (M_again x1) := by
  intro a b hr
  obtain ⟨P, Q, T, G, N, hall⟩ := id hr
  obtain ⟨W, S, hv⟩ := vw_mask hall
  obtain ⟨⟨g1, g2, g3, g4, g5⟩, ⟨⟨p1, p2⟩, ⟨q1, q2⟩, ⟨t1, t2⟩, -⟩, -⟩ := id hv
  have hin : ∀ c, M_in x1.toInt64 0 2 c b = okI (if x1 < 0 then 0 else if 2 < x1 then 0 else 1) c b := fun c => s_in32 x1 0 2 (by decide) (by decide) c b
  by_cases c1 : x1 < 0
  · refine ans_thr hr 0 ?_ ?_
    · rw [q_X_again]
      simp (disch := omega) only [zqA0, zqB0, zqC0, zqD0, zqE0, zqF0, zqG0, zqH0, zqA1, zqB1, zqC1, zqD1, zqE1, zqF1, zqG1, zqH1, zqA2, zqB2, zqC2, zqD2, zqE2, zqF2, zqG2, zqH2, zqA3, zqB3, zqC3, zqD3, zqE3, zqF3, zqG3, zqH3, zqA4, zqB4, zqC4, zqD4, zqE4, zqF4, zqG4, zqH4, zqA5, zqB5, zqC5, zqD5, zqE5, zqF5, zqG5, zqH5, zqA6, zqB6, zqC6, zqD6, zqE6, zqF6, zqG6, zqH6, zqA8, zqB8, zqC8, zqD8, zqE8, zqF8, zqG8, zqH8, zqA9, zqB9, zqC9, zqD9, zqE9, zqF9, zqG9, zqH9, zqA10, zqB10, zqC10, zqD10, zqE10, zqF10, zqG10, zqH10, zqA11, zqB11, zqC11, zqD11, zqE11, zqF11, zqG11, zqH11, zqA16, zqB16, zqC16, zqD16, zqE16, zqF16, zqG16, zqH16, zqA18, zqB18, zqC18, zqD18, zqE18, zqF18, zqG18, zqH18, zqA20, zqB20, zqC20, zqD20, zqE20, zqF20, zqG20, zqH20, zqA60, zqB60, zqC60, zqD60, zqE60, zqF60, zqG60, zqH60, zqA63, zqB63, zqC63, zqD63, zqE63, zqF63, zqG63, zqH63, zqA80, zqB80, zqC80, zqD80, zqE80, zqF80, zqG80, zqH80, zqA100, zqB100, zqC100, zqD100, zqE100, zqF100, zqG100, zqH100, zqA120, zqB120, zqC120, zqD120, zqE120, zqF120, zqG120, zqH120, zqA630, zqB630, zqC630, zqD630, zqE630, zqF630, zqG630, zqH630, zqA1000, zqB1000, zqC1000, zqD1000, zqE1000, zqF1000, zqG1000, zqH1000, zqA1010, zqB1010, zqC1010, zqD1010, zqE1010, zqF1010, zqG1010, zqH1010, zqA5000, zqB5000, zqC5000, zqD5000, zqE5000, zqF5000, zqG5000, zqH5000, zz_p01, zz_p02, zz_p03, zz_p04, zz_p05, zz_p06, zz_p10, zz_p12, zz_p13, zz_p14, zz_p15, zz_p16, zz_p20, zz_p21, zz_p23, zz_p24, zz_p25, zz_p26, zz_p30, zz_p31, zz_p32, zz_p34, zz_p35, zz_p36, zz_p40, zz_p41, zz_p42, zz_p43, zz_p45, zz_p46, zz_p50, zz_p51, zz_p52, zz_p53, zz_p54, zz_p56, zz_p60, zz_p61, zz_p62, zz_p63, zz_p64, zz_p65, zz_q1, zz_w1, zz_q2, zz_w2, zz_q3, zz_w3, zz_q4, zz_w4, zz_q5, zz_w5, zz_q6, zz_w6, zz_w0, zz_m1, zz_lt, zz_01, zz_le, zz_eq, zz_n1, zz_in, zz_cl, zz_max, zz_min, zz_minN, zz_maxN, zz_02, zz_12, zz_c0, zz_c1, zz_b0, zz_b1, zz_bb, zz_d00, zz_d10, zz_neg, nI_add, pk_mul, zc_b0, zc_b1, cond_true, cond_false, zcI_ok, zcV_ok, okI_ret, okV_ret, zz_sub, zcond_t, zcond_f, bI_t, bI_f, eq_self, decide_true, decide_false, Bool.false_or, Bool.true_or, Bool.or_false, Bool.or_true, Bool.and_true, Bool.true_and, Bool.and_false, Bool.false_and, Bool.not_true, Bool.not_false, if_true, if_false, c1, q_X_again_13]
    · rw [q_M_again, hin]
      simp (disch := omega) only [zqA0, zqB0, zqC0, zqD0, zqE0, zqF0, zqG0, zqH0, zqA1, zqB1, zqC1, zqD1, zqE1, zqF1, zqG1, zqH1, zqA2, zqB2, zqC2, zqD2, zqE2, zqF2, zqG2, zqH2, zqA3, zqB3, zqC3, zqD3, zqE3, zqF3, zqG3, zqH3, zqA4, zqB4, zqC4, zqD4, zqE4, zqF4, zqG4, zqH4, zqA5, zqB5, zqC5, zqD5, zqE5, zqF5, zqG5, zqH5, zqA6, zqB6, zqC6, zqD6, zqE6, zqF6, zqG6, zqH6, zqA8, zqB8, zqC8, zqD8, zqE8, zqF8, zqG8, zqH8, zqA9, zqB9, zqC9, zqD9, zqE9, zqF9, zqG9, zqH9, zqA10, zqB10, zqC10, zqD10, zqE10, zqF10, zqG10, zqH10, zqA11, zqB11, zqC11, zqD11, zqE11, zqF11, zqG11, zqH11, zqA16, zqB16, zqC16, zqD16, zqE16, zqF16, zqG16, zqH16, zqA18, zqB18, zqC18, zqD18, zqE18, zqF18, zqG18, zqH18, zqA20, zqB20, zqC20, zqD20, zqE20, zqF20, zqG20, zqH20, zqA60, zqB60, zqC60, zqD60, zqE60, zqF60, zqG60, zqH60, zqA63, zqB63, zqC63, zqD63, zqE63, zqF63, zqG63, zqH63, zqA80, zqB80, zqC80, zqD80, zqE80, zqF80, zqG80, zqH80, zqA100, zqB100, zqC100, zqD100, zqE100, zqF100, zqG100, zqH100, zqA120, zqB120, zqC120, zqD120, zqE120, zqF120, zqG120, zqH120, zqA630, zqB630, zqC630, zqD630, zqE630, zqF630, zqG630, zqH630, zqA1000, zqB1000, zqC1000, zqD1000, zqE1000, zqF1000, zqG1000, zqH1000, zqA1010, zqB1010, zqC1010, zqD1010, zqE1010, zqF1010, zqG1010, zqH1010, zqA5000, zqB5000, zqC5000, zqD5000, zqE5000, zqF5000, zqG5000, zqH5000, zz_p01, zz_p02, zz_p03, zz_p04, zz_p05, zz_p06, zz_p10, zz_p12, zz_p13, zz_p14, zz_p15, zz_p16, zz_p20, zz_p21, zz_p23, zz_p24, zz_p25, zz_p26, zz_p30, zz_p31, zz_p32, zz_p34, zz_p35, zz_p36, zz_p40, zz_p41, zz_p42, zz_p43, zz_p45, zz_p46, zz_p50, zz_p51, zz_p52, zz_p53, zz_p54, zz_p56, zz_p60, zz_p61, zz_p62, zz_p63, zz_p64, zz_p65, zz_q1, zz_w1, zz_q2, zz_w2, zz_q3, zz_w3, zz_q4, zz_w4, zz_q5, zz_w5, zz_q6, zz_w6, zz_w0, zz_m1, zz_lt, zz_01, zz_le, zz_eq, zz_n1, zz_in, zz_cl, zz_max, zz_min, zz_minN, zz_maxN, zz_02, zz_12, zz_c0, zz_c1, zz_b0, zz_b1, zz_bb, zz_d00, zz_d10, zz_neg, nI_add, pk_mul, zc_b0, zc_b1, cond_true, cond_false, zcI_ok, zcV_ok, okI_ret, okV_ret, zz_sub, zcond_t, zcond_f, bI_t, bI_f, eq_self, decide_true, decide_false, Bool.false_or, Bool.true_or, Bool.or_false, Bool.or_true, Bool.and_true, Bool.true_and, Bool.and_false, Bool.false_and, Bool.not_true, Bool.not_false, if_true, if_false, c1, q_M_again_52]
  by_cases c2 : 2 < x1
  · have c3 : ¬ x1 < 3 := fun z => by
      rw [Int32.lt_iff_toInt_lt] at c2 z
      rw [show (2 : Int32).toInt = 2 from by decide] at c2
      rw [show (3 : Int32).toInt = 3 from by decide] at z
      omega
    refine ans_thr hr 0 ?_ ?_
    · rw [q_X_again]
      simp (disch := omega) only [zqA0, zqB0, zqC0, zqD0, zqE0, zqF0, zqG0, zqH0, zqA1, zqB1, zqC1, zqD1, zqE1, zqF1, zqG1, zqH1, zqA2, zqB2, zqC2, zqD2, zqE2, zqF2, zqG2, zqH2, zqA3, zqB3, zqC3, zqD3, zqE3, zqF3, zqG3, zqH3, zqA4, zqB4, zqC4, zqD4, zqE4, zqF4, zqG4, zqH4, zqA5, zqB5, zqC5, zqD5, zqE5, zqF5, zqG5, zqH5, zqA6, zqB6, zqC6, zqD6, zqE6, zqF6, zqG6, zqH6, zqA8, zqB8, zqC8, zqD8, zqE8, zqF8, zqG8, zqH8, zqA9, zqB9, zqC9, zqD9, zqE9, zqF9, zqG9, zqH9, zqA10, zqB10, zqC10, zqD10, zqE10, zqF10, zqG10, zqH10, zqA11, zqB11, zqC11, zqD11, zqE11, zqF11, zqG11, zqH11, zqA16, zqB16, zqC16, zqD16, zqE16, zqF16, zqG16, zqH16, zqA18, zqB18, zqC18, zqD18, zqE18, zqF18, zqG18, zqH18, zqA20, zqB20, zqC20, zqD20, zqE20, zqF20, zqG20, zqH20, zqA60, zqB60, zqC60, zqD60, zqE60, zqF60, zqG60, zqH60, zqA63, zqB63, zqC63, zqD63, zqE63, zqF63, zqG63, zqH63, zqA80, zqB80, zqC80, zqD80, zqE80, zqF80, zqG80, zqH80, zqA100, zqB100, zqC100, zqD100, zqE100, zqF100, zqG100, zqH100, zqA120, zqB120, zqC120, zqD120, zqE120, zqF120, zqG120, zqH120, zqA630, zqB630, zqC630, zqD630, zqE630, zqF630, zqG630, zqH630, zqA1000, zqB1000, zqC1000, zqD1000, zqE1000, zqF1000, zqG1000, zqH1000, zqA1010, zqB1010, zqC1010, zqD1010, zqE1010, zqF1010, zqG1010, zqH1010, zqA5000, zqB5000, zqC5000, zqD5000, zqE5000, zqF5000, zqG5000, zqH5000, zz_p01, zz_p02, zz_p03, zz_p04, zz_p05, zz_p06, zz_p10, zz_p12, zz_p13, zz_p14, zz_p15, zz_p16, zz_p20, zz_p21, zz_p23, zz_p24, zz_p25, zz_p26, zz_p30, zz_p31, zz_p32, zz_p34, zz_p35, zz_p36, zz_p40, zz_p41, zz_p42, zz_p43, zz_p45, zz_p46, zz_p50, zz_p51, zz_p52, zz_p53, zz_p54, zz_p56, zz_p60, zz_p61, zz_p62, zz_p63, zz_p64, zz_p65, zz_q1, zz_w1, zz_q2, zz_w2, zz_q3, zz_w3, zz_q4, zz_w4, zz_q5, zz_w5, zz_q6, zz_w6, zz_w0, zz_m1, zz_lt, zz_01, zz_le, zz_eq, zz_n1, zz_in, zz_cl, zz_max, zz_min, zz_minN, zz_maxN, zz_02, zz_12, zz_c0, zz_c1, zz_b0, zz_b1, zz_bb, zz_d00, zz_d10, zz_neg, nI_add, pk_mul, zc_b0, zc_b1, cond_true, cond_false, zcI_ok, zcV_ok, okI_ret, okV_ret, zz_sub, zcond_t, zcond_f, bI_t, bI_f, eq_self, decide_true, decide_false, Bool.false_or, Bool.true_or, Bool.or_false, Bool.or_true, Bool.and_true, Bool.true_and, Bool.and_false, Bool.false_and, Bool.not_true, Bool.not_false, if_true, if_false, c1, c3, q_X_again_13]
    · rw [q_M_again, hin]
      simp (disch := omega) only [zqA0, zqB0, zqC0, zqD0, zqE0, zqF0, zqG0, zqH0, zqA1, zqB1, zqC1, zqD1, zqE1, zqF1, zqG1, zqH1, zqA2, zqB2, zqC2, zqD2, zqE2, zqF2, zqG2, zqH2, zqA3, zqB3, zqC3, zqD3, zqE3, zqF3, zqG3, zqH3, zqA4, zqB4, zqC4, zqD4, zqE4, zqF4, zqG4, zqH4, zqA5, zqB5, zqC5, zqD5, zqE5, zqF5, zqG5, zqH5, zqA6, zqB6, zqC6, zqD6, zqE6, zqF6, zqG6, zqH6, zqA8, zqB8, zqC8, zqD8, zqE8, zqF8, zqG8, zqH8, zqA9, zqB9, zqC9, zqD9, zqE9, zqF9, zqG9, zqH9, zqA10, zqB10, zqC10, zqD10, zqE10, zqF10, zqG10, zqH10, zqA11, zqB11, zqC11, zqD11, zqE11, zqF11, zqG11, zqH11, zqA16, zqB16, zqC16, zqD16, zqE16, zqF16, zqG16, zqH16, zqA18, zqB18, zqC18, zqD18, zqE18, zqF18, zqG18, zqH18, zqA20, zqB20, zqC20, zqD20, zqE20, zqF20, zqG20, zqH20, zqA60, zqB60, zqC60, zqD60, zqE60, zqF60, zqG60, zqH60, zqA63, zqB63, zqC63, zqD63, zqE63, zqF63, zqG63, zqH63, zqA80, zqB80, zqC80, zqD80, zqE80, zqF80, zqG80, zqH80, zqA100, zqB100, zqC100, zqD100, zqE100, zqF100, zqG100, zqH100, zqA120, zqB120, zqC120, zqD120, zqE120, zqF120, zqG120, zqH120, zqA630, zqB630, zqC630, zqD630, zqE630, zqF630, zqG630, zqH630, zqA1000, zqB1000, zqC1000, zqD1000, zqE1000, zqF1000, zqG1000, zqH1000, zqA1010, zqB1010, zqC1010, zqD1010, zqE1010, zqF1010, zqG1010, zqH1010, zqA5000, zqB5000, zqC5000, zqD5000, zqE5000, zqF5000, zqG5000, zqH5000, zz_p01, zz_p02, zz_p03, zz_p04, zz_p05, zz_p06, zz_p10, zz_p12, zz_p13, zz_p14, zz_p15, zz_p16, zz_p20, zz_p21, zz_p23, zz_p24, zz_p25, zz_p26, zz_p30, zz_p31, zz_p32, zz_p34, zz_p35, zz_p36, zz_p40, zz_p41, zz_p42, zz_p43, zz_p45, zz_p46, zz_p50, zz_p51, zz_p52, zz_p53, zz_p54, zz_p56, zz_p60, zz_p61, zz_p62, zz_p63, zz_p64, zz_p65, zz_q1, zz_w1, zz_q2, zz_w2, zz_q3, zz_w3, zz_q4, zz_w4, zz_q5, zz_w5, zz_q6, zz_w6, zz_w0, zz_m1, zz_lt, zz_01, zz_le, zz_eq, zz_n1, zz_in, zz_cl, zz_max, zz_min, zz_minN, zz_maxN, zz_02, zz_12, zz_c0, zz_c1, zz_b0, zz_b1, zz_bb, zz_d00, zz_d10, zz_neg, nI_add, pk_mul, zc_b0, zc_b1, cond_true, cond_false, zcI_ok, zcV_ok, okI_ret, okV_ret, zz_sub, zcond_t, zcond_f, bI_t, bI_f, eq_self, decide_true, decide_false, Bool.false_or, Bool.true_or, Bool.or_false, Bool.or_true, Bool.and_true, Bool.true_and, Bool.and_false, Bool.false_and, Bool.not_true, Bool.not_false, if_true, if_false, c1, c2, q_M_again_52]
  obtain ⟨i, hi2, rfl⟩ := nI_of2 (x := x1) (M := 2) (n := 2) (by decide) c1 (Int32.not_lt.mp c2)
  obtain ⟨z1, z2, z3, -, z4⟩ := kp_tab i (by omega)
  obtain ⟨s, hs⟩ : ∃ s, s = 173 + 7 * i := ⟨_, rfl⟩
  rw [← hs] at z2 z3 z4
  have hK : rKept i P Q (a 3) (a 6) (a s) (a (s + 1)) (a (s + 2)) (a (s + 3)) (a (s + 4)) (a (s + 5)) (a (s + 6)) (a 233) (a 234) (a 235) (a 236) := by
    obtain ⟨-, -, -, -, -, -, -, -, -, ⟨hK0, hK1, hK2⟩, -⟩ := id hall
    have : i = 0 ∨ i = 1 ∨ i = 2 := by omega
    rcases this with rfl | rfl | rfl
    · rw [hs]; exact hK0
    · rw [hs]; exact hK1
    · rw [hs]; exact hK2
  have zi : zin (nI i) 3 = true := zin_nI (by omega) (by decide)
  have ki : (nI i).toNatClampNeg = i := nI_clamp (by omega)
  have hX0 : X_again (nI i) a b = cond (decide (a s 7 = nI P)) (cond (decide (a s 8 = nI Q)) (okI 1 (bcm 12 s a) b) (okI 0 a b)) (okI 0 a b) := by
    rw [q_X_again]
    simp (disch := omega) only [zqA0, zqB0, zqC0, zqD0, zqE0, zqF0, zqG0, zqH0, zqA1, zqB1, zqC1, zqD1, zqE1, zqF1, zqG1, zqH1, zqA2, zqB2, zqC2, zqD2, zqE2, zqF2, zqG2, zqH2, zqA3, zqB3, zqC3, zqD3, zqE3, zqF3, zqG3, zqH3, zqA4, zqB4, zqC4, zqD4, zqE4, zqF4, zqG4, zqH4, zqA5, zqB5, zqC5, zqD5, zqE5, zqF5, zqG5, zqH5, zqA6, zqB6, zqC6, zqD6, zqE6, zqF6, zqG6, zqH6, zqA8, zqB8, zqC8, zqD8, zqE8, zqF8, zqG8, zqH8, zqA9, zqB9, zqC9, zqD9, zqE9, zqF9, zqG9, zqH9, zqA10, zqB10, zqC10, zqD10, zqE10, zqF10, zqG10, zqH10, zqA11, zqB11, zqC11, zqD11, zqE11, zqF11, zqG11, zqH11, zqA16, zqB16, zqC16, zqD16, zqE16, zqF16, zqG16, zqH16, zqA18, zqB18, zqC18, zqD18, zqE18, zqF18, zqG18, zqH18, zqA20, zqB20, zqC20, zqD20, zqE20, zqF20, zqG20, zqH20, zqA60, zqB60, zqC60, zqD60, zqE60, zqF60, zqG60, zqH60, zqA63, zqB63, zqC63, zqD63, zqE63, zqF63, zqG63, zqH63, zqA80, zqB80, zqC80, zqD80, zqE80, zqF80, zqG80, zqH80, zqA100, zqB100, zqC100, zqD100, zqE100, zqF100, zqG100, zqH100, zqA120, zqB120, zqC120, zqD120, zqE120, zqF120, zqG120, zqH120, zqA630, zqB630, zqC630, zqD630, zqE630, zqF630, zqG630, zqH630, zqA1000, zqB1000, zqC1000, zqD1000, zqE1000, zqF1000, zqG1000, zqH1000, zqA1010, zqB1010, zqC1010, zqD1010, zqE1010, zqF1010, zqG1010, zqH1010, zqA5000, zqB5000, zqC5000, zqD5000, zqE5000, zqF5000, zqG5000, zqH5000, zz_p01, zz_p02, zz_p03, zz_p04, zz_p05, zz_p06, zz_p10, zz_p12, zz_p13, zz_p14, zz_p15, zz_p16, zz_p20, zz_p21, zz_p23, zz_p24, zz_p25, zz_p26, zz_p30, zz_p31, zz_p32, zz_p34, zz_p35, zz_p36, zz_p40, zz_p41, zz_p42, zz_p43, zz_p45, zz_p46, zz_p50, zz_p51, zz_p52, zz_p53, zz_p54, zz_p56, zz_p60, zz_p61, zz_p62, zz_p63, zz_p64, zz_p65, zz_q1, zz_w1, zz_q2, zz_w2, zz_q3, zz_w3, zz_q4, zz_w4, zz_q5, zz_w5, zz_q6, zz_w6, zz_w0, zz_m1, zz_lt, zz_01, zz_le, zz_eq, zz_n1, zz_in, zz_cl, zz_max, zz_min, zz_minN, zz_maxN, zz_02, zz_12, zz_c0, zz_c1, zz_b0, zz_b1, zz_bb, zz_d00, zz_d10, zz_neg, nI_add, pk_mul, zc_b0, zc_b1, cond_true, cond_false, zcI_ok, zcV_ok, okI_ret, okV_ret, zz_sub, zcond_t, zcond_f, bI_t, bI_f, eq_self, decide_true, decide_false, Bool.false_or, Bool.true_or, Bool.or_false, Bool.or_true, Bool.and_true, Bool.true_and, Bool.and_false, Bool.false_and, Bool.not_true, Bool.not_false, if_true, if_false, z1, z2, z3, z4, p1, q1, q_X_again_53]
  have e233 : zup a 194 0 0 233 i = a 233 i := zup_ne (by decide)
  have e234 : zup a 194 0 0 234 i = a 234 i := zup_ne (by decide)
  have e235 : zup a 194 0 0 235 i = a 235 i := zup_ne (by decide)
  have e3 : zup a 194 0 0 194 3 = nI P := (zup_nj (by decide)).trans p2
  have e7 : zup a 194 0 0 194 7 = nI Q := (zup_nj (by decide)).trans q2
  have no : (a s 7 = nI P → a s 8 = nI Q → False) → (a 233 i = 0 ∨ ¬ a 234 i = nI P ∨ ¬ a 235 i = nI Q) → ∃ v a1 b1 a2 b2, X_again (nI i) a b = okI v a1 b1 ∧ (∀ j, a1 0 j = a 0 j) ∧ M_again (nI i) a1 b1 = okI v a2 b2 ∧ Rel L xs a2 b2 := by
    intro h1 h2
    refine ans_thr hr 0 ?_ ?_
    · rw [hX0]
      by_cases d1 : a s 7 = nI P
      · rw [decide_eq_true d1, decide_eq_false (h1 d1)]
        rfl
      · rw [decide_eq_false d1]
        rfl
    · rw [q_M_again, hin]
      by_cases d1 : a 233 i = 0
      · simp (disch := omega) only [zqA0, zqB0, zqC0, zqD0, zqE0, zqF0, zqG0, zqH0, zqA1, zqB1, zqC1, zqD1, zqE1, zqF1, zqG1, zqH1, zqA2, zqB2, zqC2, zqD2, zqE2, zqF2, zqG2, zqH2, zqA3, zqB3, zqC3, zqD3, zqE3, zqF3, zqG3, zqH3, zqA4, zqB4, zqC4, zqD4, zqE4, zqF4, zqG4, zqH4, zqA5, zqB5, zqC5, zqD5, zqE5, zqF5, zqG5, zqH5, zqA6, zqB6, zqC6, zqD6, zqE6, zqF6, zqG6, zqH6, zqA8, zqB8, zqC8, zqD8, zqE8, zqF8, zqG8, zqH8, zqA9, zqB9, zqC9, zqD9, zqE9, zqF9, zqG9, zqH9, zqA10, zqB10, zqC10, zqD10, zqE10, zqF10, zqG10, zqH10, zqA11, zqB11, zqC11, zqD11, zqE11, zqF11, zqG11, zqH11, zqA16, zqB16, zqC16, zqD16, zqE16, zqF16, zqG16, zqH16, zqA18, zqB18, zqC18, zqD18, zqE18, zqF18, zqG18, zqH18, zqA20, zqB20, zqC20, zqD20, zqE20, zqF20, zqG20, zqH20, zqA60, zqB60, zqC60, zqD60, zqE60, zqF60, zqG60, zqH60, zqA63, zqB63, zqC63, zqD63, zqE63, zqF63, zqG63, zqH63, zqA80, zqB80, zqC80, zqD80, zqE80, zqF80, zqG80, zqH80, zqA100, zqB100, zqC100, zqD100, zqE100, zqF100, zqG100, zqH100, zqA120, zqB120, zqC120, zqD120, zqE120, zqF120, zqG120, zqH120, zqA630, zqB630, zqC630, zqD630, zqE630, zqF630, zqG630, zqH630, zqA1000, zqB1000, zqC1000, zqD1000, zqE1000, zqF1000, zqG1000, zqH1000, zqA1010, zqB1010, zqC1010, zqD1010, zqE1010, zqF1010, zqG1010, zqH1010, zqA5000, zqB5000, zqC5000, zqD5000, zqE5000, zqF5000, zqG5000, zqH5000, zz_p01, zz_p02, zz_p03, zz_p04, zz_p05, zz_p06, zz_p10, zz_p12, zz_p13, zz_p14, zz_p15, zz_p16, zz_p20, zz_p21, zz_p23, zz_p24, zz_p25, zz_p26, zz_p30, zz_p31, zz_p32, zz_p34, zz_p35, zz_p36, zz_p40, zz_p41, zz_p42, zz_p43, zz_p45, zz_p46, zz_p50, zz_p51, zz_p52, zz_p53, zz_p54, zz_p56, zz_p60, zz_p61, zz_p62, zz_p63, zz_p64, zz_p65, zz_q1, zz_w1, zz_q2, zz_w2, zz_q3, zz_w3, zz_q4, zz_w4, zz_q5, zz_w5, zz_q6, zz_w6, zz_w0, zz_m1, zz_lt, zz_01, zz_le, zz_eq, zz_n1, zz_in, zz_cl, zz_max, zz_min, zz_minN, zz_maxN, zz_02, zz_12, zz_c0, zz_c1, zz_b0, zz_b1, zz_bb, zz_d00, zz_d10, zz_neg, nI_add, pk_mul, zc_b0, zc_b1, cond_true, cond_false, zcI_ok, zcV_ok, okI_ret, okV_ret, zz_sub, zcond_t, zcond_f, bI_t, bI_f, eq_self, decide_true, decide_false, Bool.false_or, Bool.true_or, Bool.or_false, Bool.or_true, Bool.and_true, Bool.true_and, Bool.and_false, Bool.false_and, Bool.not_true, Bool.not_false, if_true, if_false, c1, c2, e233, d1, q_M_again_52]
      · by_cases d2 : a 234 i = nI P
        · have d3 : ¬ a 235 i = nI Q := by
            rcases h2 with h2 | h2 | h2
            · exact absurd h2 d1
            · exact absurd d2 h2
            · exact h2
          simp (disch := omega) only [zqA0, zqB0, zqC0, zqD0, zqE0, zqF0, zqG0, zqH0, zqA1, zqB1, zqC1, zqD1, zqE1, zqF1, zqG1, zqH1, zqA2, zqB2, zqC2, zqD2, zqE2, zqF2, zqG2, zqH2, zqA3, zqB3, zqC3, zqD3, zqE3, zqF3, zqG3, zqH3, zqA4, zqB4, zqC4, zqD4, zqE4, zqF4, zqG4, zqH4, zqA5, zqB5, zqC5, zqD5, zqE5, zqF5, zqG5, zqH5, zqA6, zqB6, zqC6, zqD6, zqE6, zqF6, zqG6, zqH6, zqA8, zqB8, zqC8, zqD8, zqE8, zqF8, zqG8, zqH8, zqA9, zqB9, zqC9, zqD9, zqE9, zqF9, zqG9, zqH9, zqA10, zqB10, zqC10, zqD10, zqE10, zqF10, zqG10, zqH10, zqA11, zqB11, zqC11, zqD11, zqE11, zqF11, zqG11, zqH11, zqA16, zqB16, zqC16, zqD16, zqE16, zqF16, zqG16, zqH16, zqA18, zqB18, zqC18, zqD18, zqE18, zqF18, zqG18, zqH18, zqA20, zqB20, zqC20, zqD20, zqE20, zqF20, zqG20, zqH20, zqA60, zqB60, zqC60, zqD60, zqE60, zqF60, zqG60, zqH60, zqA63, zqB63, zqC63, zqD63, zqE63, zqF63, zqG63, zqH63, zqA80, zqB80, zqC80, zqD80, zqE80, zqF80, zqG80, zqH80, zqA100, zqB100, zqC100, zqD100, zqE100, zqF100, zqG100, zqH100, zqA120, zqB120, zqC120, zqD120, zqE120, zqF120, zqG120, zqH120, zqA630, zqB630, zqC630, zqD630, zqE630, zqF630, zqG630, zqH630, zqA1000, zqB1000, zqC1000, zqD1000, zqE1000, zqF1000, zqG1000, zqH1000, zqA1010, zqB1010, zqC1010, zqD1010, zqE1010, zqF1010, zqG1010, zqH1010, zqA5000, zqB5000, zqC5000, zqD5000, zqE5000, zqF5000, zqG5000, zqH5000, zz_p01, zz_p02, zz_p03, zz_p04, zz_p05, zz_p06, zz_p10, zz_p12, zz_p13, zz_p14, zz_p15, zz_p16, zz_p20, zz_p21, zz_p23, zz_p24, zz_p25, zz_p26, zz_p30, zz_p31, zz_p32, zz_p34, zz_p35, zz_p36, zz_p40, zz_p41, zz_p42, zz_p43, zz_p45, zz_p46, zz_p50, zz_p51, zz_p52, zz_p53, zz_p54, zz_p56, zz_p60, zz_p61, zz_p62, zz_p63, zz_p64, zz_p65, zz_q1, zz_w1, zz_q2, zz_w2, zz_q3, zz_w3, zz_q4, zz_w4, zz_q5, zz_w5, zz_q6, zz_w6, zz_w0, zz_m1, zz_lt, zz_01, zz_le, zz_eq, zz_n1, zz_in, zz_cl, zz_max, zz_min, zz_minN, zz_maxN, zz_02, zz_12, zz_c0, zz_c1, zz_b0, zz_b1, zz_bb, zz_d00, zz_d10, zz_neg, nI_add, pk_mul, zc_b0, zc_b1, cond_true, cond_false, zcI_ok, zcV_ok, okI_ret, okV_ret, zz_sub, zcond_t, zcond_f, bI_t, bI_f, eq_self, decide_true, decide_false, Bool.false_or, Bool.true_or, Bool.or_false, Bool.or_true, Bool.and_true, Bool.true_and, Bool.and_false, Bool.false_and, Bool.not_true, Bool.not_false, if_true, if_false, c1, c2, e233, e234, e235, e3, e7, d1, d2, d3, q_M_again_52]
        · simp (disch := omega) only [zqA0, zqB0, zqC0, zqD0, zqE0, zqF0, zqG0, zqH0, zqA1, zqB1, zqC1, zqD1, zqE1, zqF1, zqG1, zqH1, zqA2, zqB2, zqC2, zqD2, zqE2, zqF2, zqG2, zqH2, zqA3, zqB3, zqC3, zqD3, zqE3, zqF3, zqG3, zqH3, zqA4, zqB4, zqC4, zqD4, zqE4, zqF4, zqG4, zqH4, zqA5, zqB5, zqC5, zqD5, zqE5, zqF5, zqG5, zqH5, zqA6, zqB6, zqC6, zqD6, zqE6, zqF6, zqG6, zqH6, zqA8, zqB8, zqC8, zqD8, zqE8, zqF8, zqG8, zqH8, zqA9, zqB9, zqC9, zqD9, zqE9, zqF9, zqG9, zqH9, zqA10, zqB10, zqC10, zqD10, zqE10, zqF10, zqG10, zqH10, zqA11, zqB11, zqC11, zqD11, zqE11, zqF11, zqG11, zqH11, zqA16, zqB16, zqC16, zqD16, zqE16, zqF16, zqG16, zqH16, zqA18, zqB18, zqC18, zqD18, zqE18, zqF18, zqG18, zqH18, zqA20, zqB20, zqC20, zqD20, zqE20, zqF20, zqG20, zqH20, zqA60, zqB60, zqC60, zqD60, zqE60, zqF60, zqG60, zqH60, zqA63, zqB63, zqC63, zqD63, zqE63, zqF63, zqG63, zqH63, zqA80, zqB80, zqC80, zqD80, zqE80, zqF80, zqG80, zqH80, zqA100, zqB100, zqC100, zqD100, zqE100, zqF100, zqG100, zqH100, zqA120, zqB120, zqC120, zqD120, zqE120, zqF120, zqG120, zqH120, zqA630, zqB630, zqC630, zqD630, zqE630, zqF630, zqG630, zqH630, zqA1000, zqB1000, zqC1000, zqD1000, zqE1000, zqF1000, zqG1000, zqH1000, zqA1010, zqB1010, zqC1010, zqD1010, zqE1010, zqF1010, zqG1010, zqH1010, zqA5000, zqB5000, zqC5000, zqD5000, zqE5000, zqF5000, zqG5000, zqH5000, zz_p01, zz_p02, zz_p03, zz_p04, zz_p05, zz_p06, zz_p10, zz_p12, zz_p13, zz_p14, zz_p15, zz_p16, zz_p20, zz_p21, zz_p23, zz_p24, zz_p25, zz_p26, zz_p30, zz_p31, zz_p32, zz_p34, zz_p35, zz_p36, zz_p40, zz_p41, zz_p42, zz_p43, zz_p45, zz_p46, zz_p50, zz_p51, zz_p52, zz_p53, zz_p54, zz_p56, zz_p60, zz_p61, zz_p62, zz_p63, zz_p64, zz_p65, zz_q1, zz_w1, zz_q2, zz_w2, zz_q3, zz_w3, zz_q4, zz_w4, zz_q5, zz_w5, zz_q6, zz_w6, zz_w0, zz_m1, zz_lt, zz_01, zz_le, zz_eq, zz_n1, zz_in, zz_cl, zz_max, zz_min, zz_minN, zz_maxN, zz_02, zz_12, zz_c0, zz_c1, zz_b0, zz_b1, zz_bb, zz_d00, zz_d10, zz_neg, nI_add, pk_mul, zc_b0, zc_b1, cond_true, cond_false, zcI_ok, zcV_ok, okI_ret, okV_ret, zz_sub, zcond_t, zcond_f, bI_t, bI_f, eq_self, decide_true, decide_false, Bool.false_or, Bool.true_or, Bool.or_false, Bool.or_true, Bool.and_true, Bool.true_and, Bool.and_false, Bool.false_and, Bool.not_true, Bool.not_false, if_true, if_false, c1, c2, e233, e234, e235, e3, e7, d1, d2, q_M_again_52]
  rcases hK with ⟨h0, h1⟩ | ⟨h0, p, q, t, ⟨w1, w2, w3, w4⟩, y1, y2, y3, y4, y5, y6, y7, y8, y9, y10, y11, y12, y13⟩
  · exact no (fun z _ => nI_m1 (w := P) (by omega) (z.symm.trans h1)) (.inl h0)
  by_cases d1 : p = P
  case neg =>
    have n1 : ¬ nI p = nI P := fun z => d1 ((nI_eq (by omega) (by omega)).mp z)
    exact no (fun z _ => n1 (y4.symm.trans z)) (.inr (.inl (fun z => n1 (y5.symm.trans z))))
  by_cases d2 : q = Q
  case neg =>
    have n1 : ¬ nI q = nI Q := fun z => d2 ((nI_eq (by omega) (by omega)).mp z)
    exact no (fun _ z => n1 (y6.symm.trans z)) (.inr (.inr (fun z => n1 (y7.symm.trans z))))
  subst d1 d2
  obtain ⟨A, hA⟩ : ∃ A, A = bcm 12 s a := ⟨_, rfl⟩
  have hX : X_again (nI i) a b = okI 1 A b := by
    rw [hX0, decide_eq_true y4, decide_eq_true y6, hA]
    rfl
  have fA : ∀ q, ¬ (12 ≤ q ∧ q ≤ 18) → A q = a q := fun q hq => by
    rw [hA]
    funext j
    unfold bcm
    rw [if_neg (by omega), if_neg (by omega), if_neg (by omega), if_neg (by omega)]
  obtain ⟨o, ho⟩ : ∃ o, o = 711 * i := ⟨_, rfl⟩
  obtain ⟨c1', hc1⟩ : ∃ c1', c1' = zup (zup A 194 0 0) 194 65 (nI o) := ⟨_, rfl⟩
  have fc : ∀ q, q ≠ 194 → c1' q = A q := fun q hq => by rw [hc1, zup_row hq, zup_row hq]
  have f4 : ∀ j, j ≠ 0 → j ≠ 65 → c1' 194 j = A 194 j := fun j h1 h2 => by rw [hc1, zup_nj h2, zup_nj h1]
  have o0 : c1' 194 65 = nI o := by rw [hc1]; exact zup_eq _ _ _ _
  obtain ⟨l206, l203, l204, l205, l196, l198⟩ := sh_m
  have m1 := m_tak (q := 206) (f := 0) (n := 600) (a := c1') (b := b) (by decide) (by decide) l206 (by decide) (by decide) o0 (by omega)
  obtain ⟨c2', hc2⟩ : ∃ x, x = tak c1' 206 0 o 600 := ⟨_, rfl⟩
  have m2 := m_tak (q := 206) (f := 630) (n := 10) (a := c2') (b := b) (by decide) (by decide) l206 (by decide) (by decide) (show c2' 194 65 = nI (o + 600) by rw [hc2]; exact tak_5) (by omega)
  obtain ⟨c3', hc3⟩ : ∃ x, x = tak c2' 206 630 (o + 600) 10 := ⟨_, rfl⟩
  have m3 := m_tak (q := 203) (f := 0) (n := 10) (a := c3') (b := b) (by decide) (by decide) l203 (by decide) (by decide) (show c3' 194 65 = nI (o + 610) by rw [hc3]; exact tak_5) (by omega)
  obtain ⟨c4', hc4⟩ : ∃ x, x = tak c3' 203 0 (o + 610) 10 := ⟨_, rfl⟩
  have m4 := m_tak (q := 204) (f := 0) (n := 10) (a := c4') (b := b) (by decide) (by decide) l204 (by decide) (by decide) (show c4' 194 65 = nI (o + 620) by rw [hc4]; exact tak_5) (by omega)
  obtain ⟨c5', hc5⟩ : ∃ x, x = tak c4' 204 0 (o + 620) 10 := ⟨_, rfl⟩
  have m5 := m_tak (q := 205) (f := 0) (n := 10) (a := c5') (b := b) (by decide) (by decide) l205 (by decide) (by decide) (show c5' 194 65 = nI (o + 630) by rw [hc5]; exact tak_5) (by omega)
  obtain ⟨c6', hc6⟩ : ∃ x, x = tak c5' 205 0 (o + 630) 10 := ⟨_, rfl⟩
  have m6 := m_tak (q := 196) (f := 0) (n := 10) (a := c6') (b := b) (by decide) (by decide) l196 (by decide) (by decide) (show c6' 194 65 = nI (o + 640) by rw [hc6]; exact tak_5) (by omega)
  obtain ⟨c7', hc7⟩ : ∃ x, x = tak c6' 196 0 (o + 640) 10 := ⟨_, rfl⟩
  have m7 := m_tak (q := 198) (f := 0) (n := 60) (a := c7') (b := b) (by decide) (by decide) l198 (by decide) (by decide) (show c7' 194 65 = nI (o + 650) by rw [hc7]; exact tak_5) (by omega)
  obtain ⟨c8', hc8⟩ : ∃ x, x = tak c7' 198 0 (o + 650) 60 := ⟨_, rfl⟩
  have o8 : c8' 194 65 = nI (o + 710) := by rw [hc8]; exact tak_5
  rw [← hc2] at m1; rw [← hc3] at m2; rw [← hc4] at m3; rw [← hc5] at m4; rw [← hc6] at m5; rw [← hc7] at m6; rw [← hc8] at m7
  have kK : ∀ j, c1' 236 j = a 236 j := fun j => by rw [fc 236 (by decide), fA 236 (by omega)]
  have K2 : ∀ j, c2' 236 j = a 236 j := fun j => by rw [hc2, tak_q (by decide) (by decide)]; exact kK j
  have K3 : ∀ j, c3' 236 j = a 236 j := fun j => by rw [hc3, tak_q (by decide) (by decide)]; exact K2 j
  have K4 : ∀ j, c4' 236 j = a 236 j := fun j => by rw [hc4, tak_q (by decide) (by decide)]; exact K3 j
  have K5 : ∀ j, c5' 236 j = a 236 j := fun j => by rw [hc5, tak_q (by decide) (by decide)]; exact K4 j
  have K6 : ∀ j, c6' 236 j = a 236 j := fun j => by rw [hc6, tak_q (by decide) (by decide)]; exact K5 j
  have K7 : ∀ j, c7' 236 j = a 236 j := fun j => by rw [hc7, tak_q (by decide) (by decide)]; exact K6 j
  have K8 : ∀ j, c8' 236 j = a 236 j := fun j => by rw [hc8, tak_q (by decide) (by decide)]; exact K7 j
  have tt : c8' 236 (o + 710) = nI t := by rw [K8, ho]; exact y9
  obtain ⟨F, hF⟩ : ∃ F, F = zup c8' 194 15 (nI t) := ⟨_, rfl⟩
  have hM : M_again (nI i) A b = okI 1 F b := by
    have j233 : zup A 194 0 0 233 i = 1 := (zup_ne (by decide)).trans ((congrFun (fA 233 (by omega)) i).trans h0)
    have j234 : zup A 194 0 0 234 i = nI p := (zup_ne (by decide)).trans ((congrFun (fA 234 (by omega)) i).trans y5)
    have j235 : zup A 194 0 0 235 i = nI q := (zup_ne (by decide)).trans ((congrFun (fA 235 (by omega)) i).trans y7)
    have j3 : zup A 194 0 0 194 3 = nI p := (zup_nj (by decide)).trans ((congrFun (fA 194 (by omega)) 3).trans p2)
    have j7 : zup A 194 0 0 194 7 = nI q := (zup_nj (by decide)).trans ((congrFun (fA 194 (by omega)) 7).trans q2)
    have j9 : (711 : Int32) * nI i = nI o := by rw [ho]; exact pk_mul 711 i
    rw [q_M_again, hin, if_neg c1, if_neg c2, zcI_ok, zcond_f (by decide), zi, ki, j233, zcond_f (by decide), j234, j3, zcond_t rfl, j235, j7, zcond_t rfl, j9, ← hc1, cond_true, cond_true, cond_true]
    refine Eq.trans (congrArg (fun r => zcV r _) m1) ?_
    rw [zcV_ok]
    refine Eq.trans (congrArg (fun r => zcV r _) m2) ?_
    rw [zcV_ok]
    refine Eq.trans (congrArg (fun r => zcV r _) m3) ?_
    rw [zcV_ok]
    refine Eq.trans (congrArg (fun r => zcV r _) m4) ?_
    rw [zcV_ok]
    refine Eq.trans (congrArg (fun r => zcV r _) m5) ?_
    rw [zcV_ok]
    refine Eq.trans (congrArg (fun r => zcV r _) m6) ?_
    rw [zcV_ok]
    refine Eq.trans (congrArg (fun r => zcV r _) m7) ?_
    rw [zcV_ok, o8]
    simp (disch := omega) only [zqA0, zqB0, zqC0, zqD0, zqE0, zqF0, zqG0, zqH0, zqA1, zqB1, zqC1, zqD1, zqE1, zqF1, zqG1, zqH1, zqA2, zqB2, zqC2, zqD2, zqE2, zqF2, zqG2, zqH2, zqA3, zqB3, zqC3, zqD3, zqE3, zqF3, zqG3, zqH3, zqA4, zqB4, zqC4, zqD4, zqE4, zqF4, zqG4, zqH4, zqA5, zqB5, zqC5, zqD5, zqE5, zqF5, zqG5, zqH5, zqA6, zqB6, zqC6, zqD6, zqE6, zqF6, zqG6, zqH6, zqA8, zqB8, zqC8, zqD8, zqE8, zqF8, zqG8, zqH8, zqA9, zqB9, zqC9, zqD9, zqE9, zqF9, zqG9, zqH9, zqA10, zqB10, zqC10, zqD10, zqE10, zqF10, zqG10, zqH10, zqA11, zqB11, zqC11, zqD11, zqE11, zqF11, zqG11, zqH11, zqA16, zqB16, zqC16, zqD16, zqE16, zqF16, zqG16, zqH16, zqA18, zqB18, zqC18, zqD18, zqE18, zqF18, zqG18, zqH18, zqA20, zqB20, zqC20, zqD20, zqE20, zqF20, zqG20, zqH20, zqA60, zqB60, zqC60, zqD60, zqE60, zqF60, zqG60, zqH60, zqA63, zqB63, zqC63, zqD63, zqE63, zqF63, zqG63, zqH63, zqA80, zqB80, zqC80, zqD80, zqE80, zqF80, zqG80, zqH80, zqA100, zqB100, zqC100, zqD100, zqE100, zqF100, zqG100, zqH100, zqA120, zqB120, zqC120, zqD120, zqE120, zqF120, zqG120, zqH120, zqA630, zqB630, zqC630, zqD630, zqE630, zqF630, zqG630, zqH630, zqA1000, zqB1000, zqC1000, zqD1000, zqE1000, zqF1000, zqG1000, zqH1000, zqA1010, zqB1010, zqC1010, zqD1010, zqE1010, zqF1010, zqG1010, zqH1010, zqA5000, zqB5000, zqC5000, zqD5000, zqE5000, zqF5000, zqG5000, zqH5000, zz_p01, zz_p02, zz_p03, zz_p04, zz_p05, zz_p06, zz_p10, zz_p12, zz_p13, zz_p14, zz_p15, zz_p16, zz_p20, zz_p21, zz_p23, zz_p24, zz_p25, zz_p26, zz_p30, zz_p31, zz_p32, zz_p34, zz_p35, zz_p36, zz_p40, zz_p41, zz_p42, zz_p43, zz_p45, zz_p46, zz_p50, zz_p51, zz_p52, zz_p53, zz_p54, zz_p56, zz_p60, zz_p61, zz_p62, zz_p63, zz_p64, zz_p65, zz_q1, zz_w1, zz_q2, zz_w2, zz_q3, zz_w3, zz_q4, zz_w4, zz_q5, zz_w5, zz_q6, zz_w6, zz_w0, zz_m1, zz_lt, zz_01, zz_le, zz_eq, zz_n1, zz_in, zz_cl, zz_max, zz_min, zz_minN, zz_maxN, zz_02, zz_12, zz_c0, zz_c1, zz_b0, zz_b1, zz_bb, zz_d00, zz_d10, zz_neg, nI_add, pk_mul, zc_b0, zc_b1, cond_true, cond_false, zcI_ok, zcV_ok, okI_ret, okV_ret, zz_sub, zcond_t, zcond_f, bI_t, bI_f, eq_self, decide_true, decide_false, Bool.false_or, Bool.true_or, Bool.or_false, Bool.or_true, Bool.and_true, Bool.true_and, Bool.and_false, Bool.false_and, Bool.not_true, Bool.not_false, if_true, if_false, tt]
    rw [hF]
  have lo : ∀ q, q ≠ 194 → q ≠ 206 → q ≠ 203 → q ≠ 204 → q ≠ 205 → q ≠ 196 → q ≠ 198 → F q = A q := fun q h1 h2 h3 h4 h5 h6 h7 => by
    rw [hF, zup_row h1, hc8, tak_q h1 h7, hc7, tak_q h1 h6, hc6, tak_q h1 h5, hc5, tak_q h1 h4, hc4, tak_q h1 h3, hc3, tak_q h1 h2, hc2, tak_q h1 h2]
    exact fc q h1
  have s8 : ∀ j, j ≠ 0 → j ≠ 15 → j ≠ 65 → F 194 j = a 194 j := fun j h1 h2 h => by
    rw [hF, zup_nj h2, hc8, tak_4 h (by decide), hc7, tak_4 h (by decide), hc6, tak_4 h (by decide), hc5, tak_4 h (by decide), hc4, tak_4 h (by decide), hc3, tak_4 h (by decide), hc2, tak_4 h (by decide), f4 j h1 h, fA 194 (by omega)]
  have k206 : ∀ j, j < 600 → F 206 j = a 236 (o + j) := fun j hj => by
    rw [hF, zup_ne (by decide), hc8, tak_q (by decide) (by decide), hc7, tak_q (by decide) (by decide), hc6, tak_q (by decide) (by decide), hc5, tak_q (by decide) (by decide), hc4, tak_q (by decide) (by decide), hc3, tak_o (by decide) (by omega), hc2]
    have := tak_j (c := c1') (q := 206) (f := 0) (o := o) (n := 600) (k := j) (by decide) hj
    rw [Nat.zero_add] at this
    rw [this, kK]
  have k630 : ∀ j, j < 10 → F 206 (630 + j) = a 236 (o + 600 + j) := fun j hj => by
    rw [hF, zup_ne (by decide), hc8, tak_q (by decide) (by decide), hc7, tak_q (by decide) (by decide), hc6, tak_q (by decide) (by decide), hc5, tak_q (by decide) (by decide), hc4, tak_q (by decide) (by decide), hc3, tak_j (by decide) hj, K2]
  have k203 : ∀ j, j < 10 → F 203 j = a 236 (o + 610 + j) := fun j hj => by
    rw [hF, zup_ne (by decide), hc8, tak_q (by decide) (by decide), hc7, tak_q (by decide) (by decide), hc6, tak_q (by decide) (by decide), hc5, tak_q (by decide) (by decide), hc4]
    have := tak_j (c := c3') (q := 203) (f := 0) (o := o + 610) (n := 10) (k := j) (by decide) hj
    rw [Nat.zero_add] at this
    rw [this, K3]
  have k204 : ∀ j, j < 10 → F 204 j = a 236 (o + 620 + j) := fun j hj => by
    rw [hF, zup_ne (by decide), hc8, tak_q (by decide) (by decide), hc7, tak_q (by decide) (by decide), hc6, tak_q (by decide) (by decide), hc5]
    have := tak_j (c := c4') (q := 204) (f := 0) (o := o + 620) (n := 10) (k := j) (by decide) hj
    rw [Nat.zero_add] at this
    rw [this, K4]
  have k205 : ∀ j, j < 10 → F 205 j = a 236 (o + 630 + j) := fun j hj => by
    rw [hF, zup_ne (by decide), hc8, tak_q (by decide) (by decide), hc7, tak_q (by decide) (by decide), hc6]
    have := tak_j (c := c5') (q := 205) (f := 0) (o := o + 630) (n := 10) (k := j) (by decide) hj
    rw [Nat.zero_add] at this
    rw [this, K5]
  have k196 : ∀ j, j < 10 → F 196 j = a 236 (o + 640 + j) := fun j hj => by
    rw [hF, zup_ne (by decide), hc8, tak_q (by decide) (by decide), hc7]
    have := tak_j (c := c6') (q := 196) (f := 0) (o := o + 640) (n := 10) (k := j) (by decide) hj
    rw [Nat.zero_add] at this
    rw [this, K6]
  have k198 : ∀ j, j < 60 → F 198 j = a 236 (o + 650 + j) := fun j hj => by
    rw [hF, zup_ne (by decide), hc8]
    have := tak_j (c := c7') (q := 198) (f := 0) (o := o + 650) (n := 60) (k := j) (by decide) hj
    rw [Nat.zero_add] at this
    rw [this, K7]
  have sD : ∀ j, j < 610 → A 13 j = a (s + 1) j := fun j hj => by
    rw [hA]
    unfold bcm
    rw [if_neg (by omega), if_pos ⟨rfl, hj⟩]
  have sW : ∀ k, 2 ≤ k → k ≤ 5 → ∀ j, j < 10 → A (12 + k) j = a (s + k) j := fun k h1 h2 j hj => by
    rw [hA]
    unfold bcm
    rw [if_neg (by omega), if_neg (by omega), if_pos ⟨by omega, hj⟩, Nat.add_sub_cancel_left]
  have sH : ∀ j, j < 60 → A 18 j = a (s + 6) j := fun j hj => by
    rw [hA]
    unfold bcm
    rw [if_neg (by omega), if_neg (by omega), if_neg (by omega), if_pos ⟨rfl, hj⟩]
  have s6 : A 12 6 = nI t := by
    rw [hA]
    unfold bcm
    rw [if_pos ⟨rfl, rfl⟩]
    exact y8
  refine ⟨1, A, b, F, b, hX, fun j => congrFun (fA 0 (by omega)) j, hM, p, q, t, G, N, ?_⟩
  have zlo : ∀ r, r ≤ 20 → zmask F r = F r := fun r hr => zm_lo (.inl hr)
  have zhi : ∀ r, 195 ≤ r → r ≤ 210 → zmask F r = F r := fun r h1 h2 => zm_lo (.inr (by omega))
  have lA : ∀ r, r ≤ 18 → F r = A r := fun r hr => lo r (by omega) (by omega) (by omega) (by omega) (by omega) (by omega) (by omega)
  have oK : ∀ n j, a 236 (o + n + j) = a 236 (711 * i + n + j) := fun n j => by rw [ho]
  refine rel_state hall (fun r hr => ?_) (fun j hj => ?_) ?_ ?_ y3 ?_ ?_ ?_ ?_ ?_
  · funext j
    unfold zmask
    rw [lo r (by omega) (by omega) (by omega) (by omega) (by omega) (by omega) (by omega), fA r (by omega)]
  · unfold zmask
    by_cases e1 : j = 0
    · subst e1; rfl
    · by_cases e2 : j = 65
      · subst e2; rfl
      · rw [s8 j e1 hj e2]
  · rw [zlo 12 (by decide), lA 12 (by decide)]; exact s6
  · show F 194 15 = nI t
    rw [hF]; exact zup_eq _ _ _ _
  · rw [zlo 17 (by decide), zlo 18 (by decide), zhi 196 (by decide) (by decide), zhi 198 (by decide) (by decide), lA 17 (by decide), lA 18 (by decide)]
    exact ⟨rSame_c y12 (fun j hj => sW 5 (by decide) (by decide) j (by omega)) (fun j hj => (k196 j (by omega)).trans (oK 640 j)), rSame_c y13 (fun j hj => sH j hj) (fun j hj => (k198 j hj).trans (oK 650 j))⟩
  · rw [zlo 13 (by decide), zhi 206 (by decide) (by decide), lA 13 (by decide)]
    exact rDays_c y10 y3 g2 sD (fun j hj => (k206 j hj).trans (oK 0 j)) (fun j hj => (k630 j hj).trans (oK 600 j))
  · rw [zlo 14 (by decide), zlo 15 (by decide), zlo 16 (by decide), zhi 203 (by decide) (by decide), zhi 204 (by decide) (by decide), zhi 205 (by decide) (by decide), lA 14 (by decide), lA 15 (by decide), lA 16 (by decide)]
    exact rWork_c y11 g2 (fun j hj => ⟨sW 2 (by decide) (by decide) j hj, (k204 j hj).trans (oK 620 j), sW 3 (by decide) (by decide) j hj, (k203 j hj).trans (oK 610 j), sW 4 (by decide) (by decide) j hj, (k205 j hj).trans (oK 630 j)⟩)
  · rw [zlo 15 (by decide), zlo 6 (by decide), lA 15 (by decide), lA 6 (by decide), fA 6 (by omega)]
    intro r hr
    rw [sW 3 (by decide) (by decide) r hr]
    exact w3 r hr
  · rw [zlo 18 (by decide), zlo 3 (by decide), lA 18 (by decide), lA 3 (by decide), fA 3 (by omega)]
    intro w k hw hk
    rw [sH _ (by omega)]
    exact w4 w k hw hk
