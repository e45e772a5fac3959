/-! States copied by the class; rows laid away and taken back by the reference. -/
def bcm (d s : Nat) (a : zA) : zA := fun q j => if q = d ∧ j = 6 then a s 6 else if q = d + 1 ∧ j < 610 then a (s + 1) j else if (d + 2 ≤ q ∧ q ≤ d + 5) ∧ j < 10 then a (s + (q - d)) j else if q = d + 6 ∧ j < 60 then a (s + 6) j else a q j
def bcz (d s : Nat) (a : zA) : zA := zup (zcp (zcp (zcp (zcp (zcp (zcp a (s + 1) 0 (d + 1) 0 610) (s + 2) 0 (d + 2) 0 10) (s + 3) 0 (d + 3) 0 10) (s + 4) 0 (d + 4) 0 10) (s + 5) 0 (d + 5) 0 10) (s + 6) 0 (d + 6) 0 60) d 6 (a s 6)
theorem bcz_e {d s : Nat} (a : zA) (h : d + 7 ≤ s ∨ s + 7 ≤ d) : bcz d s a = bcm d s a := by
  funext q j
  unfold bcz bcm zup zcp
  simp only [Nat.zero_le, true_and, Nat.zero_add, Nat.sub_zero]
  by_cases h0 : q = d
  · subst h0
    by_cases hj : j = 6
    · simp [hj]
    · simp [hj]
      intro z
      omega
  · by_cases h1 : q = d + 1
    · subst h1
      by_cases hj : j < 610
      · simp [hj]
      · simp [hj]
    · by_cases h2 : q = d + 2
      · subst h2
        by_cases hj : j < 10
        · have e1 : ¬ s + 2 = d + 1 := by omega
          simp [hj, e1]
        · simp [hj]
      · by_cases h3 : q = d + 3
        · subst h3
          by_cases hj : j < 10
          · have e1 : ¬ s + 3 = d + 1 := by omega
            have e2 : ¬ s + 3 = d + 2 := by omega
            simp [hj, e1, e2]
          · simp [hj]
        · by_cases h4 : q = d + 4
          · subst h4
            by_cases hj : j < 10
            · have e1 : ¬ s + 4 = d + 1 := by omega
              have e2 : ¬ s + 4 = d + 2 := by omega
              have e3 : ¬ s + 4 = d + 3 := by omega
              simp [hj, e1, e2, e3]
            · simp [hj]
          · by_cases h5 : q = d + 5
            · subst h5
              by_cases hj : j < 10
              · have e1 : ¬ s + 5 = d + 1 := by omega
                have e2 : ¬ s + 5 = d + 2 := by omega
                have e3 : ¬ s + 5 = d + 3 := by omega
                have e4 : ¬ s + 5 = d + 4 := by omega
                simp [hj, e1, e2, e3, e4]
              · simp [hj]
            · by_cases h6 : q = d + 6
              · subst h6
                by_cases hj : j < 60
                · have e1 : ¬ s + 6 = d + 1 := by omega
                  have e2 : ¬ s + 6 = d + 2 := by omega
                  have e3 : ¬ s + 6 = d + 3 := by omega
                  have e4 : ¬ s + 6 = d + 4 := by omega
                  have e5 : ¬ s + 6 = d + 5 := by omega
                  simp [hj, e1, e2, e3, e4, e5]
                · simp [hj]
              · have e : ¬ (d + 2 ≤ q ∧ q ≤ d + 5) := by omega
                rw [if_neg (fun z => h0 z.1), if_neg (fun z => h6 z.1), if_neg (fun z => h5 z.1), if_neg (fun z => h4 z.1), if_neg (fun z => h3 z.1), if_neg (fun z => h2 z.1), if_neg (fun z => h1 z.1), if_neg (fun z => h0 z.1), if_neg (fun z => h1 z.1), if_neg (fun z => e z.1), if_neg (fun z => h6 z.1)]
set_option maxRecDepth 100000 in
theorem kp_tab (i : Nat) (hi : i < 3) : zrs zSH 19 i = true ∧ zrg zSH 19 i = 173 + 7 * i ∧ zokc zSH (173 + 7 * i) 6 = true ∧ (∀ a b, S_becomeG (173 + 7 * i) 12 a b = okV (bcm (173 + 7 * i) 12 a) b) ∧ ∀ a b, S_becomeG 12 (173 + 7 * i) a b = okV (bcm 12 (173 + 7 * i) a) b := by
  have : i = 0 ∨ i = 1 ∨ i = 2 := by omega
  rcases this with rfl | rfl | rfl
  · exact ⟨rfl, rfl, rfl, fun a b => by rw [← bcz_e a (by decide)]; exact (q_S_become_173_12 a b).trans rfl, fun a b => by rw [← bcz_e a (by decide)]; exact (q_S_become_12_173 a b).trans rfl⟩
  · exact ⟨rfl, rfl, rfl, fun a b => by rw [← bcz_e a (by decide)]; exact (q_S_become_180_12 a b).trans rfl, fun a b => by rw [← bcz_e a (by decide)]; exact (q_S_become_12_180 a b).trans rfl⟩
  · exact ⟨rfl, rfl, rfl, fun a b => by rw [← bcz_e a (by decide)]; exact (q_S_become_187_12 a b).trans rfl, fun a b => by rw [← bcz_e a (by decide)]; exact (q_S_become_12_187 a b).trans rfl⟩
theorem zfo_s {c : zA} {q o i : Nat} {g : Nat → Int32} : zup (zfo c q o i g) q (o + i) (g i) = zfo c q o (i + 1) g := by
  funext q' j
  unfold zup zfo
  by_cases h : q' = q
  · subst h
    by_cases h2 : j = o + i
    · subst h2
      rw [if_pos ⟨rfl, rfl⟩, if_pos ⟨rfl, by omega, by omega⟩, Nat.add_sub_cancel_left]
    · rw [if_neg (fun z => h2 z.2)]
      by_cases h3 : o ≤ j ∧ j < o + i
      · rw [if_pos ⟨rfl, h3⟩, if_pos ⟨rfl, by omega, by omega⟩]
      · rw [if_neg (fun z => h3 z.2), if_neg (fun z => by omega)]
  · rw [if_neg (fun z => h z.1), if_neg (fun z => h z.1), if_neg (fun z => h z.1)]
theorem zfo_0 (c : zA) (q o : Nat) (g : Nat → Int32) : zfo c q o 0 g = c := by
  funext q' j
  exact if_neg (fun z => by omega)
theorem m_lays {q f n o len : Nat} {a : zA} {b : zB} (h1 : q ≠ 236) (h2 : zokI zSH q = true) (h3 : ∀ c : zA, zlen zSH c q = len) (h4 : f + n ≤ len) (hl : len ≤ 100000) (ho : a 194 65 = nI o) (hon : o + n ≤ 2133) : M_lays q (nI f) (nI n) a b = okV (zup (zfo a 236 o n (fun k => a q (f + k))) 194 65 (nI (o + n))) b := by
  have fr : ∀ i, zfo a 236 o i (fun k => a q (f + k)) 194 65 = nI o := fun i => (congrFun (zfo_q (by decide)) 65).trans ho
  have hs : ∀ i, i < n → M_lays_3 q (nI f) (nI n) (nI i) (zfo a 236 o i (fun k => a q (f + k))) b = M_lays_3 q (nI f) (nI n) (nI (i + 1)) (zfo a 236 o (i + 1) (fun k => a q (f + k))) b := by
    intro i hi
    have e1 : zfo a 236 o i (fun k => a q (f + k)) q (f + i) = a q (f + i) := congrFun (zfo_q h1) _
    rw [q_M_lays_3, fr, h2, h3, ← zfo_s]
    simp (disch := omega) only [zqA0, zqB0, zqC0, zqD0, zqE0, zqF0, zqG0, zqH0, zqA1, zqB1, zqC1, zqD1, zqE1, zqF1, zqG1, zqH1, zqA2, zqB2, zqC2, zqD2, zqE2, zqF2, zqG2, zqH2, zqA3, zqB3, zqC3, zqD3, zqE3, zqF3, zqG3, zqH3, zqA4, zqB4, zqC4, zqD4, zqE4, zqF4, zqG4, zqH4, zqA5, zqB5, zqC5, zqD5, zqE5, zqF5, zqG5, zqH5, zqA6, zqB6, zqC6, zqD6, zqE6, zqF6, zqG6, zqH6, zqA8, zqB8, zqC8, zqD8, zqE8, zqF8, zqG8, zqH8, zqA9, zqB9, zqC9, zqD9, zqE9, zqF9, zqG9, zqH9, zqA10, zqB10, zqC10, zqD10, zqE10, zqF10, zqG10, zqH10, zqA11, zqB11, zqC11, zqD11, zqE11, zqF11, zqG11, zqH11, zqA16, zqB16, zqC16, zqD16, zqE16, zqF16, zqG16, zqH16, zqA18, zqB18, zqC18, zqD18, zqE18, zqF18, zqG18, zqH18, zqA20, zqB20, zqC20, zqD20, zqE20, zqF20, zqG20, zqH20, zqA60, zqB60, zqC60, zqD60, zqE60, zqF60, zqG60, zqH60, zqA63, zqB63, zqC63, zqD63, zqE63, zqF63, zqG63, zqH63, zqA80, zqB80, zqC80, zqD80, zqE80, zqF80, zqG80, zqH80, zqA100, zqB100, zqC100, zqD100, zqE100, zqF100, zqG100, zqH100, zqA120, zqB120, zqC120, zqD120, zqE120, zqF120, zqG120, zqH120, zqA630, zqB630, zqC630, zqD630, zqE630, zqF630, zqG630, zqH630, zqA1000, zqB1000, zqC1000, zqD1000, zqE1000, zqF1000, zqG1000, zqH1000, zqA1010, zqB1010, zqC1010, zqD1010, zqE1010, zqF1010, zqG1010, zqH1010, zqA5000, zqB5000, zqC5000, zqD5000, zqE5000, zqF5000, zqG5000, zqH5000, zz_p01, zz_p02, zz_p03, zz_p04, zz_p05, zz_p06, zz_p10, zz_p12, zz_p13, zz_p14, zz_p15, zz_p16, zz_p20, zz_p21, zz_p23, zz_p24, zz_p25, zz_p26, zz_p30, zz_p31, zz_p32, zz_p34, zz_p35, zz_p36, zz_p40, zz_p41, zz_p42, zz_p43, zz_p45, zz_p46, zz_p50, zz_p51, zz_p52, zz_p53, zz_p54, zz_p56, zz_p60, zz_p61, zz_p62, zz_p63, zz_p64, zz_p65, zz_q1, zz_w1, zz_q2, zz_w2, zz_q3, zz_w3, zz_q4, zz_w4, zz_q5, zz_w5, zz_q6, zz_w6, zz_w0, zz_m1, zz_lt, zz_01, zz_le, zz_eq, zz_n1, zz_in, zz_cl, zz_max, zz_min, zz_minN, zz_maxN, zz_02, zz_12, zz_c0, zz_c1, zz_b0, zz_b1, zz_bb, zz_d00, zz_d10, zz_neg, nI_add, pk_mul, zc_b0, zc_b1, cond_true, cond_false, zcI_ok, zcV_ok, okI_ret, okV_ret, zz_sub, zcond_t, zcond_f, bI_t, bI_f, eq_self, decide_true, decide_false, Bool.false_or, Bool.true_or, Bool.or_false, Bool.or_true, Bool.and_true, Bool.true_and, Bool.and_false, Bool.false_and, Bool.not_true, Bool.not_false, if_true, if_false, e1]
  have h := lpC (F := fun i => M_lays_3 q (nI f) (nI n) (nI i) (zfo a 236 o i (fun k => a q (f + k))) b) hs n 0 (Nat.zero_add _)
  rw [zfo_0] at h
  rw [q_M_lays]
  refine Eq.trans h ?_
  rw [q_M_lays_3, fr]
  simp (disch := omega) only [zqA0, zqB0, zqC0, zqD0, zqE0, zqF0, zqG0, zqH0, zqA1, zqB1, zqC1, zqD1, zqE1, zqF1, zqG1, zqH1, zqA2, zqB2, zqC2, zqD2, zqE2, zqF2, zqG2, zqH2, zqA3, zqB3, zqC3, zqD3, zqE3, zqF3, zqG3, zqH3, zqA4, zqB4, zqC4, zqD4, zqE4, zqF4, zqG4, zqH4, zqA5, zqB5, zqC5, zqD5, zqE5, zqF5, zqG5, zqH5, zqA6, zqB6, zqC6, zqD6, zqE6, zqF6, zqG6, zqH6, zqA8, zqB8, zqC8, zqD8, zqE8, zqF8, zqG8, zqH8, zqA9, zqB9, zqC9, zqD9, zqE9, zqF9, zqG9, zqH9, zqA10, zqB10, zqC10, zqD10, zqE10, zqF10, zqG10, zqH10, zqA11, zqB11, zqC11, zqD11, zqE11, zqF11, zqG11, zqH11, zqA16, zqB16, zqC16, zqD16, zqE16, zqF16, zqG16, zqH16, zqA18, zqB18, zqC18, zqD18, zqE18, zqF18, zqG18, zqH18, zqA20, zqB20, zqC20, zqD20, zqE20, zqF20, zqG20, zqH20, zqA60, zqB60, zqC60, zqD60, zqE60, zqF60, zqG60, zqH60, zqA63, zqB63, zqC63, zqD63, zqE63, zqF63, zqG63, zqH63, zqA80, zqB80, zqC80, zqD80, zqE80, zqF80, zqG80, zqH80, zqA100, zqB100, zqC100, zqD100, zqE100, zqF100, zqG100, zqH100, zqA120, zqB120, zqC120, zqD120, zqE120, zqF120, zqG120, zqH120, zqA630, zqB630, zqC630, zqD630, zqE630, zqF630, zqG630, zqH630, zqA1000, zqB1000, zqC1000, zqD1000, zqE1000, zqF1000, zqG1000, zqH1000, zqA1010, zqB1010, zqC1010, zqD1010, zqE1010, zqF1010, zqG1010, zqH1010, zqA5000, zqB5000, zqC5000, zqD5000, zqE5000, zqF5000, zqG5000, zqH5000, zz_p01, zz_p02, zz_p03, zz_p04, zz_p05, zz_p06, zz_p10, zz_p12, zz_p13, zz_p14, zz_p15, zz_p16, zz_p20, zz_p21, zz_p23, zz_p24, zz_p25, zz_p26, zz_p30, zz_p31, zz_p32, zz_p34, zz_p35, zz_p36, zz_p40, zz_p41, zz_p42, zz_p43, zz_p45, zz_p46, zz_p50, zz_p51, zz_p52, zz_p53, zz_p54, zz_p56, zz_p60, zz_p61, zz_p62, zz_p63, zz_p64, zz_p65, zz_q1, zz_w1, zz_q2, zz_w2, zz_q3, zz_w3, zz_q4, zz_w4, zz_q5, zz_w5, zz_q6, zz_w6, zz_w0, zz_m1, zz_lt, zz_01, zz_le, zz_eq, zz_n1, zz_in, zz_cl, zz_max, zz_min, zz_minN, zz_maxN, zz_02, zz_12, zz_c0, zz_c1, zz_b0, zz_b1, zz_bb, zz_d00, zz_d10, zz_neg, nI_add, pk_mul, zc_b0, zc_b1, cond_true, cond_false, zcI_ok, zcV_ok, okI_ret, okV_ret, zz_sub, zcond_t, zcond_f, bI_t, bI_f, eq_self, decide_true, decide_false, Bool.false_or, Bool.true_or, Bool.or_false, Bool.or_true, Bool.and_true, Bool.true_and, Bool.and_false, Bool.false_and, Bool.not_true, Bool.not_false, if_true, if_false]
theorem m_takes {q f n o len : Nat} {a : zA} {b : zB} (h1 : q ≠ 236) (h5 : q ≠ 194) (h2 : zokc zSH q 20 = true) (h3 : ∀ c : zA, zlen zSH c q = len) (h4 : f + n ≤ len) (hl : len ≤ 100000) (ho : a 194 65 = nI o) (hon : o + n ≤ 2133) : M_takesBack q (nI f) (nI n) a b = okV (zup (zfo a q f n (fun k => a 236 (o + k))) 194 65 (nI (o + n))) b := by
  have fr : ∀ i, zfo a q f i (fun k => a 236 (o + k)) 194 65 = nI o := fun i => (congrFun (zfo_q (fun z => h5 z.symm)) 65).trans ho
  have hs : ∀ i, i < n → M_takesBack_3 q (nI f) (nI n) (nI i) (zfo a q f i (fun k => a 236 (o + k))) b = M_takesBack_3 q (nI f) (nI n) (nI (i + 1)) (zfo a q f (i + 1) (fun k => a 236 (o + k))) b := by
    intro i hi
    have e1 : zfo a q f i (fun k => a 236 (o + k)) 236 (o + i) = a 236 (o + i) := congrFun (zfo_q (fun z => h1 z.symm)) _
    rw [q_M_takesBack_3, fr, h2, h3, ← zfo_s]
    simp (disch := omega) only [zqA0, zqB0, zqC0, zqD0, zqE0, zqF0, zqG0, zqH0, zqA1, zqB1, zqC1, zqD1, zqE1, zqF1, zqG1, zqH1, zqA2, zqB2, zqC2, zqD2, zqE2, zqF2, zqG2, zqH2, zqA3, zqB3, zqC3, zqD3, zqE3, zqF3, zqG3, zqH3, zqA4, zqB4, zqC4, zqD4, zqE4, zqF4, zqG4, zqH4, zqA5, zqB5, zqC5, zqD5, zqE5, zqF5, zqG5, zqH5, zqA6, zqB6, zqC6, zqD6, zqE6, zqF6, zqG6, zqH6, zqA8, zqB8, zqC8, zqD8, zqE8, zqF8, zqG8, zqH8, zqA9, zqB9, zqC9, zqD9, zqE9, zqF9, zqG9, zqH9, zqA10, zqB10, zqC10, zqD10, zqE10, zqF10, zqG10, zqH10, zqA11, zqB11, zqC11, zqD11, zqE11, zqF11, zqG11, zqH11, zqA16, zqB16, zqC16, zqD16, zqE16, zqF16, zqG16, zqH16, zqA18, zqB18, zqC18, zqD18, zqE18, zqF18, zqG18, zqH18, zqA20, zqB20, zqC20, zqD20, zqE20, zqF20, zqG20, zqH20, zqA60, zqB60, zqC60, zqD60, zqE60, zqF60, zqG60, zqH60, zqA63, zqB63, zqC63, zqD63, zqE63, zqF63, zqG63, zqH63, zqA80, zqB80, zqC80, zqD80, zqE80, zqF80, zqG80, zqH80, zqA100, zqB100, zqC100, zqD100, zqE100, zqF100, zqG100, zqH100, zqA120, zqB120, zqC120, zqD120, zqE120, zqF120, zqG120, zqH120, zqA630, zqB630, zqC630, zqD630, zqE630, zqF630, zqG630, zqH630, zqA1000, zqB1000, zqC1000, zqD1000, zqE1000, zqF1000, zqG1000, zqH1000, zqA1010, zqB1010, zqC1010, zqD1010, zqE1010, zqF1010, zqG1010, zqH1010, zqA5000, zqB5000, zqC5000, zqD5000, zqE5000, zqF5000, zqG5000, zqH5000, zz_p01, zz_p02, zz_p03, zz_p04, zz_p05, zz_p06, zz_p10, zz_p12, zz_p13, zz_p14, zz_p15, zz_p16, zz_p20, zz_p21, zz_p23, zz_p24, zz_p25, zz_p26, zz_p30, zz_p31, zz_p32, zz_p34, zz_p35, zz_p36, zz_p40, zz_p41, zz_p42, zz_p43, zz_p45, zz_p46, zz_p50, zz_p51, zz_p52, zz_p53, zz_p54, zz_p56, zz_p60, zz_p61, zz_p62, zz_p63, zz_p64, zz_p65, zz_q1, zz_w1, zz_q2, zz_w2, zz_q3, zz_w3, zz_q4, zz_w4, zz_q5, zz_w5, zz_q6, zz_w6, zz_w0, zz_m1, zz_lt, zz_01, zz_le, zz_eq, zz_n1, zz_in, zz_cl, zz_max, zz_min, zz_minN, zz_maxN, zz_02, zz_12, zz_c0, zz_c1, zz_b0, zz_b1, zz_bb, zz_d00, zz_d10, zz_neg, nI_add, pk_mul, zc_b0, zc_b1, cond_true, cond_false, zcI_ok, zcV_ok, okI_ret, okV_ret, zz_sub, zcond_t, zcond_f, bI_t, bI_f, eq_self, decide_true, decide_false, Bool.false_or, Bool.true_or, Bool.or_false, Bool.or_true, Bool.and_true, Bool.true_and, Bool.and_false, Bool.false_and, Bool.not_true, Bool.not_false, if_true, if_false, e1]
  have h := lpC (F := fun i => M_takesBack_3 q (nI f) (nI n) (nI i) (zfo a q f i (fun k => a 236 (o + k))) b) hs n 0 (Nat.zero_add _)
  rw [zfo_0] at h
  rw [q_M_takesBack]
  refine Eq.trans h ?_
  rw [q_M_takesBack_3, fr]
  simp (disch := omega) only [zqA0, zqB0, zqC0, zqD0, zqE0, zqF0, zqG0, zqH0, zqA1, zqB1, zqC1, zqD1, zqE1, zqF1, zqG1, zqH1, zqA2, zqB2, zqC2, zqD2, zqE2, zqF2, zqG2, zqH2, zqA3, zqB3, zqC3, zqD3, zqE3, zqF3, zqG3, zqH3, zqA4, zqB4, zqC4, zqD4, zqE4, zqF4, zqG4, zqH4, zqA5, zqB5, zqC5, zqD5, zqE5, zqF5, zqG5, zqH5, zqA6, zqB6, zqC6, zqD6, zqE6, zqF6, zqG6, zqH6, zqA8, zqB8, zqC8, zqD8, zqE8, zqF8, zqG8, zqH8, zqA9, zqB9, zqC9, zqD9, zqE9, zqF9, zqG9, zqH9, zqA10, zqB10, zqC10, zqD10, zqE10, zqF10, zqG10, zqH10, zqA11, zqB11, zqC11, zqD11, zqE11, zqF11, zqG11, zqH11, zqA16, zqB16, zqC16, zqD16, zqE16, zqF16, zqG16, zqH16, zqA18, zqB18, zqC18, zqD18, zqE18, zqF18, zqG18, zqH18, zqA20, zqB20, zqC20, zqD20, zqE20, zqF20, zqG20, zqH20, zqA60, zqB60, zqC60, zqD60, zqE60, zqF60, zqG60, zqH60, zqA63, zqB63, zqC63, zqD63, zqE63, zqF63, zqG63, zqH63, zqA80, zqB80, zqC80, zqD80, zqE80, zqF80, zqG80, zqH80, zqA100, zqB100, zqC100, zqD100, zqE100, zqF100, zqG100, zqH100, zqA120, zqB120, zqC120, zqD120, zqE120, zqF120, zqG120, zqH120, zqA630, zqB630, zqC630, zqD630, zqE630, zqF630, zqG630, zqH630, zqA1000, zqB1000, zqC1000, zqD1000, zqE1000, zqF1000, zqG1000, zqH1000, zqA1010, zqB1010, zqC1010, zqD1010, zqE1010, zqF1010, zqG1010, zqH1010, zqA5000, zqB5000, zqC5000, zqD5000, zqE5000, zqF5000, zqG5000, zqH5000, zz_p01, zz_p02, zz_p03, zz_p04, zz_p05, zz_p06, zz_p10, zz_p12, zz_p13, zz_p14, zz_p15, zz_p16, zz_p20, zz_p21, zz_p23, zz_p24, zz_p25, zz_p26, zz_p30, zz_p31, zz_p32, zz_p34, zz_p35, zz_p36, zz_p40, zz_p41, zz_p42, zz_p43, zz_p45, zz_p46, zz_p50, zz_p51, zz_p52, zz_p53, zz_p54, zz_p56, zz_p60, zz_p61, zz_p62, zz_p63, zz_p64, zz_p65, zz_q1, zz_w1, zz_q2, zz_w2, zz_q3, zz_w3, zz_q4, zz_w4, zz_q5, zz_w5, zz_q6, zz_w6, zz_w0, zz_m1, zz_lt, zz_01, zz_le, zz_eq, zz_n1, zz_in, zz_cl, zz_max, zz_min, zz_minN, zz_maxN, zz_02, zz_12, zz_c0, zz_c1, zz_b0, zz_b1, zz_bb, zz_d00, zz_d10, zz_neg, nI_add, pk_mul, zc_b0, zc_b1, cond_true, cond_false, zcI_ok, zcV_ok, okI_ret, okV_ret, zz_sub, zcond_t, zcond_f, bI_t, bI_f, eq_self, decide_true, decide_false, Bool.false_or, Bool.true_or, Bool.or_false, Bool.or_true, Bool.and_true, Bool.true_and, Bool.and_false, Bool.false_and, Bool.not_true, Bool.not_false, if_true, if_false]
set_option maxRecDepth 100000 in
theorem sh_m : zSH[206]? = some (20, 640, []) ∧ zSH[203]? = some (20, 10, []) ∧ zSH[204]? = some (20, 10, []) ∧ zSH[205]? = some (20, 10, []) ∧ zSH[196]? = some (20, 10, []) ∧ zSH[198]? = some (20, 60, []) := ⟨rfl, rfl, rfl, rfl, rfl, rfl⟩
theorem sh_i {q n : Nat} (h : zSH[q]? = some (20, n, [])) : zokI zSH q = true ∧ zokc zSH q 20 = true ∧ ∀ c : zA, zlen zSH c q = n := by
  refine ⟨?_, ?_, fun c => ?_⟩
  · unfold zokI zkd
    rw [h]
    rfl
  · unfold zokc zkd
    rw [h]
    rfl
  · unfold zlen
    rw [h]
    rfl
