/-! none. -/
theorem lpI {α β : Type} {F : α → Nat → β} {K : α → β} {st : Nat → α → α} {lo n : Nat} (I : α → Prop) (hs : ∀ x i, I x → lo ≤ i → i < n → F x i = F (st i x) (i + 1) ∧ I (st i x)) (he : ∀ x, I x → F x n = K x) : ∀ k x i, I x → lo ≤ i → i + k = n → F x i = K (fF st i k x) ∧ I (fF st i k x)
  | 0, x, i, h0, _, h => by
    have e : i = n := by omega
    subst e
    exact ⟨he x h0, h0⟩
  | k + 1, x, i, h0, g, h => by
    obtain ⟨h1, h2⟩ := hs x i h0 g (by omega)
    rw [h1]
    exact lpI I hs he k (st i x) (i + 1) h2 (by omega) (by omega)
theorem shl_tab : ∀ q : Fin 11, (1 : Int32) <<< (nI q.val &&& 31) = nI (2 ^ q.val) := by decide
theorem shl_n {q : Nat} (h : q ≤ 10) : (1 : Int32) <<< (nI q &&& 31) = nI (2 ^ q) := shl_tab ⟨q, by omega⟩
theorem pc_n0 {n : Nat} (h : n < 1024) : pcI (nI n) = 0 ↔ n = 0 := by
  rw [pc_10 h]
  constructor
  · intro z
    have hc := cnt_le (hB (nI n)) 10
    have z0 : cnt (hB (nI n)) 10 = 0 := (nI_eq (by omega) (by decide)).mp (show nI _ = nI 0 from z)
    have z1 := (cnt_0 10).mp z0
    have : nI n = nI 0 := hB_ext fun i hi => by
      rw [show hB (nI 0) i = false from hB_zero i]
      by_cases c : i < 10
      · exact z1 i c
      · rw [hB_n hi]
        exact Nat.testBit_lt_two_pow (Nat.lt_of_lt_of_le (show n < 2 ^ 10 by omega) (Nat.pow_le_pow_right (by decide) (by omega)))
    exact (nI_eq (by omega) (by decide)).mp this
  · rintro rfl
    decide
theorem pc_pos {n : Nat} (h : n < 1024) (h0 : n ≠ 0) : 0 < pcI (nI n) := by
  rw [pc_10 h]
  have hc := cnt_le (hB (nI n)) 10
  have : 0 < cnt (hB (nI n)) 10 := Nat.pos_of_ne_zero fun z => h0 ((pc_n0 h).mp (by rw [pc_10 h, z]; rfl))
  exact nI_lt (a := 0) this (by omega)
/-- those who may and can at posts of a set; whether all of them must be filled -/
def thoF (C : Nat → Int32) (Q s : Nat) : Int32 := fF (fun p x => cond (hB (nI s) p) (x ||| C p) x) 0 Q 0
def musB (m : Nat → Bool) (Q s : Nat) : Bool := !aF (fun p => hB (nI s) p && !m p) 0 Q
def barB (C : Nat → Int32) (m : Nat → Bool) (Q s : Nat) : Bool := musB m Q s && decide (pcI (thoF C Q s) < pcI (nI s))
def bstS (C : Nat → Int32) (m : Nat → Bool) (Q : Nat) (s bst : Nat) : Nat := cond (barB C m Q s && (decide (bst = 0) || decide (pcI (nI s) < pcI (nI bst)))) s bst
theorem x_tho {Q s : Nat} {C : Nat → Int32} {a : zA} {b : zB} (hQ : Q ≤ 10) (hq : a 2 1 = nI Q) (hC : ∀ p, p < Q → a 172 p = C p) : X_candidatesOf (nI s) a b = okI (thoF C Q s) a b := by
  have hs : ∀ x p, 0 ≤ p → p < Q → X_candidatesOf_4 (nI s) x (nI p) a b = X_candidatesOf_4 (nI s) (cond (hB (nI s) p) (x ||| C p) x) (nI (p + 1)) a b := by
    intro x p _ hp
    have e1 := hB_test (show p < 32 by omega) (nI s)
    rw [q_X_candidatesOf_4, hq, e1]
    cases hB (nI s) p
    · simp (disch := omega) only [zqA0, zqB0, zqC0, zqD0, zqE0, zqF0, zqG0, zqH0, zqA1, zqB1, zqC1, zqD1, zqE1, zqF1, zqG1, zqH1, zqA2, zqB2, zqC2, zqD2, zqE2, zqF2, zqG2, zqH2, zqA3, zqB3, zqC3, zqD3, zqE3, zqF3, zqG3, zqH3, zqA4, zqB4, zqC4, zqD4, zqE4, zqF4, zqG4, zqH4, zqA5, zqB5, zqC5, zqD5, zqE5, zqF5, zqG5, zqH5, zqA6, zqB6, zqC6, zqD6, zqE6, zqF6, zqG6, zqH6, zqA8, zqB8, zqC8, zqD8, zqE8, zqF8, zqG8, zqH8, zqA9, zqB9, zqC9, zqD9, zqE9, zqF9, zqG9, zqH9, zqA10, zqB10, zqC10, zqD10, zqE10, zqF10, zqG10, zqH10, zqA11, zqB11, zqC11, zqD11, zqE11, zqF11, zqG11, zqH11, zqA16, zqB16, zqC16, zqD16, zqE16, zqF16, zqG16, zqH16, zqA18, zqB18, zqC18, zqD18, zqE18, zqF18, zqG18, zqH18, zqA20, zqB20, zqC20, zqD20, zqE20, zqF20, zqG20, zqH20, zqA60, zqB60, zqC60, zqD60, zqE60, zqF60, zqG60, zqH60, zqA63, zqB63, zqC63, zqD63, zqE63, zqF63, zqG63, zqH63, zqA80, zqB80, zqC80, zqD80, zqE80, zqF80, zqG80, zqH80, zqA100, zqB100, zqC100, zqD100, zqE100, zqF100, zqG100, zqH100, zqA120, zqB120, zqC120, zqD120, zqE120, zqF120, zqG120, zqH120, zqA630, zqB630, zqC630, zqD630, zqE630, zqF630, zqG630, zqH630, zqA1000, zqB1000, zqC1000, zqD1000, zqE1000, zqF1000, zqG1000, zqH1000, zqA1010, zqB1010, zqC1010, zqD1010, zqE1010, zqF1010, zqG1010, zqH1010, zqA5000, zqB5000, zqC5000, zqD5000, zqE5000, zqF5000, zqG5000, zqH5000, zz_p01, zz_p02, zz_p03, zz_p04, zz_p05, zz_p06, zz_p10, zz_p12, zz_p13, zz_p14, zz_p15, zz_p16, zz_p20, zz_p21, zz_p23, zz_p24, zz_p25, zz_p26, zz_p30, zz_p31, zz_p32, zz_p34, zz_p35, zz_p36, zz_p40, zz_p41, zz_p42, zz_p43, zz_p45, zz_p46, zz_p50, zz_p51, zz_p52, zz_p53, zz_p54, zz_p56, zz_p60, zz_p61, zz_p62, zz_p63, zz_p64, zz_p65, zz_q1, zz_w1, zz_q2, zz_w2, zz_q3, zz_w3, zz_q4, zz_w4, zz_q5, zz_w5, zz_q6, zz_w6, zz_w0, zz_m1, zz_lt, zz_01, zz_le, zz_eq, zz_n1, zz_in, zz_cl, zz_max, zz_min, zz_minN, zz_maxN, zz_02, zz_12, zz_c0, zz_c1, zz_b0, zz_b1, zz_bb, zz_d00, zz_d10, zz_neg, nI_add, pk_mul, zc_b0, zc_b1, cond_true, cond_false, zcI_ok, zcV_ok, okI_ret, okV_ret, zz_sub, zcond_t, zcond_f, bI_t, bI_f, eq_self, decide_true, decide_false, Bool.false_or, Bool.true_or, Bool.or_false, Bool.or_true, Bool.and_true, Bool.true_and, Bool.and_false, Bool.false_and, Bool.not_true, Bool.not_false, if_true, if_false, q_X_candidatesOf_32]
    · simp (disch := omega) only [zqA0, zqB0, zqC0, zqD0, zqE0, zqF0, zqG0, zqH0, zqA1, zqB1, zqC1, zqD1, zqE1, zqF1, zqG1, zqH1, zqA2, zqB2, zqC2, zqD2, zqE2, zqF2, zqG2, zqH2, zqA3, zqB3, zqC3, zqD3, zqE3, zqF3, zqG3, zqH3, zqA4, zqB4, zqC4, zqD4, zqE4, zqF4, zqG4, zqH4, zqA5, zqB5, zqC5, zqD5, zqE5, zqF5, zqG5, zqH5, zqA6, zqB6, zqC6, zqD6, zqE6, zqF6, zqG6, zqH6, zqA8, zqB8, zqC8, zqD8, zqE8, zqF8, zqG8, zqH8, zqA9, zqB9, zqC9, zqD9, zqE9, zqF9, zqG9, zqH9, zqA10, zqB10, zqC10, zqD10, zqE10, zqF10, zqG10, zqH10, zqA11, zqB11, zqC11, zqD11, zqE11, zqF11, zqG11, zqH11, zqA16, zqB16, zqC16, zqD16, zqE16, zqF16, zqG16, zqH16, zqA18, zqB18, zqC18, zqD18, zqE18, zqF18, zqG18, zqH18, zqA20, zqB20, zqC20, zqD20, zqE20, zqF20, zqG20, zqH20, zqA60, zqB60, zqC60, zqD60, zqE60, zqF60, zqG60, zqH60, zqA63, zqB63, zqC63, zqD63, zqE63, zqF63, zqG63, zqH63, zqA80, zqB80, zqC80, zqD80, zqE80, zqF80, zqG80, zqH80, zqA100, zqB100, zqC100, zqD100, zqE100, zqF100, zqG100, zqH100, zqA120, zqB120, zqC120, zqD120, zqE120, zqF120, zqG120, zqH120, zqA630, zqB630, zqC630, zqD630, zqE630, zqF630, zqG630, zqH630, zqA1000, zqB1000, zqC1000, zqD1000, zqE1000, zqF1000, zqG1000, zqH1000, zqA1010, zqB1010, zqC1010, zqD1010, zqE1010, zqF1010, zqG1010, zqH1010, zqA5000, zqB5000, zqC5000, zqD5000, zqE5000, zqF5000, zqG5000, zqH5000, zz_p01, zz_p02, zz_p03, zz_p04, zz_p05, zz_p06, zz_p10, zz_p12, zz_p13, zz_p14, zz_p15, zz_p16, zz_p20, zz_p21, zz_p23, zz_p24, zz_p25, zz_p26, zz_p30, zz_p31, zz_p32, zz_p34, zz_p35, zz_p36, zz_p40, zz_p41, zz_p42, zz_p43, zz_p45, zz_p46, zz_p50, zz_p51, zz_p52, zz_p53, zz_p54, zz_p56, zz_p60, zz_p61, zz_p62, zz_p63, zz_p64, zz_p65, zz_q1, zz_w1, zz_q2, zz_w2, zz_q3, zz_w3, zz_q4, zz_w4, zz_q5, zz_w5, zz_q6, zz_w6, zz_w0, zz_m1, zz_lt, zz_01, zz_le, zz_eq, zz_n1, zz_in, zz_cl, zz_max, zz_min, zz_minN, zz_maxN, zz_02, zz_12, zz_c0, zz_c1, zz_b0, zz_b1, zz_bb, zz_d00, zz_d10, zz_neg, nI_add, pk_mul, zc_b0, zc_b1, cond_true, cond_false, zcI_ok, zcV_ok, okI_ret, okV_ret, zz_sub, zcond_t, zcond_f, bI_t, bI_f, eq_self, decide_true, decide_false, Bool.false_or, Bool.true_or, Bool.or_false, Bool.or_true, Bool.and_true, Bool.true_and, Bool.and_false, Bool.false_and, Bool.not_true, Bool.not_false, if_true, if_false, hC p hp, q_X_candidatesOf_32]
  have he : ∀ x, X_candidatesOf_4 (nI s) x (nI Q) a b = okI x a b := by
    intro x
    rw [q_X_candidatesOf_4, hq]
    simp (disch := omega) only [zqA0, zqB0, zqC0, zqD0, zqE0, zqF0, zqG0, zqH0, zqA1, zqB1, zqC1, zqD1, zqE1, zqF1, zqG1, zqH1, zqA2, zqB2, zqC2, zqD2, zqE2, zqF2, zqG2, zqH2, zqA3, zqB3, zqC3, zqD3, zqE3, zqF3, zqG3, zqH3, zqA4, zqB4, zqC4, zqD4, zqE4, zqF4, zqG4, zqH4, zqA5, zqB5, zqC5, zqD5, zqE5, zqF5, zqG5, zqH5, zqA6, zqB6, zqC6, zqD6, zqE6, zqF6, zqG6, zqH6, zqA8, zqB8, zqC8, zqD8, zqE8, zqF8, zqG8, zqH8, zqA9, zqB9, zqC9, zqD9, zqE9, zqF9, zqG9, zqH9, zqA10, zqB10, zqC10, zqD10, zqE10, zqF10, zqG10, zqH10, zqA11, zqB11, zqC11, zqD11, zqE11, zqF11, zqG11, zqH11, zqA16, zqB16, zqC16, zqD16, zqE16, zqF16, zqG16, zqH16, zqA18, zqB18, zqC18, zqD18, zqE18, zqF18, zqG18, zqH18, zqA20, zqB20, zqC20, zqD20, zqE20, zqF20, zqG20, zqH20, zqA60, zqB60, zqC60, zqD60, zqE60, zqF60, zqG60, zqH60, zqA63, zqB63, zqC63, zqD63, zqE63, zqF63, zqG63, zqH63, zqA80, zqB80, zqC80, zqD80, zqE80, zqF80, zqG80, zqH80, zqA100, zqB100, zqC100, zqD100, zqE100, zqF100, zqG100, zqH100, zqA120, zqB120, zqC120, zqD120, zqE120, zqF120, zqG120, zqH120, zqA630, zqB630, zqC630, zqD630, zqE630, zqF630, zqG630, zqH630, zqA1000, zqB1000, zqC1000, zqD1000, zqE1000, zqF1000, zqG1000, zqH1000, zqA1010, zqB1010, zqC1010, zqD1010, zqE1010, zqF1010, zqG1010, zqH1010, zqA5000, zqB5000, zqC5000, zqD5000, zqE5000, zqF5000, zqG5000, zqH5000, zz_p01, zz_p02, zz_p03, zz_p04, zz_p05, zz_p06, zz_p10, zz_p12, zz_p13, zz_p14, zz_p15, zz_p16, zz_p20, zz_p21, zz_p23, zz_p24, zz_p25, zz_p26, zz_p30, zz_p31, zz_p32, zz_p34, zz_p35, zz_p36, zz_p40, zz_p41, zz_p42, zz_p43, zz_p45, zz_p46, zz_p50, zz_p51, zz_p52, zz_p53, zz_p54, zz_p56, zz_p60, zz_p61, zz_p62, zz_p63, zz_p64, zz_p65, zz_q1, zz_w1, zz_q2, zz_w2, zz_q3, zz_w3, zz_q4, zz_w4, zz_q5, zz_w5, zz_q6, zz_w6, zz_w0, zz_m1, zz_lt, zz_01, zz_le, zz_eq, zz_n1, zz_in, zz_cl, zz_max, zz_min, zz_minN, zz_maxN, zz_02, zz_12, zz_c0, zz_c1, zz_b0, zz_b1, zz_bb, zz_d00, zz_d10, zz_neg, nI_add, pk_mul, zc_b0, zc_b1, cond_true, cond_false, zcI_ok, zcV_ok, okI_ret, okV_ret, zz_sub, zcond_t, zcond_f, bI_t, bI_f, eq_self, decide_true, decide_false, Bool.false_or, Bool.true_or, Bool.or_false, Bool.or_true, Bool.and_true, Bool.true_and, Bool.and_false, Bool.false_and, Bool.not_true, Bool.not_false, if_true, if_false]
  rw [q_X_candidatesOf]
  exact lpF hs he Q 0 0 (Nat.le_refl _) (Nat.zero_add _)
theorem musB_x {Q s : Nat} {m : Nat → Bool} (hQ : Q ≤ 10) (hs : s < 2 ^ Q) : decide ((nI s &&& (bitsN m Q ^^^ (-1))) = 0) = musB m Q s := by
  have hx : bitsN m Q ^^^ (-1) = ~~~ (bitsN m Q) := by
    apply Int32.toBitVec_inj.mp
    show (bitsN m Q).toBitVec ^^^ (-1#32) = ~~~ (bitsN m Q).toBitVec
    rw [show (-1#32) = BitVec.allOnes 32 from by decide, BitVec.xor_allOnes]
  rw [hx, Bool.eq_iff_iff, decide_eq_true_iff]
  unfold musB
  rw [Bool.not_eq_true', ← Bool.not_eq_true, aF_i]
  constructor
  · rintro h ⟨p, _, h2, h3⟩
    rw [Bool.and_eq_true, Bool.not_eq_true'] at h3
    have := congrArg (fun x => hB x p) h
    simp only [hB_and] at this
    rw [hB_not _ (by omega), hB_bitsN (by omega) (by omega), h3.1, h3.2, Bool.and_false, hB_zero] at this
    exact absurd this (by decide)
  · intro h
    refine hB_ext fun i hi => ?_
    rw [hB_and, hB_not _ hi, hB_bitsN (by omega) hi, hB_zero]
    by_cases c : i < Q
    · rw [decide_eq_true c, Bool.true_and]
      cases e1 : hB (nI s) i
      · rfl
      · cases e2 : m i
        · exact absurd ⟨i, Nat.zero_le _, by omega, by rw [e1, e2]; rfl⟩ h
        · rfl
    · rw [hB_n hi, Nat.testBit_lt_two_pow (Nat.lt_of_lt_of_le hs (Nat.pow_le_pow_right (by decide) (by omega)))]
      rfl
theorem yMay_s {I F : Int32} {a a' : zA} (h : sameX a' a) : yMay I F a' = yMay I F a := by
  unfold yMay yWhyG
  rw [yAble_s h, yWhy_s h, h 11 (by decide) (by decide)]
theorem r_none {L : Nat} {xs : Nat → Int32} : zAns (Rel L xs) X_none M_none := by
  intro a b hr
  obtain ⟨P, Q, T, G, N, hall⟩ := id hr
  obtain ⟨W, S, hv⟩ := vw_mask hall
  have h0 := v0_of hall
  obtain ⟨⟨g1, g2, g3, g4, g5⟩, ⟨⟨p1, p2⟩, ⟨q1, q2⟩, ⟨t1, t2⟩, -⟩, -, -, ⟨-, -, u3, -⟩, -⟩ := id hv
  obtain ⟨C, hC⟩ : ∃ C : Nat → Int32, C = fun p => bitsN (fun w => yMay (-1) 0 a T W Q w p) P := ⟨_, rfl⟩
  obtain ⟨m, hm⟩ : ∃ m : Nat → Bool, m = fun p => !decide (a 5 p = 0) := ⟨_, rfl⟩
  have p2Q : 2 ^ Q ≤ 1024 := Nat.pow_le_pow_right (by decide) g2
  have p2Q1 : 1 ≤ 2 ^ Q := Nat.one_le_two_pow
  obtain ⟨A, hA⟩ : ∃ A, A = zfn a 172 Q C := ⟨_, rfl⟩
  have sA : sameX A a := fun q h1 h2 => by rw [hA, zfn_q (by omega)]
  have qA : A 2 1 = nI Q := by rw [hA]; exact (congrFun (zfn_q (by decide)) 1).trans q1
  have cA : ∀ p, p < Q → A 172 p = C p := fun p hp => by rw [hA]; exact zfn_j hp
  obtain ⟨B, hB0⟩ : ∃ B, B = fF (bstS C m Q) 1 (2 ^ Q - 1) 0 := ⟨_, rfl⟩
  -- the class
  have hX1 : X_none a b = X_none_64 (bitsN m Q) 0 0 1 A b := by
    have hs : ∀ i, i < Q → X_none_4 (fF (fun p y => y ||| cond (m p) (1 <<< (nI p &&& 31)) 0) 0 i 0) (nI i) (zfn a 172 i C) b = X_none_4 (fF (fun p y => y ||| cond (m p) (1 <<< (nI p &&& 31)) 0) 0 (i + 1) 0) (nI (i + 1)) (zfn a 172 (i + 1) C) b := by
      intro i hi
      have s1 : sameX (zfn a 172 i C) a := fun q h1 h2 => zfn_q (by omega)
      have e1 := x_cand (b := b) (vw_s hv s1) hi
      have e2 : bitsN (fun w => yMay (-1) 0 (zfn a 172 i C) T W Q w i) P = C i := by
        rw [yMay_s s1, hC]
      have e3 : zup (zfn a 172 i C) 172 i (C i) 5 i = a 5 i := (zup_ne (by decide)).trans (congrFun (zfn_q (by decide)) i)
      have e4 : m i = !decide (a 5 i = 0) := by rw [hm]
      rw [q_X_none_4, show zfn a 172 i C 2 1 = nI Q from (congrFun (zfn_q (by decide)) 1).trans q1, e1, e2, fF_sn, Nat.zero_add, e4]
      by_cases c : a 5 i = 0
      · simp (disch := omega) only [zqA0, zqB0, zqC0, zqD0, zqE0, zqF0, zqG0, zqH0, zqA1, zqB1, zqC1, zqD1, zqE1, zqF1, zqG1, zqH1, zqA2, zqB2, zqC2, zqD2, zqE2, zqF2, zqG2, zqH2, zqA3, zqB3, zqC3, zqD3, zqE3, zqF3, zqG3, zqH3, zqA4, zqB4, zqC4, zqD4, zqE4, zqF4, zqG4, zqH4, zqA5, zqB5, zqC5, zqD5, zqE5, zqF5, zqG5, zqH5, zqA6, zqB6, zqC6, zqD6, zqE6, zqF6, zqG6, zqH6, zqA8, zqB8, zqC8, zqD8, zqE8, zqF8, zqG8, zqH8, zqA9, zqB9, zqC9, zqD9, zqE9, zqF9, zqG9, zqH9, zqA10, zqB10, zqC10, zqD10, zqE10, zqF10, zqG10, zqH10, zqA11, zqB11, zqC11, zqD11, zqE11, zqF11, zqG11, zqH11, zqA16, zqB16, zqC16, zqD16, zqE16, zqF16, zqG16, zqH16, zqA18, zqB18, zqC18, zqD18, zqE18, zqF18, zqG18, zqH18, zqA20, zqB20, zqC20, zqD20, zqE20, zqF20, zqG20, zqH20, zqA60, zqB60, zqC60, zqD60, zqE60, zqF60, zqG60, zqH60, zqA63, zqB63, zqC63, zqD63, zqE63, zqF63, zqG63, zqH63, zqA80, zqB80, zqC80, zqD80, zqE80, zqF80, zqG80, zqH80, zqA100, zqB100, zqC100, zqD100, zqE100, zqF100, zqG100, zqH100, zqA120, zqB120, zqC120, zqD120, zqE120, zqF120, zqG120, zqH120, zqA630, zqB630, zqC630, zqD630, zqE630, zqF630, zqG630, zqH630, zqA1000, zqB1000, zqC1000, zqD1000, zqE1000, zqF1000, zqG1000, zqH1000, zqA1010, zqB1010, zqC1010, zqD1010, zqE1010, zqF1010, zqG1010, zqH1010, zqA5000, zqB5000, zqC5000, zqD5000, zqE5000, zqF5000, zqG5000, zqH5000, zz_p01, zz_p02, zz_p03, zz_p04, zz_p05, zz_p06, zz_p10, zz_p12, zz_p13, zz_p14, zz_p15, zz_p16, zz_p20, zz_p21, zz_p23, zz_p24, zz_p25, zz_p26, zz_p30, zz_p31, zz_p32, zz_p34, zz_p35, zz_p36, zz_p40, zz_p41, zz_p42, zz_p43, zz_p45, zz_p46, zz_p50, zz_p51, zz_p52, zz_p53, zz_p54, zz_p56, zz_p60, zz_p61, zz_p62, zz_p63, zz_p64, zz_p65, zz_q1, zz_w1, zz_q2, zz_w2, zz_q3, zz_w3, zz_q4, zz_w4, zz_q5, zz_w5, zz_q6, zz_w6, zz_w0, zz_m1, zz_lt, zz_01, zz_le, zz_eq, zz_n1, zz_in, zz_cl, zz_max, zz_min, zz_minN, zz_maxN, zz_02, zz_12, zz_c0, zz_c1, zz_b0, zz_b1, zz_bb, zz_d00, zz_d10, zz_neg, nI_add, pk_mul, zc_b0, zc_b1, cond_true, cond_false, zcI_ok, zcV_ok, okI_ret, okV_ret, zz_sub, zcond_t, zcond_f, bI_t, bI_f, eq_self, decide_true, decide_false, Bool.false_or, Bool.true_or, Bool.or_false, Bool.or_true, Bool.and_true, Bool.true_and, Bool.and_false, Bool.false_and, Bool.not_true, Bool.not_false, if_true, if_false, e3, c, q_X_none_49, zfn_s]
      · simp (disch := omega) only [zqA0, zqB0, zqC0, zqD0, zqE0, zqF0, zqG0, zqH0, zqA1, zqB1, zqC1, zqD1, zqE1, zqF1, zqG1, zqH1, zqA2, zqB2, zqC2, zqD2, zqE2, zqF2, zqG2, zqH2, zqA3, zqB3, zqC3, zqD3, zqE3, zqF3, zqG3, zqH3, zqA4, zqB4, zqC4, zqD4, zqE4, zqF4, zqG4, zqH4, zqA5, zqB5, zqC5, zqD5, zqE5, zqF5, zqG5, zqH5, zqA6, zqB6, zqC6, zqD6, zqE6, zqF6, zqG6, zqH6, zqA8, zqB8, zqC8, zqD8, zqE8, zqF8, zqG8, zqH8, zqA9, zqB9, zqC9, zqD9, zqE9, zqF9, zqG9, zqH9, zqA10, zqB10, zqC10, zqD10, zqE10, zqF10, zqG10, zqH10, zqA11, zqB11, zqC11, zqD11, zqE11, zqF11, zqG11, zqH11, zqA16, zqB16, zqC16, zqD16, zqE16, zqF16, zqG16, zqH16, zqA18, zqB18, zqC18, zqD18, zqE18, zqF18, zqG18, zqH18, zqA20, zqB20, zqC20, zqD20, zqE20, zqF20, zqG20, zqH20, zqA60, zqB60, zqC60, zqD60, zqE60, zqF60, zqG60, zqH60, zqA63, zqB63, zqC63, zqD63, zqE63, zqF63, zqG63, zqH63, zqA80, zqB80, zqC80, zqD80, zqE80, zqF80, zqG80, zqH80, zqA100, zqB100, zqC100, zqD100, zqE100, zqF100, zqG100, zqH100, zqA120, zqB120, zqC120, zqD120, zqE120, zqF120, zqG120, zqH120, zqA630, zqB630, zqC630, zqD630, zqE630, zqF630, zqG630, zqH630, zqA1000, zqB1000, zqC1000, zqD1000, zqE1000, zqF1000, zqG1000, zqH1000, zqA1010, zqB1010, zqC1010, zqD1010, zqE1010, zqF1010, zqG1010, zqH1010, zqA5000, zqB5000, zqC5000, zqD5000, zqE5000, zqF5000, zqG5000, zqH5000, zz_p01, zz_p02, zz_p03, zz_p04, zz_p05, zz_p06, zz_p10, zz_p12, zz_p13, zz_p14, zz_p15, zz_p16, zz_p20, zz_p21, zz_p23, zz_p24, zz_p25, zz_p26, zz_p30, zz_p31, zz_p32, zz_p34, zz_p35, zz_p36, zz_p40, zz_p41, zz_p42, zz_p43, zz_p45, zz_p46, zz_p50, zz_p51, zz_p52, zz_p53, zz_p54, zz_p56, zz_p60, zz_p61, zz_p62, zz_p63, zz_p64, zz_p65, zz_q1, zz_w1, zz_q2, zz_w2, zz_q3, zz_w3, zz_q4, zz_w4, zz_q5, zz_w5, zz_q6, zz_w6, zz_w0, zz_m1, zz_lt, zz_01, zz_le, zz_eq, zz_n1, zz_in, zz_cl, zz_max, zz_min, zz_minN, zz_maxN, zz_02, zz_12, zz_c0, zz_c1, zz_b0, zz_b1, zz_bb, zz_d00, zz_d10, zz_neg, nI_add, pk_mul, zc_b0, zc_b1, cond_true, cond_false, zcI_ok, zcV_ok, okI_ret, okV_ret, zz_sub, zcond_t, zcond_f, bI_t, bI_f, eq_self, decide_true, decide_false, Bool.false_or, Bool.true_or, Bool.or_false, Bool.or_true, Bool.and_true, Bool.true_and, Bool.and_false, Bool.false_and, Bool.not_true, Bool.not_false, if_true, if_false, e3, c, q_X_none_49, zfn_s]
    have h := lpC (F := fun i => X_none_4 (fF (fun p y => y ||| cond (m p) (1 <<< (nI p &&& 31)) 0) 0 i 0) (nI i) (zfn a 172 i C) b) hs Q 0 (Nat.zero_add _)
    rw [zfn_0, ← hA] at h
    rw [q_X_none]
    refine Eq.trans h ?_
    rw [q_X_none_4, qA, zcond_f (nI_nlt (Nat.le_refl _) (by omega))]
    rfl
  have hX2 : X_none_64 (bitsN m Q) 0 0 1 A b = zcV (X_clearRow A b) (fun a1 b1 => cond (decide (0 < pcI (nI B))) (zcV (X_tell (nI B) a1 b1) (fun a2 b2 => zcI (X_candidatesOf (nI B) a2 b2) (fun y3 a3 b3 => zcV (X_tell y3 a3 b3) (fun a4 b4 => X_none_164 (pcI (nI B)) a4 b4)))) (X_none_164 (pcI (nI B)) a1 b1)) ∧ B < 1024 := by
    have hs : ∀ x s, x < 1024 → 1 ≤ s → s < 2 ^ Q → X_none_64 (bitsN m Q) (pcI (nI x)) (nI x) (nI s) A b = X_none_64 (bitsN m Q) (pcI (nI (bstS C m Q s x))) (nI (bstS C m Q s x)) (nI (s + 1)) A b ∧ bstS C m Q s x < 1024 := by
      intro x s hx h1 h2
      refine ⟨?_, ?_⟩
      · have e100 : ∀ f : Bool, X_none_100 (bitsN m Q) (pcI (nI x)) (nI x) (nI s) (pcI (nI s)) (bI f) A b = cond (f && barB C m Q s) (X_none_136 (bitsN m Q) (pcI (nI s)) (nI s) (nI s) A b) (X_none_136 (bitsN m Q) (pcI (nI x)) (nI x) (nI s) A b) := by
          intro f
          rw [q_X_none_100, zc_b0, musB_x g2 h2, x_tho g2 qA cA, zcI_ok, x_pc, zcI_ok]
          unfold barB
          cases f <;> cases musB m Q s <;> rfl
        have l1 : nI s < 1 <<< (nI Q &&& 31) := by rw [shl_n g2]; exact nI_lt h2 (by omega)
        rw [q_X_none_64, qA, zcond_t l1, x_pc, zcI_ok, q_X_none_95]
        unfold bstS
        by_cases c1 : x = 0
        · rw [zcond_t ((pc_n0 hx).mpr c1), decide_eq_true c1, Bool.true_or, Bool.and_true]
          refine Eq.trans (e100 true) ?_
          rw [Bool.true_and]
          cases barB C m Q s
          · rw [cond_false, cond_false, q_X_none_136, nI_1]
          · rw [cond_true, cond_true, q_X_none_136, nI_1]
        · rw [zcond_f (fun z => c1 ((pc_n0 hx).mp z)), decide_eq_false c1, Bool.false_or]
          have e0 := e100 false
          have e1 := e100 true
          rw [Bool.false_and, cond_false] at e0
          rw [Bool.true_and] at e1
          by_cases c2 : pcI (nI s) < pcI (nI x)
          · rw [zcond_t c2, decide_eq_true c2, Bool.and_true]
            refine Eq.trans e1 ?_
            cases barB C m Q s
            · rw [cond_false, cond_false, q_X_none_136, nI_1]
            · rw [cond_true, cond_true, q_X_none_136, nI_1]
          · rw [zcond_f c2, decide_eq_false c2, Bool.and_false, cond_false]
            refine Eq.trans e0 ?_
            rw [q_X_none_136, nI_1]
      · unfold bstS
        cases (barB C m Q s && (decide (x = 0) || decide (pcI (nI s) < pcI (nI x))))
        · exact hx
        · exact Nat.lt_of_lt_of_le h2 p2Q
    have := lpI (F := fun x s => X_none_64 (bitsN m Q) (pcI (nI x)) (nI x) (nI s) A b) (K := fun x => zcV (X_clearRow A b) (fun a1 b1 => cond (decide (0 < pcI (nI x))) (zcV (X_tell (nI x) a1 b1) (fun a2 b2 => zcI (X_candidatesOf (nI x) a2 b2) (fun y3 a3 b3 => zcV (X_tell y3 a3 b3) (fun a4 b4 => X_none_164 (pcI (nI x)) a4 b4)))) (X_none_164 (pcI (nI x)) a1 b1))) (st := bstS C m Q) (lo := 1) (n := 2 ^ Q) (fun x => x < 1024) hs (fun x hx => by
      show X_none_64 (bitsN m Q) (pcI (nI x)) (nI x) (nI (2 ^ Q)) A b = _
      rw [q_X_none_64, qA, shl_n g2, zcond_f (nI_nlt (Nat.le_refl _) (by omega))]) (2 ^ Q - 1) 0 1 (by decide) (Nat.le_refl _) (by omega)
    rw [← hB0] at this
    exact this
  obtain ⟨hX2, hB1⟩ := hX2
  -- the reference
  have hM1 : ∀ c, vw P Q T W S a c → v0 c → zcV (M_asksToday c b) (fun a1 b1 => M_none_15 0 0 1 a1 b1) = M_none_15 (nI B) (cond (decide (B = 0)) 0 (thoF C Q B)) (nI (2 ^ Q)) (askM c P Q T W S a) b := by
    intro c hc hc0
    rw [m_asks hc, zcV_ok]
    obtain ⟨D, hD⟩ : ∃ D, D = askM c P Q T W S a := ⟨_, rfl⟩
    have qD : D 194 7 = nI Q := by rw [hD, askM_q (by decide)]; exact hc.2.1.2.1.2
    have cD : ∀ p, p < Q → D 218 p = C p := fun p hp => by rw [hD, askM_may hp, hc0.1, hc0.2, hC]
    have mD : ∀ p, p < Q → decide (D 200 p = 0) = !m p := fun p hp => by
      rw [hD, askM_q (by decide), ← (hc.2.2.2.2.1.2.2.1 p hp).1, hm]
      exact (Bool.not_not _).symm
    rw [← hD]
    have inner : ∀ (v1 v2 : Int32) s, s < 2 ^ Q → M_none_34 v1 v2 (nI s) 0 1 0 D b = cond (barB C m Q s) (M_none_114 v1 v2 (nI s) (thoF C Q s) 1 D b) (M_none_113 v1 v2 (nI s) (thoF C Q s) D b) := by
      intro v1 v2 s hs2
      have hs : ∀ (x : Int32 × Bool) p, 0 ≤ p → p < Q → M_none_34 v1 v2 (nI s) x.1 (bI x.2) (nI p) D b = M_none_34 v1 v2 (nI s) (cond (hB (nI s) p) (x.1 ||| C p) x.1) (bI (x.2 && !(hB (nI s) p && !m p))) (nI (p + 1)) D b := by
        rintro ⟨x, f⟩ p _ hp
        rw [q_M_none_34, qD, zcond_t (nI_lt hp (by omega)), m_has _ (show p < 32 by omega), zcI_ok, zc_b0]
        cases e1 : hB (nI s) p
        · rw [cond_false, cond_false, q_M_none_86, nI_1, Bool.false_and, Bool.not_false, Bool.and_true]
        · have zp : zin (nI p) 10 = true := zin_nI (by omega) (by decide)
          have kp : (nI p).toNatClampNeg = p := nI_clamp (by omega)
          have e72 : ∀ f : Bool, M_none_72 v1 v2 (nI s) x (nI p) (bI f) D b = M_none_34 v1 v2 (nI s) (x ||| C p) (bI f) (nI (p + 1)) D b := fun f => by
            rw [q_M_none_72, zp, cond_true, kp, cD p hp, q_M_none_86, nI_1]
          rw [cond_true, cond_true, zc_b0, zp, cond_true, kp, mD p hp, q_M_none_71, Bool.true_and, Bool.not_not]
          have t0 := e72 false
          have t1 := e72 true
          cases f
          · exact t0
          · cases m p
            · exact t0
            · exact t1
      have he : ∀ x : Int32 × Bool, M_none_34 v1 v2 (nI s) x.1 (bI x.2) (nI Q) D b = cond (x.2 && decide (pcI x.1 < pcI (nI s))) (M_none_114 v1 v2 (nI s) x.1 1 D b) (M_none_113 v1 v2 (nI s) x.1 D b) := by
        rintro ⟨x, f⟩
        rw [q_M_none_34, qD, zcond_f (nI_nlt (Nat.le_refl _) (by omega)), zc_b0, x_pc, zcI_ok, x_pc, zcI_ok]
        cases f <;> rfl
      have h := lpF (F := fun (x : Int32 × Bool) p => M_none_34 v1 v2 (nI s) x.1 (bI x.2) (nI p) D b) (st := fun p (x : Int32 × Bool) => (cond (hB (nI s) p) (x.1 ||| C p) x.1, x.2 && !(hB (nI s) p && !m p))) hs he Q (0, true) 0 (Nat.le_refl _) (Nat.zero_add _)
      have sp : ∀ k j (x : Int32 × Bool), fF (fun p (x : Int32 × Bool) => (cond (hB (nI s) p) (x.1 ||| C p) x.1, x.2 && !(hB (nI s) p && !m p))) j k x = (fF (fun p x => cond (hB (nI s) p) (x ||| C p) x) j k x.1, x.2 && !aF (fun p => hB (nI s) p && !m p) j k) := by
        intro k
        induction k with
        | zero =>
          intro j x
          show x = (x.1, x.2 && !false)
          rw [Bool.not_false, Bool.and_true]
        | succ k ih =>
          intro j x
          show fF _ (j + 1) k _ = _
          rw [ih (j + 1)]
          refine Prod.ext rfl ?_
          show ((x.2 && !(hB (nI s) j && !m j)) && !aF (fun p => hB (nI s) p && !m p) (j + 1) k) = (x.2 && !((hB (nI s) j && !m j) || aF (fun p => hB (nI s) p && !m p) (j + 1) k))
          rw [Bool.not_or, Bool.and_assoc]
      rw [sp Q 0 (0, true)] at h
      exact h
    have hs : ∀ x s, x < 1024 → 1 ≤ s → s < 2 ^ Q → M_none_15 (nI x) (cond (decide (x = 0)) 0 (thoF C Q x)) (nI s) D b = M_none_15 (nI (bstS C m Q s x)) (cond (decide (bstS C m Q s x = 0)) 0 (thoF C Q (bstS C m Q s x))) (nI (s + 1)) D b ∧ bstS C m Q s x < 1024 := by
      intro x s hx h1 h2
      refine ⟨?_, ?_⟩
      · have l1 : nI s < 1 <<< (nI Q &&& 31) := by rw [shl_n g2]; exact nI_lt h2 (by omega)
        have keep : M_none_141 (nI x) (cond (decide (x = 0)) 0 (thoF C Q x)) (nI s) D b = M_none_15 (nI x) (cond (decide (x = 0)) 0 (thoF C Q x)) (nI (s + 1)) D b := by rw [q_M_none_141, nI_1]
        have take : M_none_136 (nI s) (thoF C Q s) D b = M_none_15 (nI s) (cond (decide (s = 0)) 0 (thoF C Q s)) (nI (s + 1)) D b := by
          rw [q_M_none_136, q_M_none_141, nI_1, decide_eq_false (show ¬ s = 0 by omega)]
          rfl
        rw [q_M_none_15, qD, zcond_t l1, inner _ _ s h2]
        unfold bstS
        cases barB C m Q s
        · rw [cond_false, q_M_none_113, q_M_none_114, zcond_t rfl, keep, Bool.false_and]
          rfl
        · rw [cond_true, q_M_none_114, zcond_f (by decide), Bool.true_and, take, x_pc, zcI_ok, x_pc, zcI_ok, keep]
          by_cases c1 : x = 0
          · rw [zcond_t (show nI x = 0 by rw [c1]; rfl), decide_eq_true c1, Bool.true_or]
            rfl
          · rw [zcond_f (show ¬ nI x = 0 from fun z => c1 ((nI_eq (by omega) (by decide)).mp (show nI x = nI 0 from z))), show (decide (x = 0) || decide (pcI (nI s) < pcI (nI x))) = decide (pcI (nI s) < pcI (nI x)) from by rw [decide_eq_false c1, Bool.false_or]]
            cases decide (pcI (nI s) < pcI (nI x))
            · rfl
            · exact take
      · unfold bstS
        cases (barB C m Q s && (decide (x = 0) || decide (pcI (nI s) < pcI (nI x))))
        · exact hx
        · exact Nat.lt_of_lt_of_le h2 p2Q
    have := lpI (F := fun x s => M_none_15 (nI x) (cond (decide (x = 0)) 0 (thoF C Q x)) (nI s) D b) (K := fun x => M_none_15 (nI x) (cond (decide (x = 0)) 0 (thoF C Q x)) (nI (2 ^ Q)) D b) (st := bstS C m Q) (lo := 1) (n := 2 ^ Q) (fun x => x < 1024) hs (fun x hx => rfl) (2 ^ Q - 1) 0 1 (by decide) (Nat.le_refl _) (by omega)
    rw [← hB0] at this
    exact this.1
  have hM2 : ∀ c, M_none_15 (nI B) (cond (decide (B = 0)) 0 (thoF C Q B)) (nI (2 ^ Q)) (askM c P Q T W S a) b = cond (decide (B = 0)) (M_none_166 (nI B) (mT (askM c P Q T W S a) []) b) (M_none_166 (nI B) (mT (askM c P Q T W S a) [nI B, thoF C Q B]) b) ∨ ¬ vw P Q T W S a c := by
    intro c
    by_cases hc : vw P Q T W S a c
    · refine .inl ?_
      have qD : askM c P Q T W S a 194 7 = nI Q := by rw [askM_q (by decide)]; exact hc.2.1.2.1.2
      rw [q_M_none_15, qD, shl_n g2, zcond_f (nI_nlt (Nat.le_refl _) (by omega)), mT_0]
      by_cases c1 : B = 0
      · rw [decide_eq_true c1, c1]
        rfl
      · rw [decide_eq_false c1, zcond_t (show (0 : Int32) < nI B from nI_lt (a := 0) (by omega) (by omega)), cond_false, cond_false, m_e0, zcV_ok, m_e1, zcV_ok]
    · exact .inr hc
  have vA : ∀ l, vw P Q T W S a (zup (xT A l) 194 0 0) := fun l => vw_c hv (fun j hj => (zup_nj (by rintro rfl; exact kf_0 hj)).trans ((congrFun (xT_q (by decide)) j).trans (by rw [hA, zfn_q (by decide)]))) (fun q h1 h2 => (zup_row (by omega)).trans ((xT_q (by omega)).trans (by rw [hA, zfn_q (by omega)])))
  have vA0 : ∀ l, v0 (zup (xT A l) 194 0 0) := fun l => v0_u ⟨(congrFun (xT_q (by decide)) 37).trans (by rw [hA, zfn_q (by decide)]; exact h0.1), (congrFun (xT_q (by decide)) 38).trans (by rw [hA, zfn_q (by decide)]; exact h0.2)⟩ (.inr (by decide))
  have mA : zmask A = zmask a := by rw [hA]; exact zm_fn (fun _ => rfl)
  have fin : ∀ l : List Int32, l.length ≤ 32 → X_none a b = okI (pcI (nI B)) (xT A l) b → (∀ c, vw P Q T W S a c → v0 c → zcV (M_asksToday c b) (fun a1 b1 => M_none_15 0 0 1 a1 b1) = okI (pcI (nI B)) (mT (askM c P Q T W S a) l) b) → ∃ v a1 b1 a2 b2, X_none a b = okI v a1 b1 ∧ (∀ j, a1 0 j = a 0 j) ∧ M_none a1 b1 = okI v a2 b2 ∧ Rel L xs a2 b2 := by
    intro l hl h1 h2
    refine ⟨_, xT A l, b, mT (askM (zup (xT A l) 194 0 0) P Q T W S a) l, b, h1, fun j => ?_, ?_, rel_tell (l := l) (a1 := xT A l) hall hl ?_ ?_⟩
    · rw [xT_q (by decide), hA, zfn_q (by decide)]
    · rw [q_M_none]
      exact h2 _ (vA l) (vA0 l)
    · rw [xT_m, mA]
    · rw [mT_m, askM_m, zmask_f rfl]
  have e166 : ∀ D, M_none_166 (nI B) D b = okI (pcI (nI B)) D b := fun D => by
    rw [q_M_none_166, x_pc, zcI_ok]
    exact okI_ret _ _ _
  have e164 : ∀ D, X_none_164 (pcI (nI B)) D b = okI (pcI (nI B)) D b := fun D => by
    rw [q_X_none_164]
    exact okI_ret _ _ _
  by_cases c1 : B = 0
  · refine fin [] (Nat.zero_le _) ?_ (fun c hc hc0 => ?_)
    · rw [hX1, hX2, x_clear, zcV_ok, zcond_f (by rw [c1]; decide), e164]
    · rcases hM2 c with h | h
      · rw [hM1 c hc hc0, h, decide_eq_true c1, cond_true, e166]
      · exact absurd hc h
  · refine fin [nI B, thoF C Q B] (Nat.le_of_ble_eq_true rfl) ?_ (fun c hc hc0 => ?_)
    · rw [hX1, hX2, x_clear, zcV_ok, zcond_t (pc_pos hB1 c1), x_t0, zcV_ok, x_tho g2 ((congrFun (xT_q (by decide)) 1).trans qA) (fun p hp => (congrFun (xT_q (by decide)) p).trans (cA p hp)), zcI_ok, x_t1, zcV_ok, e164]
    · rcases hM2 c with h | h
      · rw [hM1 c hc hc0, h, decide_eq_false c1, cond_false, e166]
      · exact absurd hc h
