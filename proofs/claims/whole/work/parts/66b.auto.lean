/-! Whole numbers of the machine as natural numbers: one form, for simp. -/
theorem zqA0 (a : Nat) : (nI a < 0) = (nI a < nI 0) := rfl
theorem zqB0 (a : Nat) : (0 < nI a) = (nI 0 < nI a) := rfl
theorem zqC0 (a : Nat) : (nI a = 0) = (nI a = nI 0) := rfl
theorem zqD0 (a : Nat) : nI a + 0 = nI a + nI 0 := rfl
theorem zqE0 (a : Nat) : 0 + nI a = nI 0 + nI a := rfl
theorem zqF0 (a : Nat) : nI a * 0 = nI a * nI 0 := rfl
theorem zqG0 (a : Nat) : 0 * nI a = nI 0 * nI a := rfl
theorem zqH0 (a : Nat) : nI a - 0 = nI a - nI 0 := rfl
theorem zqA1 (a : Nat) : (nI a < 1) = (nI a < nI 1) := rfl
theorem zqB1 (a : Nat) : (1 < nI a) = (nI 1 < nI a) := rfl
theorem zqC1 (a : Nat) : (nI a = 1) = (nI a = nI 1) := rfl
theorem zqD1 (a : Nat) : nI a + 1 = nI a + nI 1 := rfl
theorem zqE1 (a : Nat) : 1 + nI a = nI 1 + nI a := rfl
theorem zqF1 (a : Nat) : nI a * 1 = nI a * nI 1 := rfl
theorem zqG1 (a : Nat) : 1 * nI a = nI 1 * nI a := rfl
theorem zqH1 (a : Nat) : nI a - 1 = nI a - nI 1 := rfl
theorem zqA2 (a : Nat) : (nI a < 2) = (nI a < nI 2) := rfl
theorem zqB2 (a : Nat) : (2 < nI a) = (nI 2 < nI a) := rfl
theorem zqC2 (a : Nat) : (nI a = 2) = (nI a = nI 2) := rfl
theorem zqD2 (a : Nat) : nI a + 2 = nI a + nI 2 := rfl
theorem zqE2 (a : Nat) : 2 + nI a = nI 2 + nI a := rfl
theorem zqF2 (a : Nat) : nI a * 2 = nI a * nI 2 := rfl
theorem zqG2 (a : Nat) : 2 * nI a = nI 2 * nI a := rfl
theorem zqH2 (a : Nat) : nI a - 2 = nI a - nI 2 := rfl
theorem zqA3 (a : Nat) : (nI a < 3) = (nI a < nI 3) := rfl
theorem zqB3 (a : Nat) : (3 < nI a) = (nI 3 < nI a) := rfl
theorem zqC3 (a : Nat) : (nI a = 3) = (nI a = nI 3) := rfl
theorem zqD3 (a : Nat) : nI a + 3 = nI a + nI 3 := rfl
theorem zqE3 (a : Nat) : 3 + nI a = nI 3 + nI a := rfl
theorem zqF3 (a : Nat) : nI a * 3 = nI a * nI 3 := rfl
theorem zqG3 (a : Nat) : 3 * nI a = nI 3 * nI a := rfl
theorem zqH3 (a : Nat) : nI a - 3 = nI a - nI 3 := rfl
theorem zqA4 (a : Nat) : (nI a < 4) = (nI a < nI 4) := rfl
theorem zqB4 (a : Nat) : (4 < nI a) = (nI 4 < nI a) := rfl
theorem zqC4 (a : Nat) : (nI a = 4) = (nI a = nI 4) := rfl
theorem zqD4 (a : Nat) : nI a + 4 = nI a + nI 4 := rfl
theorem zqE4 (a : Nat) : 4 + nI a = nI 4 + nI a := rfl
theorem zqF4 (a : Nat) : nI a * 4 = nI a * nI 4 := rfl
theorem zqG4 (a : Nat) : 4 * nI a = nI 4 * nI a := rfl
theorem zqH4 (a : Nat) : nI a - 4 = nI a - nI 4 := rfl
theorem zqA5 (a : Nat) : (nI a < 5) = (nI a < nI 5) := rfl
theorem zqB5 (a : Nat) : (5 < nI a) = (nI 5 < nI a) := rfl
theorem zqC5 (a : Nat) : (nI a = 5) = (nI a = nI 5) := rfl
theorem zqD5 (a : Nat) : nI a + 5 = nI a + nI 5 := rfl
theorem zqE5 (a : Nat) : 5 + nI a = nI 5 + nI a := rfl
theorem zqF5 (a : Nat) : nI a * 5 = nI a * nI 5 := rfl
theorem zqG5 (a : Nat) : 5 * nI a = nI 5 * nI a := rfl
theorem zqH5 (a : Nat) : nI a - 5 = nI a - nI 5 := rfl
theorem zqA6 (a : Nat) : (nI a < 6) = (nI a < nI 6) := rfl
theorem zqB6 (a : Nat) : (6 < nI a) = (nI 6 < nI a) := rfl
theorem zqC6 (a : Nat) : (nI a = 6) = (nI a = nI 6) := rfl
theorem zqD6 (a : Nat) : nI a + 6 = nI a + nI 6 := rfl
theorem zqE6 (a : Nat) : 6 + nI a = nI 6 + nI a := rfl
theorem zqF6 (a : Nat) : nI a * 6 = nI a * nI 6 := rfl
theorem zqG6 (a : Nat) : 6 * nI a = nI 6 * nI a := rfl
theorem zqH6 (a : Nat) : nI a - 6 = nI a - nI 6 := rfl
theorem zqA8 (a : Nat) : (nI a < 8) = (nI a < nI 8) := rfl
theorem zqB8 (a : Nat) : (8 < nI a) = (nI 8 < nI a) := rfl
theorem zqC8 (a : Nat) : (nI a = 8) = (nI a = nI 8) := rfl
theorem zqD8 (a : Nat) : nI a + 8 = nI a + nI 8 := rfl
theorem zqE8 (a : Nat) : 8 + nI a = nI 8 + nI a := rfl
theorem zqF8 (a : Nat) : nI a * 8 = nI a * nI 8 := rfl
theorem zqG8 (a : Nat) : 8 * nI a = nI 8 * nI a := rfl
theorem zqH8 (a : Nat) : nI a - 8 = nI a - nI 8 := rfl
theorem zqA9 (a : Nat) : (nI a < 9) = (nI a < nI 9) := rfl
theorem zqB9 (a : Nat) : (9 < nI a) = (nI 9 < nI a) := rfl
theorem zqC9 (a : Nat) : (nI a = 9) = (nI a = nI 9) := rfl
theorem zqD9 (a : Nat) : nI a + 9 = nI a + nI 9 := rfl
theorem zqE9 (a : Nat) : 9 + nI a = nI 9 + nI a := rfl
theorem zqF9 (a : Nat) : nI a * 9 = nI a * nI 9 := rfl
theorem zqG9 (a : Nat) : 9 * nI a = nI 9 * nI a := rfl
theorem zqH9 (a : Nat) : nI a - 9 = nI a - nI 9 := rfl
theorem zqA10 (a : Nat) : (nI a < 10) = (nI a < nI 10) := rfl
theorem zqB10 (a : Nat) : (10 < nI a) = (nI 10 < nI a) := rfl
theorem zqC10 (a : Nat) : (nI a = 10) = (nI a = nI 10) := rfl
theorem zqD10 (a : Nat) : nI a + 10 = nI a + nI 10 := rfl
theorem zqE10 (a : Nat) : 10 + nI a = nI 10 + nI a := rfl
theorem zqF10 (a : Nat) : nI a * 10 = nI a * nI 10 := rfl
theorem zqG10 (a : Nat) : 10 * nI a = nI 10 * nI a := rfl
theorem zqH10 (a : Nat) : nI a - 10 = nI a - nI 10 := rfl
theorem zqA11 (a : Nat) : (nI a < 11) = (nI a < nI 11) := rfl
theorem zqB11 (a : Nat) : (11 < nI a) = (nI 11 < nI a) := rfl
theorem zqC11 (a : Nat) : (nI a = 11) = (nI a = nI 11) := rfl
theorem zqD11 (a : Nat) : nI a + 11 = nI a + nI 11 := rfl
theorem zqE11 (a : Nat) : 11 + nI a = nI 11 + nI a := rfl
theorem zqF11 (a : Nat) : nI a * 11 = nI a * nI 11 := rfl
theorem zqG11 (a : Nat) : 11 * nI a = nI 11 * nI a := rfl
theorem zqH11 (a : Nat) : nI a - 11 = nI a - nI 11 := rfl
theorem zqA16 (a : Nat) : (nI a < 16) = (nI a < nI 16) := rfl
theorem zqB16 (a : Nat) : (16 < nI a) = (nI 16 < nI a) := rfl
theorem zqC16 (a : Nat) : (nI a = 16) = (nI a = nI 16) := rfl
theorem zqD16 (a : Nat) : nI a + 16 = nI a + nI 16 := rfl
theorem zqE16 (a : Nat) : 16 + nI a = nI 16 + nI a := rfl
theorem zqF16 (a : Nat) : nI a * 16 = nI a * nI 16 := rfl
theorem zqG16 (a : Nat) : 16 * nI a = nI 16 * nI a := rfl
theorem zqH16 (a : Nat) : nI a - 16 = nI a - nI 16 := rfl
theorem zqA18 (a : Nat) : (nI a < 18) = (nI a < nI 18) := rfl
theorem zqB18 (a : Nat) : (18 < nI a) = (nI 18 < nI a) := rfl
theorem zqC18 (a : Nat) : (nI a = 18) = (nI a = nI 18) := rfl
theorem zqD18 (a : Nat) : nI a + 18 = nI a + nI 18 := rfl
theorem zqE18 (a : Nat) : 18 + nI a = nI 18 + nI a := rfl
theorem zqF18 (a : Nat) : nI a * 18 = nI a * nI 18 := rfl
theorem zqG18 (a : Nat) : 18 * nI a = nI 18 * nI a := rfl
theorem zqH18 (a : Nat) : nI a - 18 = nI a - nI 18 := rfl
theorem zqA20 (a : Nat) : (nI a < 20) = (nI a < nI 20) := rfl
theorem zqB20 (a : Nat) : (20 < nI a) = (nI 20 < nI a) := rfl
theorem zqC20 (a : Nat) : (nI a = 20) = (nI a = nI 20) := rfl
theorem zqD20 (a : Nat) : nI a + 20 = nI a + nI 20 := rfl
theorem zqE20 (a : Nat) : 20 + nI a = nI 20 + nI a := rfl
theorem zqF20 (a : Nat) : nI a * 20 = nI a * nI 20 := rfl
theorem zqG20 (a : Nat) : 20 * nI a = nI 20 * nI a := rfl
theorem zqH20 (a : Nat) : nI a - 20 = nI a - nI 20 := rfl
theorem zqA60 (a : Nat) : (nI a < 60) = (nI a < nI 60) := rfl
theorem zqB60 (a : Nat) : (60 < nI a) = (nI 60 < nI a) := rfl
theorem zqC60 (a : Nat) : (nI a = 60) = (nI a = nI 60) := rfl
theorem zqD60 (a : Nat) : nI a + 60 = nI a + nI 60 := rfl
theorem zqE60 (a : Nat) : 60 + nI a = nI 60 + nI a := rfl
theorem zqF60 (a : Nat) : nI a * 60 = nI a * nI 60 := rfl
theorem zqG60 (a : Nat) : 60 * nI a = nI 60 * nI a := rfl
theorem zqH60 (a : Nat) : nI a - 60 = nI a - nI 60 := rfl
theorem zqA63 (a : Nat) : (nI a < 63) = (nI a < nI 63) := rfl
theorem zqB63 (a : Nat) : (63 < nI a) = (nI 63 < nI a) := rfl
theorem zqC63 (a : Nat) : (nI a = 63) = (nI a = nI 63) := rfl
theorem zqD63 (a : Nat) : nI a + 63 = nI a + nI 63 := rfl
theorem zqE63 (a : Nat) : 63 + nI a = nI 63 + nI a := rfl
theorem zqF63 (a : Nat) : nI a * 63 = nI a * nI 63 := rfl
theorem zqG63 (a : Nat) : 63 * nI a = nI 63 * nI a := rfl
theorem zqH63 (a : Nat) : nI a - 63 = nI a - nI 63 := rfl
theorem zqA80 (a : Nat) : (nI a < 80) = (nI a < nI 80) := rfl
theorem zqB80 (a : Nat) : (80 < nI a) = (nI 80 < nI a) := rfl
theorem zqC80 (a : Nat) : (nI a = 80) = (nI a = nI 80) := rfl
theorem zqD80 (a : Nat) : nI a + 80 = nI a + nI 80 := rfl
theorem zqE80 (a : Nat) : 80 + nI a = nI 80 + nI a := rfl
theorem zqF80 (a : Nat) : nI a * 80 = nI a * nI 80 := rfl
theorem zqG80 (a : Nat) : 80 * nI a = nI 80 * nI a := rfl
theorem zqH80 (a : Nat) : nI a - 80 = nI a - nI 80 := rfl
theorem zqA100 (a : Nat) : (nI a < 100) = (nI a < nI 100) := rfl
theorem zqB100 (a : Nat) : (100 < nI a) = (nI 100 < nI a) := rfl
theorem zqC100 (a : Nat) : (nI a = 100) = (nI a = nI 100) := rfl
theorem zqD100 (a : Nat) : nI a + 100 = nI a + nI 100 := rfl
theorem zqE100 (a : Nat) : 100 + nI a = nI 100 + nI a := rfl
theorem zqF100 (a : Nat) : nI a * 100 = nI a * nI 100 := rfl
theorem zqG100 (a : Nat) : 100 * nI a = nI 100 * nI a := rfl
theorem zqH100 (a : Nat) : nI a - 100 = nI a - nI 100 := rfl
theorem zqA120 (a : Nat) : (nI a < 120) = (nI a < nI 120) := rfl
theorem zqB120 (a : Nat) : (120 < nI a) = (nI 120 < nI a) := rfl
theorem zqC120 (a : Nat) : (nI a = 120) = (nI a = nI 120) := rfl
theorem zqD120 (a : Nat) : nI a + 120 = nI a + nI 120 := rfl
theorem zqE120 (a : Nat) : 120 + nI a = nI 120 + nI a := rfl
theorem zqF120 (a : Nat) : nI a * 120 = nI a * nI 120 := rfl
theorem zqG120 (a : Nat) : 120 * nI a = nI 120 * nI a := rfl
theorem zqH120 (a : Nat) : nI a - 120 = nI a - nI 120 := rfl
theorem zqA630 (a : Nat) : (nI a < 630) = (nI a < nI 630) := rfl
theorem zqB630 (a : Nat) : (630 < nI a) = (nI 630 < nI a) := rfl
theorem zqC630 (a : Nat) : (nI a = 630) = (nI a = nI 630) := rfl
theorem zqD630 (a : Nat) : nI a + 630 = nI a + nI 630 := rfl
theorem zqE630 (a : Nat) : 630 + nI a = nI 630 + nI a := rfl
theorem zqF630 (a : Nat) : nI a * 630 = nI a * nI 630 := rfl
theorem zqG630 (a : Nat) : 630 * nI a = nI 630 * nI a := rfl
theorem zqH630 (a : Nat) : nI a - 630 = nI a - nI 630 := rfl
theorem zqA1000 (a : Nat) : (nI a < 1000) = (nI a < nI 1000) := rfl
theorem zqB1000 (a : Nat) : (1000 < nI a) = (nI 1000 < nI a) := rfl
theorem zqC1000 (a : Nat) : (nI a = 1000) = (nI a = nI 1000) := rfl
theorem zqD1000 (a : Nat) : nI a + 1000 = nI a + nI 1000 := rfl
theorem zqE1000 (a : Nat) : 1000 + nI a = nI 1000 + nI a := rfl
theorem zqF1000 (a : Nat) : nI a * 1000 = nI a * nI 1000 := rfl
theorem zqG1000 (a : Nat) : 1000 * nI a = nI 1000 * nI a := rfl
theorem zqH1000 (a : Nat) : nI a - 1000 = nI a - nI 1000 := rfl
theorem zqA1010 (a : Nat) : (nI a < 1010) = (nI a < nI 1010) := rfl
theorem zqB1010 (a : Nat) : (1010 < nI a) = (nI 1010 < nI a) := rfl
theorem zqC1010 (a : Nat) : (nI a = 1010) = (nI a = nI 1010) := rfl
theorem zqD1010 (a : Nat) : nI a + 1010 = nI a + nI 1010 := rfl
theorem zqE1010 (a : Nat) : 1010 + nI a = nI 1010 + nI a := rfl
theorem zqF1010 (a : Nat) : nI a * 1010 = nI a * nI 1010 := rfl
theorem zqG1010 (a : Nat) : 1010 * nI a = nI 1010 * nI a := rfl
theorem zqH1010 (a : Nat) : nI a - 1010 = nI a - nI 1010 := rfl
theorem zqA5000 (a : Nat) : (nI a < 5000) = (nI a < nI 5000) := rfl
theorem zqB5000 (a : Nat) : (5000 < nI a) = (nI 5000 < nI a) := rfl
theorem zqC5000 (a : Nat) : (nI a = 5000) = (nI a = nI 5000) := rfl
theorem zqD5000 (a : Nat) : nI a + 5000 = nI a + nI 5000 := rfl
theorem zqE5000 (a : Nat) : 5000 + nI a = nI 5000 + nI a := rfl
theorem zqF5000 (a : Nat) : nI a * 5000 = nI a * nI 5000 := rfl
theorem zqG5000 (a : Nat) : 5000 * nI a = nI 5000 * nI a := rfl
theorem zqH5000 (a : Nat) : nI a - 5000 = nI a - nI 5000 := rfl
theorem zz_lt {a b : Nat} (ha : a < 2147483648) (hb : b < 2147483648) : (nI a < nI b) = (a < b) := propext (nI_ltI ha hb)
theorem zz_le {a b : Nat} (ha : a < 2147483648) (hb : b < 2147483648) : (nI a ≤ nI b) = (a ≤ b) := propext (nI_leI ha hb)
theorem zz_eq {a b : Nat} (ha : a < 2147483648) (hb : b < 2147483648) : (nI a = nI b) = (a = b) := propext (nI_eq ha hb)
theorem zz_n1 {a : Nat} (ha : a < 2147483648) : (nI a = -1) = False := by
  refine eq_false fun z => ?_
  have := nI_pos (n := a) ha
  rw [z] at this
  exact this (by decide)
theorem zz_sub {a b : Nat} (h : b ≤ a) : nI a - nI b = nI (a - b) := pk_sub h
theorem zz_in {a n : Nat} (ha : a < 2147483648) : zin (nI a) n = decide (a < n) := by
  unfold zin
  rw [nI_clamp ha, decide_eq_false (nI_pos ha)]
  rfl
theorem zz_cl {a : Nat} (ha : a < 2147483648) : (nI a).toNatClampNeg = a := nI_clamp ha
theorem zz_max {a b : Nat} (ha : a < 1073741824) (hb : b < 1073741824) : (if 0 < nI a - nI b then nI a - nI b else 0) = nI (a - b) := by
  by_cases h : b < a
  · rw [pk_sub (by omega)]
    exact if_pos (show nI 0 < nI (a - b) from nI_lt (by omega) (by omega))
  · have e : a - b = 0 := by omega
    have : ¬ 0 < nI a - nI b := by
      rw [Int32.lt_iff_toInt_lt, pk_sub_toInt ha hb, show (0 : Int32).toInt = 0 from by decide]
      omega
    rw [if_neg this, e]
    rfl
theorem zz_min {a b : Nat} (ha : a < 2147483648) (hb : b < 2147483648) : (if nI a < nI b then nI a else nI b) = nI (min a b) := by
  by_cases h : a < b
  · rw [if_pos (nI_lt h hb), Nat.min_eq_left (by omega)]
  · rw [if_neg (nI_nlt (by omega) ha), Nat.min_eq_right (by omega)]
theorem zz_deq {a b : Nat} (ha : a < 2147483648) (hb : b < 2147483648) : decide (nI a = nI b) = decide (a = b) := by simp only [zz_eq ha hb]
theorem zz_minN (a b : Nat) : (if a < b then nI a else nI b) = nI (min a b) := by
  by_cases h : a < b
  · rw [if_pos h, Nat.min_eq_left (by omega)]
  · rw [if_neg h, Nat.min_eq_right (by omega)]
theorem zz_maxN (a : Nat) : (if 0 < a then nI a else 0) = nI a := by
  by_cases h : 0 < a
  · rw [if_pos h]
  · rw [if_neg h, show a = 0 by omega]
    rfl
theorem zz_02 : zin 0 2 = true := rfl
theorem zz_12 : zin 1 2 = true := rfl
theorem zz_c0 : (0 : Int32).toNatClampNeg = 0 := rfl
theorem zz_c1 : (1 : Int32).toNatClampNeg = 1 := rfl
theorem zz_b0 : zisB 0 = true := rfl
theorem zz_b1 : zisB 1 = true := rfl
theorem zz_bb (b : Bool) : zisB (bI b) = true := by cases b <;> rfl
theorem zz_d00 : decide ((0 : Int32) = 0) = true := rfl
theorem zz_d10 : decide ((1 : Int32) = 0) = false := rfl
theorem zz_01 : zisB (nI 0) = true := rfl
theorem zz_p01 : ((0 : Int32) = 1) = False := eq_false (by decide)
theorem zz_p02 : ((0 : Int32) = 2) = False := eq_false (by decide)
theorem zz_p03 : ((0 : Int32) = 3) = False := eq_false (by decide)
theorem zz_p04 : ((0 : Int32) = 4) = False := eq_false (by decide)
theorem zz_p05 : ((0 : Int32) = 5) = False := eq_false (by decide)
theorem zz_p06 : ((0 : Int32) = 6) = False := eq_false (by decide)
theorem zz_p10 : ((1 : Int32) = 0) = False := eq_false (by decide)
theorem zz_p12 : ((1 : Int32) = 2) = False := eq_false (by decide)
theorem zz_p13 : ((1 : Int32) = 3) = False := eq_false (by decide)
theorem zz_p14 : ((1 : Int32) = 4) = False := eq_false (by decide)
theorem zz_p15 : ((1 : Int32) = 5) = False := eq_false (by decide)
theorem zz_p16 : ((1 : Int32) = 6) = False := eq_false (by decide)
theorem zz_p20 : ((2 : Int32) = 0) = False := eq_false (by decide)
theorem zz_p21 : ((2 : Int32) = 1) = False := eq_false (by decide)
theorem zz_p23 : ((2 : Int32) = 3) = False := eq_false (by decide)
theorem zz_p24 : ((2 : Int32) = 4) = False := eq_false (by decide)
theorem zz_p25 : ((2 : Int32) = 5) = False := eq_false (by decide)
theorem zz_p26 : ((2 : Int32) = 6) = False := eq_false (by decide)
theorem zz_p30 : ((3 : Int32) = 0) = False := eq_false (by decide)
theorem zz_p31 : ((3 : Int32) = 1) = False := eq_false (by decide)
theorem zz_p32 : ((3 : Int32) = 2) = False := eq_false (by decide)
theorem zz_p34 : ((3 : Int32) = 4) = False := eq_false (by decide)
theorem zz_p35 : ((3 : Int32) = 5) = False := eq_false (by decide)
theorem zz_p36 : ((3 : Int32) = 6) = False := eq_false (by decide)
theorem zz_p40 : ((4 : Int32) = 0) = False := eq_false (by decide)
theorem zz_p41 : ((4 : Int32) = 1) = False := eq_false (by decide)
theorem zz_p42 : ((4 : Int32) = 2) = False := eq_false (by decide)
theorem zz_p43 : ((4 : Int32) = 3) = False := eq_false (by decide)
theorem zz_p45 : ((4 : Int32) = 5) = False := eq_false (by decide)
theorem zz_p46 : ((4 : Int32) = 6) = False := eq_false (by decide)
theorem zz_p50 : ((5 : Int32) = 0) = False := eq_false (by decide)
theorem zz_p51 : ((5 : Int32) = 1) = False := eq_false (by decide)
theorem zz_p52 : ((5 : Int32) = 2) = False := eq_false (by decide)
theorem zz_p53 : ((5 : Int32) = 3) = False := eq_false (by decide)
theorem zz_p54 : ((5 : Int32) = 4) = False := eq_false (by decide)
theorem zz_p56 : ((5 : Int32) = 6) = False := eq_false (by decide)
theorem zz_p60 : ((6 : Int32) = 0) = False := eq_false (by decide)
theorem zz_p61 : ((6 : Int32) = 1) = False := eq_false (by decide)
theorem zz_p62 : ((6 : Int32) = 2) = False := eq_false (by decide)
theorem zz_p63 : ((6 : Int32) = 3) = False := eq_false (by decide)
theorem zz_p64 : ((6 : Int32) = 4) = False := eq_false (by decide)
theorem zz_p65 : ((6 : Int32) = 5) = False := eq_false (by decide)
theorem zz_q1 : ((0 : Int32) < 1) = True := eq_true (by decide)
theorem zz_w1 : ((1 : Int32) < 0) = False := eq_false (by decide)
theorem zz_q2 : ((0 : Int32) < 2) = True := eq_true (by decide)
theorem zz_w2 : ((2 : Int32) < 0) = False := eq_false (by decide)
theorem zz_q3 : ((0 : Int32) < 3) = True := eq_true (by decide)
theorem zz_w3 : ((3 : Int32) < 0) = False := eq_false (by decide)
theorem zz_q4 : ((0 : Int32) < 4) = True := eq_true (by decide)
theorem zz_w4 : ((4 : Int32) < 0) = False := eq_false (by decide)
theorem zz_q5 : ((0 : Int32) < 5) = True := eq_true (by decide)
theorem zz_w5 : ((5 : Int32) < 0) = False := eq_false (by decide)
theorem zz_q6 : ((0 : Int32) < 6) = True := eq_true (by decide)
theorem zz_w6 : ((6 : Int32) < 0) = False := eq_false (by decide)
theorem zz_w0 : ((0 : Int32) < 0) = False := eq_false (by decide)
theorem zz_m1 : ((-1 : Int32) = 0) = False := eq_false (by decide)
theorem zz_neg : ((-1 : Int32) < 0) = True := eq_true (by decide)
