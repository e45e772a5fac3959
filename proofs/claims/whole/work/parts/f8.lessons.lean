/-! Lessons: the reference, and the call. -/
def lsn (a : zA) (k : Nat) : zA := zup a 17 (k / 6) (a 17 (k / 6) ||| (1 <<< (nI (k % 6) &&& 31)))
def lsC (C : zA) (k : Nat) : zA := zup C 196 (k / 6) (C 196 (k / 6) ||| (1 <<< (nI (k % 6) &&& 31)))
theorem nI_63 {x : Int32} (h : 0 ≤ x) (h9 : x ≤ 63) : ∃ n, n ≤ 63 ∧ x = nI n := by
  obtain ⟨n, hn, e⟩ := nI_of2 (M := 63) (n := 63) (by decide) (show ¬ x < 0 from fun z => by rw [Int32.lt_iff_toInt_lt] at z; rw [Int32.le_iff_toInt_le] at h; omega) h9
  exact ⟨n, hn, e⟩
theorem nI_c5 {x : Int32} (h : -1 ≤ x) (h5 : x ≤ 5) : x = -1 ∨ ∃ n, n < 6 ∧ x = nI n := by
  by_cases c : x = -1
  · exact .inl c
  · have h0 : 0 ≤ x := by
      rw [Int32.le_iff_toInt_le] at h ⊢
      have : x.toInt ≠ (-1 : Int32).toInt := fun z => c (Int32.toInt_inj.mp z)
      rw [show (-1 : Int32).toInt = -1 from rfl] at h this
      rw [show (0 : Int32).toInt = 0 from rfl]
      omega
    obtain ⟨n, hn, e⟩ := nI_of2 (M := 5) (n := 5) (by decide) (show ¬ x < 0 from fun z => by rw [Int32.lt_iff_toInt_lt] at z; rw [Int32.le_iff_toInt_le] at h0; omega) h5
    exact .inr ⟨n, by omega, e⟩
theorem lsn_q {a : zA} {k q : Nat} (h : q ≠ 17) : lsn a k q = a q := zup_row h
theorem lsC_q {C : zA} {k q : Nat} (h : q ≠ 196) : lsC C k q = C q := zup_row h
theorem ls_same {a C : zA} {k P : Nat} (h : rSame P 0 63 (a 17) (C 196)) (hk : k < 6 * P) : rSame P 0 63 (lsn a k 17) (lsC C k 196) := fun j hj => by
  by_cases c : j = k / 6
  · obtain ⟨h1, h2, h3⟩ := h (k / 6) (by omega)
    obtain ⟨u, hu, eu⟩ := nI_63 h2 h3
    have e1 : lsn a k 17 j = nI (u ||| 2 ^ (k % 6)) := by
      unfold lsn
      rw [c, zup_eq, eu, orB (by omega) (by omega)]
    have e2 : lsC C k 196 j = nI (u ||| 2 ^ (k % 6)) := by
      unfold lsC
      rw [c, zup_eq, ← h1, eu, orB (by omega) (by omega)]
    have lt : u ||| 2 ^ (k % 6) < 2 ^ 6 := Nat.or_lt_two_pow (by omega) (Nat.pow_lt_pow_right (by decide) (by omega))
    rw [e1, e2]
    exact ⟨rfl, nI_pos' (by omega), nI_le (b := 63) (by omega) (by decide)⟩
  · have e1 : lsn a k 17 j = a 17 j := zup_nj c
    have e2 : lsC C k 196 j = C 196 j := zup_nj c
    rw [e1, e2]
    exact h j hj
theorem vw_ls {P Q T W S k : Nat} {a C : zA} (h : vw P Q T W S a C) (hk : k < 6 * P) : vw P Q T W S (lsn a k) (lsC C k) := by
  obtain ⟨h1, h2, h3, h4, h5, h6, h7⟩ := h
  refine ⟨h1, ?_, ?_, ?_, ?_, ls_same h6 hk, ?_⟩
  · unfold vNum
    rw [lsn_q (show 2 ≠ 17 by decide), lsn_q (show 12 ≠ 17 by decide), lsn_q (show 9 ≠ 17 by decide), lsC_q (show 194 ≠ 196 by decide)]
    exact h2
  · rw [lsn_q (show 8 ≠ 17 by decide), lsn_q (show 10 ≠ 17 by decide), lsn_q (show 11 ≠ 17 by decide), lsC_q (show 194 ≠ 196 by decide), lsC_q (show 207 ≠ 196 by decide), lsC_q (show 208 ≠ 196 by decide), lsC_q (show 209 ≠ 196 by decide), lsC_q (show 210 ≠ 196 by decide)]
    exact h3
  · rw [lsn_q (show 13 ≠ 17 by decide), lsC_q (show 206 ≠ 196 by decide)]
    exact h4
  · unfold vHouse
    rw [lsn_q (show 3 ≠ 17 by decide), lsn_q (show 4 ≠ 17 by decide), lsn_q (show 5 ≠ 17 by decide), lsn_q (show 6 ≠ 17 by decide), lsn_q (show 7 ≠ 17 by decide), lsC_q (show 197 ≠ 196 by decide), lsC_q (show 199 ≠ 196 by decide), lsC_q (show 200 ≠ 196 by decide), lsC_q (show 201 ≠ 196 by decide), lsC_q (show 202 ≠ 196 by decide)]
    exact h5
  · rw [lsn_q (show 18 ≠ 17 by decide), lsC_q (show 198 ≠ 196 by decide)]
    exact h7
theorem yAble_c {a : zA} {w p c : Nat} (hc : c < 32) (e : a 4 p = nI c) : yAble a w p = hB (a 17 w) c := by
  unfold yAble
  rw [e, decide_eq_false (nI_pos (by omega)), Bool.false_or, hB_test hc]
  cases hB (a 17 w) c <;> rfl
theorem yAble_m {a : zA} {w p : Nat} (e : a 4 p = -1) : yAble a w p = true := by
  unfold yAble
  rw [e]
  rfl
theorem yAble_ls {P Q T W S k w p : Nat} {a C : zA} (h : vw P Q T W S a C) (hp : p < Q) : yAble (lsn a k) w p = (yAble a w p || (decide (w = k / 6) && decide (a 4 p = nI (k % 6)))) := by
  obtain ⟨-, -, -, -, ⟨-, u2, -⟩, -⟩ := h
  obtain ⟨-, b1, b2⟩ := u2 p hp
  have e4 : lsn a k 4 p = a 4 p := congrFun (lsn_q (by decide)) p
  rcases nI_c5 b1 b2 with e | ⟨c, hc, e⟩
  · rw [yAble_m (e4.trans e), yAble_m e]
    rfl
  · rw [yAble_c (by omega) (e4.trans e), yAble_c (by omega) e, e]
    by_cases d : w = k / 6
    · have e1 : lsn a k 17 w = a 17 w ||| (1 <<< (nI (k % 6) &&& 31)) := by
        unfold lsn
        rw [d, zup_eq]
      rw [e1, hB_or, hB_bit (by omega) _ (by omega), decide_eq_true d, Bool.true_and]
      congr 1
      rw [Bool.eq_iff_iff, decide_eq_true_iff, decide_eq_true_iff, nI_eq (by omega) (by omega)]
    · have e1 : lsn a k 17 w = a 17 w := zup_nj d
      rw [e1, decide_eq_false d, Bool.false_and, Bool.or_false]
theorem fAb_ls {P Q T W S k : Nat} {a C : zA} (h : vw P Q T W S a C) (hk : k < 6 * P) : ∀ w q, q < Q → fAb P (lsn a k) w q = lsF a (fAb P a) k w q := fun w q hq => by
  show (decide (w < P) && yAble (lsn a k) w q) = ((decide (w < P) && yAble a w q) || (decide (w = k / 6) && decide (a 4 q = nI (k % 6))))
  rw [yAble_ls h hq]
  by_cases c : w < P
  · rw [decide_eq_true c, Bool.true_and, Bool.true_and]
  · rw [decide_eq_false c, decide_eq_false (show ¬ w = k / 6 by omega)]
    rfl
def isL (a : zA) (k : Nat) : Bool := !hB (a 17 (k / 6)) (k % 6)
theorem isL_ls {a : zA} {k m : Nat} (h : m ≠ k) : isL (lsn a k) m = isL a m := by
  unfold isL
  by_cases d : m / 6 = k / 6
  · have e1 : lsn a k 17 (m / 6) = a 17 (m / 6) ||| (1 <<< (nI (k % 6) &&& 31)) := by
      unfold lsn
      rw [d, zup_eq]
    rw [e1, hB_or, hB_bit (by omega) _ (by omega), decide_eq_false (show ¬ m % 6 = k % 6 by omega), Bool.or_false]
  · have e1 : lsn a k 17 (m / 6) = a 17 (m / 6) := zup_nj d
    rw [e1]
theorem ad_isL {P Q k : Nat} {a : zA} {f : Nat → Nat → Bool} (hk : k < 6 * P) (hf : ∀ w q, fAb P a w q = true → f w q = true) (h : isL a k = false) : adB a Q f k = false := by
  refine Bool.eq_false_iff.mpr fun z => ?_
  obtain ⟨p, _, hp, g⟩ := (aF_i _ _).mp z
  rw [Bool.and_eq_true, decide_eq_true_iff] at g
  have hb : hB (a 17 (k / 6)) (k % 6) = true := by
    unfold isL at h
    cases c : hB (a 17 (k / 6)) (k % 6)
    · rw [c] at h; exact absurd h (by decide)
    · rfl
  have := hf (k / 6) p (by
    unfold fAb
    rw [decide_eq_true (show k / 6 < P by omega), yAble_c (by omega) g.1, hb]; rfl)
  rw [this] at g
  exact absurd g.2 (by decide)
noncomputable def r1B (a : zA) (P Q : Nat) (R : Nat → Nat → Bool) (f : Nat → Nat → Bool) (k : Nat) : Bool := isL a k && dB P Q R (lsF a f k)
noncomputable def r2B (a : zA) (P Q : Nat) (R : Nat → Nat → Bool) (f : Nat → Nat → Bool) (k : Nat) : Bool := isL a k && (fiN (r1B a P Q R (lsF a f k)) (6 * P - (k + 1)) (k + 1)).isSome
theorem c1_r1 {P Q k : Nat} {a : zA} {R : Nat → Nat → Bool} {f : Nat → Nat → Bool} (hk : k < 6 * P) (hf : ∀ w q, fAb P a w q = true → f w q = true) (h0 : dB P Q R f = false) : c1B a P Q R f k = r1B a P Q R f k := by
  unfold c1B r1B
  cases c : adB a Q f k
  · rw [dB_c (ad_no c), h0, Bool.and_false, Bool.and_false]
  · cases d : isL a k
    · rw [ad_isL hk hf d] at c
      exact absurd c (by decide)
    · rfl
theorem ls_up {P : Nat} {a : zA} {f : Nat → Nat → Bool} {k : Nat} (hf : ∀ w q, fAb P a w q = true → f w q = true) : ∀ w q, fAb P a w q = true → lsF a f k w q = true := fun w q h => by
  unfold lsF
  rw [hf w q h]
  rfl
theorem c2_r2 {P Q k : Nat} {a : zA} {R : Nat → Nat → Bool} (hk : k < 6 * P) (h1 : ∀ m, m < 6 * P → r1B a P Q R (fAb P a) m = false) : c2B a P Q R (fAb P a) k = r2B a P Q R (fAb P a) k ∧ (c2B a P Q R (fAb P a) k = true → fiN (c1B a P Q R (lsF a (fAb P a) k)) (6 * P - (k + 1)) (k + 1) = fiN (r1B a P Q R (lsF a (fAb P a) k)) (6 * P - (k + 1)) (k + 1)) := by
  have f0 : ∀ w q, fAb P a w q = true → fAb P a w q = true := fun _ _ h => h
  unfold c2B r2B
  cases c : adB a Q (fAb P a) k
  · refine ⟨?_, fun z => absurd z (by simp)⟩
    have : fiN (r1B a P Q R (lsF a (fAb P a) k)) (6 * P - (k + 1)) (k + 1) = none := fi_none _ _ (fun m m1 m2 => by
      have g := h1 m (by omega)
      unfold r1B at g ⊢
      rw [dB_c (ls_c (k := m) (ad_no c))]
      exact g)
    rw [this]
    show false = (isL a k && false)
    rw [Bool.and_false]
  · have dl : isL a k = true := by
      cases d : isL a k
      · rw [ad_isL hk f0 d] at c
        exact absurd c (by decide)
      · rfl
    have g := h1 k hk
    unfold r1B at g
    rw [dl, Bool.true_and] at g
    have e := fi_c (g := c1B a P Q R (lsF a (fAb P a) k)) (h := r1B a P Q R (lsF a (fAb P a) k)) (6 * P - (k + 1)) (k + 1) (fun m m1 m2 => c1_r1 (by omega) (ls_up f0) g)
    rw [e, dl]
    exact ⟨rfl, fun _ => rfl⟩
/-! The reference. -/
theorem vw_FV {P Q T W S : Nat} {a C C0 : zA} (h : vw P Q T W S a C0) (g : FV C C0) : vw P Q T W S a C := vw_c h (fun j hj => g.2 j (by unfold kf at hj; omega)) (fun q h1 h2 => g.1 q (by omega) (by omega))
theorem FV_r (C : zA) : FV C C := ⟨fun _ _ _ => rfl, fun _ _ => rfl⟩
theorem m_dB {P Q T W S : Nat} {a C : zA} {R : Nat → Nat → Bool} (b : zB) (hP : P ≤ 5) (hQ : Q ≤ 5) (h : vw P Q T W S a C) (hR : R = fR W S (a 8 3) (a 10) Q (ALL P Q)) : ∃ C' v, M_goesForEver C b = okI v C' b ∧ decide (0 < v) = dB P Q R (fAb P a) ∧ FV C' C := by
  obtain ⟨C', G, y1, y2, y3, y4⟩ := m_everG hP hQ h.1.2.2.2.1 h.1.2.2.2.2 (mHas_vw b h)
  refine ⟨C', _, y1, ?_, y2⟩
  have e := ever_eq (gf_max _ _ (okU P Q (fAb P a))) y4
  have hl := lst_120 (fAb P a) hP hQ
  have c := cnt_le G (LST (fAb P a) P Q).length
  unfold dB
  rw [hR, e, Bool.eq_iff_iff, decide_eq_true_iff, decide_eq_true_iff]
  exact nI_ltI (a := 0) (by decide) (by omega)
theorem kdiv {k : Nat} (h : k < 100) : nI k / 6 = nI (k / 6) := pk_div (d := 6) (by omega) (by decide) (by decide)
theorem krem {k : Nat} (h : k < 100) : nI k - nI k / 6 * 6 = nI (k % 6) := pk_rem (d := 6) (by omega) (by decide) (by decide)
theorem d60 : decide ((6 : Int32) = 0) = false := by decide
theorem m_isL {P Q T W S k : Nat} {a C : zA} (b : zB) (h : vw P Q T W S a C) (hP : P ≤ 5) (hk : k < 6 * P) : M_isLesson (nI k) C b = okI (bI (isL a k)) C b := by
  obtain ⟨-, -, -, -, -, h6, -⟩ := h
  have k24 : ∀ x : Bool, M_isLesson_24 (bI x) C b = okI (bI x) C b := fun x => by
    rw [q_M_isLesson_24]
    cases x
    · exact okI_ret _ _ _
    · exact okI_ret _ _ _
  rw [q_M_isLesson, d60, cond_false, cond_false, krem (by omega), kdiv (by omega), zin_nI (n := 10) (by omega) (by decide), cond_true, show (nI (k / 6)).toNatClampNeg = k / 6 from nI_clamp (by omega), m_has _ (by omega), zcI_ok, zc_b0, ← (h6 (k / 6) (by omega)).1, show M_isLesson_24 1 C b = okI (bI true) C b from k24 true, show M_isLesson_24 0 C b = okI (bI false) C b from k24 false]
  unfold isL
  cases hB (a 17 (k / 6)) (k % 6) <;> rfl
theorem un_bit {x : Int32} {c : Nat} (hc : c < 6) (h : hB x c = false) : (x ||| (1 <<< (nI c &&& 31))) &&& ((1 <<< (nI c &&& 31)) ^^^ (-1)) = x := hB_ext fun i hi => by
  rw [hB_and, hB_or, hB_xor1 _ hi, hB_bit (by omega) _ hi]
  by_cases d : i = c
  · rw [d, h, decide_eq_true rfl]; rfl
  · rw [decide_eq_false d, Bool.or_false, Bool.not_false, Bool.and_true]
/-- the lesson is taken back -/
def unC (C : zA) (k : Nat) : zA := zup C 196 (k / 6) (C 196 (k / 6) &&& ((1 <<< (nI (k % 6) &&& 31)) ^^^ (-1)))
theorem un_FV {P Q T W S k : Nat} {a C C' : zA} (h : vw P Q T W S a C) (hk : k < 6 * P) (hL : isL a k = true) (g : FV C' (lsC C k)) : FV (unC C' k) C := by
  obtain ⟨-, -, -, -, -, h6, -⟩ := h
  have hb : hB (C 196 (k / 6)) (k % 6) = false := by
    rw [← (h6 (k / 6) (by omega)).1]
    unfold isL at hL
    cases c : hB (a 17 (k / 6)) (k % 6)
    · rfl
    · rw [c] at hL; exact absurd hL (by decide)
  refine ⟨fun q h1 h2 => ?_, fun j hj => ?_⟩
  · by_cases c : q = 196
    · subst c
      funext j
      have e : C' 196 = lsC C k 196 := g.1 196 (by decide) (by decide)
      unfold unC
      by_cases d : j = k / 6
      · rw [d, zup_eq, e]
        unfold lsC
        rw [zup_eq]
        exact un_bit (by omega) hb
      · rw [zup_nj d, e]
        exact zup_nj d
    · unfold unC
      rw [zup_row c, g.1 q h1 h2]
      exact lsC_q c
  · unfold unC
    rw [zup_row (by decide), g.2 j hj]
    exact congrFun (lsC_q (by decide)) j
theorem m_does {P Q T W S k : Nat} {a C : zA} {R : Nat → Nat → Bool} (b : zB) (hP : P ≤ 5) (hQ : Q ≤ 5) (h : vw P Q T W S a C) (hR : R = fR W S (a 8 3) (a 10) Q (ALL P Q)) (hk : k < 6 * P) (hL : isL a k = true) : ∃ C', M_lessonDoes (nI k) C b = okI (bI (dB P Q R (lsF a (fAb P a) k))) C' b ∧ FV C' C := by
  obtain ⟨C1, v, y1, y2, y3⟩ := m_dB (R := R) b hP hQ (vw_ls h hk) (by rw [lsn_q (show 8 ≠ 17 by decide), lsn_q (show 10 ≠ 17 by decide)]; exact hR)
  rw [dB_c (fAb_ls h hk)] at y2
  have k30 : ∀ x : Bool, M_lessonDoes_30 (nI k) (bI x) C1 b = okI (bI x) (unC C1 k) b := fun x => by
    rw [q_M_lessonDoes_30, d60, cond_false, cond_false, krem (by omega), kdiv (by omega), zin_nI (n := 10) (by omega) (by decide), cond_true, cond_true, zz_bb, cond_true, show (nI (k / 6)).toNatClampNeg = k / 6 from nI_clamp (by omega)]
    exact okI_ret _ _ _
  refine ⟨unC C1 k, ?_, un_FV h hk hL y3⟩
  rw [q_M_lessonDoes, d60, cond_false, cond_false, krem (by omega), kdiv (by omega), zin_nI (n := 10) (by omega) (by decide), cond_true, cond_true, show (nI (k / 6)).toNatClampNeg = k / 6 from nI_clamp (by omega), show M_goesForEver (zup C 196 (k / 6) (C 196 (k / 6) ||| (1 <<< (nI (k % 6) &&& 31)))) b = okI v C1 b from y1, zcI_ok, y2, show M_lessonDoes_30 (nI k) 1 C1 b = _ from k30 true, show M_lessonDoes_30 (nI k) 0 C1 b = _ from k30 false]
  cases dB P Q R (lsF a (fAb P a) k) <;> rfl
theorem m_inner {P Q T W S k : Nat} {a C0 : zA} {R : Nat → Nat → Bool} (b : zB) (hP : P ≤ 5) (hQ : Q ≤ 5) (h : vw P Q T W S a C0) (hR : R = fR W S (a 8 3) (a 10) Q (ALL P Q)) (hk : k < 6 * P) : ∀ n m C, m + n = 6 * P → k < m → FV C (lsC C0 k) → ∃ C', M_lessons_124 (nI k) (-1) (nI m) C b = M_lessons_167 (nI k) ((fiN (r1B a P Q R (lsF a (fAb P a) k)) n m).elim (-1) nI) C' b ∧ FV C' (lsC C0 k) := by
  have hv := vw_ls h hk
  intro n
  induction n with
  | zero =>
    intro m C e hm hF
    have vC := vw_FV hv hF
    refine ⟨C, ?_, hF⟩
    rw [q_M_lessons_124, vC.2.1.1.2, show (6 : Int32) * nI P = nI (6 * P) from pk_mul 6 P, zcond_f (nI_nlt (by omega) (by omega))]
    rfl
  | succ n ih =>
    intro m C e hm hF
    have vC := vw_FV hv hF
    have hmP : m < 6 * P := by omega
    have k159 : ∀ C, M_lessons_159 (nI k) (nI m) C b = M_lessons_124 (nI k) (-1) (nI (m + 1)) C b := fun C => by rw [q_M_lessons_159, q_M_lessons_160, nI_1]
    have k160 : ∀ C, C 194 3 = nI P → M_lessons_160 (nI k) (nI m) (nI m) C b = M_lessons_167 (nI k) (nI m) C b := fun C hC => by
      rw [q_M_lessons_160, q_M_lessons_124, zcond_f (nI_pos (n := m) (by omega))]
      cases decide (nI m + 1 < 6 * C 194 3) <;> rfl
    rw [q_M_lessons_124, vC.2.1.1.2, show (6 : Int32) * nI P = nI (6 * P) from pk_mul 6 P, zcond_t (nI_lt hmP (by omega)), zcond_t (show (-1 : Int32) < 0 by decide), m_isL b vC hP hmP, zcI_ok, zc_b0, isL_ls (by omega), k159]
    unfold fiN
    cases c : isL a m
    · rw [show r1B a P Q R (lsF a (fAb P a) k) m = false by unfold r1B; rw [c]; rfl]
      exact ih (m + 1) C (by omega) (by omega) hF
    · obtain ⟨C1, y1, y2⟩ := m_does (R := R) b hP hQ vC (by rw [lsn_q (show 8 ≠ 17 by decide), lsn_q (show 10 ≠ 17 by decide)]; exact hR) hmP ((isL_ls (by omega)).trans c)
      have ed : dB P Q R (lsF (lsn a k) (fAb P (lsn a k)) m) = r1B a P Q R (lsF a (fAb P a) k) m := by
        unfold r1B
        rw [c, Bool.true_and]
        refine dB_c fun w q hq => ?_
        unfold lsF
        rw [fAb_ls h hk w q hq, lsn_q (show 4 ≠ 17 by decide)]
        rfl
      rw [ed] at y1
      have f1 := FV_t y2 hF
      rw [cond_true, y1, zcI_ok, zc_b0, k159, k160 C1 (vw_FV hv f1).2.1.1.2]
      cases d : r1B a P Q R (lsF a (fAb P a) k) m
      · exact ih (m + 1) C1 (by omega) (by omega) f1
      · exact ⟨C1, rfl, f1⟩
theorem m_entL {k : Nat} {C : zA} {l : List Int32} (b : zB) (hk : k < 100) (hl : l.length ≤ 10) : M_entersLesson (nI k) (mT C l) b = okV (mT C (l ++ [nI (k / 6), nI (k % 6)])) b := by
  rw [q_M_entersLesson, d60, cond_false, krem hk, kdiv hk, m_ent (by omega), zcV_ok, cond_false, m_ent (by rw [List.length_append]; show l.length + 1 < 40; omega), zcV_ok, List.append_assoc]
  exact okV_ret _ _
theorem x_tellL {k : Nat} {A : zA} {l : List Int32} (b : zB) (hk : k < 100) (hl : l.length ≤ 10) : X_tellLesson (nI k) (xT A l) b = okV (xT A (l ++ [nI (k / 6), nI (k % 6)])) b := by
  rw [q_X_tellLesson, d60, cond_false, krem hk, kdiv hk, x_tell (by omega), zcV_ok, cond_false, x_tell (by rw [List.length_append]; show l.length + 1 < 32; omega), zcV_ok, List.append_assoc]
  exact okV_ret _ _
def lsR (k : Nat) : List Int32 := [nI (k / 6), nI (k % 6)]
theorem m_two {P Q T W S : Nat} {a C0 : zA} {R : Nat → Nat → Bool} (b : zB) (hP : P ≤ 5) (hQ : Q ≤ 5) (h : vw P Q T W S a C0) (hR : R = fR W S (a 8 3) (a 10) Q (ALL P Q)) : ∀ n k C, k + n = 6 * P → FV C C0 → (∃ k' m C', fiN (r2B a P Q R (fAb P a)) n k = some k' ∧ fiN (r1B a P Q R (lsF a (fAb P a) k')) (6 * P - (k' + 1)) (k' + 1) = some m ∧ M_lessons_78 (nI k) C b = okI 2 (mT C' (lsR k' ++ lsR m)) b ∧ FV C' C0) ∨ (fiN (r2B a P Q R (fAb P a)) n k = none ∧ ∃ C', M_lessons_78 (nI k) C b = okI (-2) C' b ∧ FV C' C0) := by
  intro n
  induction n with
  | zero =>
    intro k C e hF
    have vC := vw_FV h hF
    refine .inr ⟨rfl, C, ?_, hF⟩
    rw [q_M_lessons_78, vC.2.1.1.2, show (6 : Int32) * nI P = nI (6 * P) from pk_mul 6 P, zcond_f (nI_nlt (by omega) (by omega))]
    exact okI_ret _ _ _
  | succ n ih =>
    intro k C e hF
    have vC := vw_FV h hF
    have hk : k < 6 * P := by omega
    have k208 : ∀ C, M_lessons_208 (nI k) C b = M_lessons_78 (nI (k + 1)) C b := fun C => by rw [q_M_lessons_208, nI_1]
    rw [q_M_lessons_78, vC.2.1.1.2, show (6 : Int32) * nI P = nI (6 * P) from pk_mul 6 P, zcond_t (nI_lt hk (by omega)), m_isL b vC hP hk, zcI_ok, zc_b0, k208]
    rw [show fiN (r2B a P Q R (fAb P a)) (n + 1) k = cond (r2B a P Q R (fAb P a) k) (some k) (fiN (r2B a P Q R (fAb P a)) n (k + 1)) from rfl]
    cases c : isL a k
    · rw [show r2B a P Q R (fAb P a) k = false by unfold r2B; rw [c]; rfl]
      exact ih (k + 1) C (by omega) hF
    · obtain ⟨C1, y1, y2⟩ := m_inner (R := R) b hP hQ vC hR hk (6 * P - (k + 1)) (k + 1) (lsC C k) (by omega) (by omega) (FV_r _)
      have uf := FV_t (un_FV vC hk c y2) hF
      rw [cond_true, d60, cond_false, cond_false, krem (by omega), kdiv (by omega), zin_nI (n := 10) (by omega) (by decide), cond_true, cond_true, show (nI (k / 6)).toNatClampNeg = k / 6 from nI_clamp (by omega), nI_1, show M_lessons_124 (nI k) (-1) (nI (k + 1)) (zup C 196 (k / 6) (C 196 (k / 6) ||| (1 <<< (nI (k % 6) &&& 31)))) b = _ from y1, q_M_lessons_167, d60, cond_false, cond_false, krem (by omega), kdiv (by omega), zin_nI (n := 10) (by omega) (by decide), cond_true, cond_true, show (nI (k / 6)).toNatClampNeg = k / 6 from nI_clamp (by omega), show zup C1 196 (k / 6) (C1 196 (k / 6) &&& ((1 <<< (nI (k % 6) &&& 31)) ^^^ (-1))) = unC C1 k from rfl, k208]
      cases g : fiN (r1B a P Q R (lsF a (fAb P a) k)) (6 * P - (k + 1)) (k + 1) with
      | none =>
        rw [show r2B a P Q R (fAb P a) k = false by unfold r2B; rw [c, g]; rfl, show Option.elim none (-1) nI = -1 from rfl, zcond_t (show (-1 : Int32) < 0 by decide)]
        exact ih (k + 1) (unC C1 k) (by omega) uf
      | some m =>
        have hm := (fi_some _ _ _ g).2.1
        have t2 := m_entL (C := unC C1 k) (l := lsR k) b (show m < 100 by omega) (Nat.le_of_ble_eq_true rfl)
        rw [show r2B a P Q R (fAb P a) k = true by unfold r2B; rw [c, g]; rfl, show Option.elim (some m) (-1) nI = nI m from rfl, zcond_f (nI_pos (by omega)), mT_0, m_entL (l := []) b (show k < 100 by omega) (by decide), zcV_ok, show [] ++ [nI (k / 6), nI (k % 6)] = lsR k from rfl, t2, zcV_ok]
        exact .inl ⟨k, m, unC C1 k, rfl, g, okI_ret _ _ _, uf⟩
theorem m_one {P Q T W S : Nat} {a C0 : zA} {R : Nat → Nat → Bool} (b : zB) (hP : P ≤ 5) (hQ : Q ≤ 5) (h : vw P Q T W S a C0) (hR : R = fR W S (a 8 3) (a 10) Q (ALL P Q)) : ∀ n k C, k + n = 6 * P → FV C C0 → (∃ k' C', fiN (r1B a P Q R (fAb P a)) n k = some k' ∧ M_lessons_31 (nI k) C b = okI 1 (mT C' (lsR k')) b ∧ FV C' C0) ∨ (fiN (r1B a P Q R (fAb P a)) n k = none ∧ ∃ C', M_lessons_31 (nI k) C b = M_lessons_78 0 C' b ∧ FV C' C0) := by
  intro n
  induction n with
  | zero =>
    intro k C e hF
    have vC := vw_FV h hF
    refine .inr ⟨rfl, C, ?_, hF⟩
    rw [q_M_lessons_31, vC.2.1.1.2, show (6 : Int32) * nI P = nI (6 * P) from pk_mul 6 P, zcond_f (nI_nlt (by omega) (by omega))]
  | succ n ih =>
    intro k C e hF
    have vC := vw_FV h hF
    have hk : k < 6 * P := by omega
    have k70 : ∀ C, M_lessons_70 (nI k) C b = M_lessons_31 (nI (k + 1)) C b := fun C => by rw [q_M_lessons_70, nI_1]
    rw [q_M_lessons_31, vC.2.1.1.2, show (6 : Int32) * nI P = nI (6 * P) from pk_mul 6 P, zcond_t (nI_lt hk (by omega)), m_isL b vC hP hk, zcI_ok, zc_b0, k70]
    unfold fiN
    cases c : isL a k
    · rw [show r1B a P Q R (fAb P a) k = false by unfold r1B; rw [c]; rfl]
      exact ih (k + 1) C (by omega) hF
    · obtain ⟨C1, y1, y2⟩ := m_does (R := R) b hP hQ vC hR hk c
      have ed : r1B a P Q R (fAb P a) k = dB P Q R (lsF a (fAb P a) k) := by unfold r1B; rw [c]; rfl
      have f1 := FV_t y2 hF
      rw [cond_true, y1, zcI_ok, zc_b0, ed, k70]
      cases d : dB P Q R (lsF a (fAb P a) k)
      · exact ih (k + 1) C1 (by omega) f1
      · rw [cond_true, mT_0, m_entL (l := []) b (show k < 100 by omega) (by decide), zcV_ok]
        exact .inl ⟨k, C1, rfl, okI_ret _ _ _, f1⟩
theorem r_lessons {L : Nat} {xs : Nat → Int32} : zAns (Rel L xs) X_lessons M_lessons := by
  intro a b hr
  obtain ⟨P, Q, T, G, N, hall⟩ := id hr
  obtain ⟨W, S, hv⟩ := vw_mask hall
  obtain ⟨⟨g1, g2, g3, g4, g5⟩, ⟨⟨p1, p2⟩, ⟨q1, q2⟩, -⟩, -⟩ := id hv
  by_cases cf : P ≤ 5 ∧ Q ≤ 5
  · obtain ⟨hP, hQ⟩ := cf
    obtain ⟨A, b1, y1, y2, y3⟩ := x_graph b hv hP hQ
    have fA := FXA_B y2
    have vA : vw P Q T W S A a := vw_s hv (FXA_s fA)
    obtain ⟨R, eR⟩ : ∃ R, R = fR W S (A 8 3) (A 10) Q (ALL P Q) := ⟨_, rfl⟩
    have y3' : GX Q (ALL P Q) R A b1 := by rw [eR, congrFun (fA 8 (by decide)) 3, fA 10 (by decide)]; exact y3
    -- the reference, from any memory that shows the same
    have eM : ∀ (Y : zA) (bb : zB), (∀ q, 194 ≤ q → q ≤ 210 → q ≠ 195 → Y q = a q) → ∃ (C : zA) (v : Int32), M_lessons Y bb = cond (decide (0 < v)) (okI 0 (mT C []) bb) (M_lessons_31 0 C bb) ∧ decide (0 < v) = dB P Q R (fAb P A) ∧ vw P Q T W S A (zup Y 194 0 0) ∧ FV C (zup Y 194 0 0) := fun Y bb hY => by
      have vY : vw P Q T W S A (zup Y 194 0 0) := vw_c vA (fun j hj => (zup_nj (by rintro rfl; exact kf_0 hj)).trans (congrFun (hY 194 (by decide) (by decide) (by decide)) j)) (fun q h1 h2 => (zup_row (by omega)).trans (hY q (by omega) h2 (by omega)))
      obtain ⟨C, v, w1, w2, w3⟩ := m_dB (R := R) bb hP hQ vY eR
      refine ⟨C, v, ?_, w2, vY, w3⟩
      rw [q_M_lessons, m_fewY hv hP hQ hY, zcI_ok, zcond_f (show ¬ (1 : Int32) = 0 by decide), w1, zcI_ok, mT_0]
      rfl
    have hY0 : ∀ (A' : zA) (l : List Int32), FXA A' a → ∀ q, 194 ≤ q → q ≤ 210 → q ≠ 195 → (xT A' l) q = a q := fun A' l h q h1 h2 h3 => by rw [xT_q (by omega)]; exact h q (by omega)
    have start : ∀ r A' b', R_fewestLessons A b1 = okI r A' b' → ∀ z, z = cond (decide (r < 0)) (okI (-2) A' b') (zcV (X_clearRow A' b') (fun a4 b4 => cond (decide (0 < r)) (zcV (X_tellLesson (a4 35 0) a4 b4) (fun a5 b5 => X_lessons_54 r a5 b5)) (X_lessons_54 r a4 b4))) → X_lessons a b = z := fun r A' b' h z hz => by
      rw [hz, q_X_lessons, x_fewY hv hP hQ, zcI_ok, zcond_f (show ¬ (1 : Int32) = 0 by decide), y1, zcV_ok, h, zcI_ok]
      rfl
    have k70 : ∀ v A b, X_lessons_70 v A b = okI v A b := fun v A b => by rw [q_X_lessons_70]; exact okI_ret _ _ _
    have fin : ∀ (r : Int32) (A' : zA) (b' : zB) (l : List Int32) (C : zA), FXA A' a → l.length ≤ 32 → X_lessons a b = okI r (xT A' l) b' → M_lessons (xT A' l) b' = okI r (mT C l) b' → FV C (zup (xT A' l) 194 0 0) → ∃ v a1 b1 a2 b2, X_lessons a b = okI v a1 b1 ∧ (∀ j, a1 0 j = a 0 j) ∧ M_lessons a1 b1 = okI v a2 b2 ∧ Rel L xs a2 b2 := fun r A' b' l C h1 h2 h3 h4 h5 => ⟨r, _, _, _, _, h3, fun j => by rw [xT_q (by decide)]; exact congrFun (h1 0 (by decide)) j, h4, rel_tell (l := l) (m := zmask a) hall h2 (by rw [xT_m, FXA_m h1]) (by rw [mT_m, FV_m h5])⟩
    rcases x_fewest vA hP hQ b1 y3' with ⟨c0, b2, u1⟩ | ⟨c0, h⟩
    · obtain ⟨C, v, w1, w2, w3, w4⟩ := eM (xT A []) b2 (hY0 A [] fA)
      refine fin 0 A b2 [] C fA (by decide) (start _ _ _ u1 _ ?_) ?_ w4
      · rw [zcond_f (show ¬ (0 : Int32) < 0 by decide), x_clear, zcV_ok, zcond_f (show ¬ (0 : Int32) < 0 by decide), q_X_lessons_54, zcond_f (show ¬ (1 : Int32) < 0 by decide), k70]
      · rw [w1, w2, c0]; rfl
    · have f0 : ∀ w q, fAb P A w q = true → fAb P A w q = true := fun _ _ h => h
      have e1 : fiN (c1B A P Q R (fAb P A)) (6 * P) 0 = fiN (r1B A P Q R (fAb P A)) (6 * P) 0 := fi_c _ _ (fun k _ hk => c1_r1 (by omega) f0 c0)
      rw [e1] at h
      rcases h with ⟨k, b2, h1, u1⟩ | ⟨h1, h⟩
      · have hk := (fi_some _ _ _ h1).2.1
        have fA' : FXA (zup A 35 0 (nI k)) a := FXA_t fA (fun q hq => zup_row (by omega))
        obtain ⟨C, v, w1, w2, w3, w4⟩ := eM (xT (zup A 35 0 (nI k)) (lsR k)) b2 (hY0 _ _ fA')
        rcases m_one b2 hP hQ w3 eR (6 * P) 0 C (Nat.zero_add _) w4 with ⟨k', C', z1, z2, z3⟩ | ⟨z1, -⟩
        · rw [h1] at z1
          have : k = k' := Option.some.inj z1
          subst this
          refine fin 1 _ b2 (lsR k) C' fA' (Nat.le_of_ble_eq_true rfl) (start _ _ _ u1 _ ?_) ?_ z3
          · rw [zcond_f (show ¬ (1 : Int32) < 0 by decide), x_clear, zcV_ok, zcond_t (show (0 : Int32) < 1 by decide), show xT (zup A 35 0 (nI k)) [] 35 0 = nI k from (congrFun (xT_q (by decide)) 0).trans (zup_eq _ _ _ _), x_tellL (l := []) b2 (show k < 100 by omega) (by decide), zcV_ok, q_X_lessons_54, zcond_f (show ¬ (1 : Int32) < 1 by decide), k70]
            rfl
          · rw [w1, w2, c0]; exact z2
        · rw [h1] at z1
          exact absurd z1 (by simp)
      · have no := fi_no _ _ h1
        have no' : ∀ m, m < 6 * P → r1B A P Q R (fAb P A) m = false := fun m hm => no m (Nat.zero_le _) (by omega)
        have e2 : fiN (c2B A P Q R (fAb P A)) (6 * P) 0 = fiN (r2B A P Q R (fAb P A)) (6 * P) 0 := fi_c _ _ (fun k _ hk => (c2_r2 (by omega) no').1)
        rcases h with ⟨k, m, b2, h2, h3, u1⟩ | ⟨h2, b2, u1⟩
        · have hk := (fi_some _ _ _ h2).2.1
          have hm := (fi_some _ _ _ h3).2.1
          have e3 := (c2_r2 (k := k) (by omega) no').2 (fi_some _ _ _ h2).2.2
          rw [e2] at h2
          rw [e3] at h3
          have fA' : FXA (zup (zup A 35 1 (nI m)) 35 0 (nI k)) a := FXA_t fA (fun q hq => (zup_row (by omega)).trans (zup_row (by omega)))
          obtain ⟨C, v, w1, w2, w3, w4⟩ := eM (xT (zup (zup A 35 1 (nI m)) 35 0 (nI k)) (lsR k ++ lsR m)) b2 (hY0 _ _ fA')
          rcases m_one b2 hP hQ w3 eR (6 * P) 0 C (Nat.zero_add _) w4 with ⟨k', C', z1, z2, z3⟩ | ⟨z1, C', z2, z3⟩
          · rw [h1] at z1
            exact absurd z1 (by simp)
          · rcases m_two b2 hP hQ w3 eR (6 * P) 0 C' (Nat.zero_add _) z3 with ⟨k', m', C2, v1, v2, v3, v4⟩ | ⟨v1, -⟩
            · rw [h2] at v1
              have : k = k' := Option.some.inj v1
              subst this
              rw [h3] at v2
              have : m = m' := Option.some.inj v2
              subst this
              refine fin 2 _ b2 (lsR k ++ lsR m) C2 fA' (Nat.le_of_ble_eq_true rfl) (start _ _ _ u1 _ ?_) ?_ v4
              · rw [zcond_f (show ¬ (2 : Int32) < 0 by decide), x_clear, zcV_ok, zcond_t (show (0 : Int32) < 2 by decide), show xT (zup (zup A 35 1 (nI m)) 35 0 (nI k)) [] 35 0 = nI k from (congrFun (xT_q (by decide)) 0).trans (zup_eq _ _ _ _), x_tellL (l := []) b2 (show k < 100 by omega) (by decide), zcV_ok, q_X_lessons_54, zcond_t (show (1 : Int32) < 2 by decide), show [] ++ [nI (k / 6), nI (k % 6)] = lsR k from rfl, show xT (zup (zup A 35 1 (nI m)) 35 0 (nI k)) (lsR k) 35 1 = nI m from (congrFun (xT_q (by decide)) 1).trans ((zup_nj (by decide)).trans (zup_eq _ _ _ _)), x_tellL (l := lsR k) b2 (show m < 100 by omega) (Nat.le_of_ble_eq_true rfl), zcV_ok, k70]
                rfl
              · rw [w1, w2, c0]
                exact (show M_lessons_31 0 C b2 = _ from z2).trans v3
            · rw [h2] at v1
              exact absurd v1 (by simp)
        · rw [e2] at h2
          obtain ⟨C, v, w1, w2, w3, w4⟩ := eM A b2 (fun q e1 e2 e3 => fA q (by omega))
          rcases m_one b2 hP hQ w3 eR (6 * P) 0 C (Nat.zero_add _) w4 with ⟨k', C', z1, z2, z3⟩ | ⟨z1, C', z2, z3⟩
          · rw [h1] at z1
            exact absurd z1 (by simp)
          · rcases m_two b2 hP hQ w3 eR (6 * P) 0 C' (Nat.zero_add _) z3 with ⟨k', m', C2, v1, v2, v3, v4⟩ | ⟨v1, C2, v2, v3⟩
            · rw [h2] at v1
              exact absurd v1 (by simp)
            · refine ⟨-2, A, b2, C2, b2, start _ _ _ u1 _ (by rw [zcond_t (show (-1 : Int32) < 0 by decide)]), fun j => congrFun (fA 0 (by decide)) j, ?_, rel_same (a := a) (b := b) hr ?_⟩
              · rw [w1, w2, c0]
                exact (show M_lessons_31 0 C b2 = _ from z2).trans v2
              · rw [FV_m v3, FXA_m fA]
  · obtain ⟨f1, f2⟩ := few_no (b := b) hv cf
    refine ans_thr hr (-3) ?_ ?_
    · rw [q_X_lessons, f1, zcI_ok, zcond_t rfl]; exact okI_ret _ _ _
    · rw [q_M_lessons, f2, zcI_ok, zcond_t rfl]; exact okI_ret _ _ _
