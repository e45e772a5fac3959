/-! What class and reference show of the same house, rule and days; who may be where, by both. -/
theorem zrng_f {lo hi q : Nat} (h : q < lo ∨ hi < q) : zrng lo hi q = false := by
  unfold zrng
  rcases h with h | h
  · rw [show Nat.ble lo q = false from Bool.eq_false_iff.mpr fun z => by have := Nat.le_of_ble_eq_true z; omega]
    rfl
  · rw [show Nat.ble q hi = false from Bool.eq_false_iff.mpr fun z => by have := Nat.le_of_ble_eq_true z; omega]
    cases Nat.ble lo q <;> rfl
theorem zbeq_f {x y : Nat} (h : x ≠ y) : Nat.beq x y = false := Bool.eq_false_iff.mpr fun z => h (Nat.eq_of_beq_eq_true z)
theorem zfr_lo {q j : Nat} (h : q ≤ 20 ∨ (173 ≤ q ∧ q ≤ 210 ∧ q ≠ 194)) : zfr q j = false := by
  unfold zfr zor
  rw [zbeq_f (show q ≠ 194 by omega), zbeq_f (show q ≠ 27 by omega), zbeq_f (show q ≠ 172 by omega), zrng_f (lo := 21) (hi := 25) (q := q) (by omega), zrng_f (lo := 28) (hi := 32) (q := q) (by omega), zrng_f (lo := 34) (hi := 170) (q := q) (by omega), zrng_f (lo := 211) (hi := 214) (q := q) (by omega), zrng_f (lo := 216) (hi := 232) (q := q) (by omega)]
  rfl
theorem zm_lo {a : zA} {q : Nat} (h : q ≤ 20 ∨ (173 ≤ q ∧ q ≤ 210 ∧ q ≠ 194)) : zmask a q = a q := by
  funext j
  unfold zmask
  rw [zfr_lo h]
  rfl
/-- fields of the reference that its Watch reads -/
def kf (j : Nat) : Prop := j = 3 ∨ j = 7 ∨ j = 15 ∨ (17 ≤ j ∧ j ≤ 19) ∨ j = 21
theorem zm_kf {a : zA} {j : Nat} (h : kf j) : zmask a 194 j = a 194 j := by
  have : zfr 194 j = false := by
    rcases h with rfl | rfl | rfl | h | rfl
    · rfl
    · rfl
    · rfl
    · have : j = 17 ∨ j = 18 ∨ j = 19 := by omega
      rcases this with rfl | rfl | rfl <;> rfl
    · rfl
  unfold zmask
  rw [this]
  rfl
def rAw (m A W F U : Nat → Int32) : Prop := ∃ K, K ≤ 10 ∧ m 21 = nI K ∧ (∀ k, k < K → ∃ p f t, p < 10 ∧ f ≤ t ∧ t < 100 ∧ W k = nI p ∧ F k = nI f ∧ U k = nI t) ∧ ∀ p d, p < 10 → d < 100 → (A (100 * p + d) = 0 ∨ A (100 * p + d) = 1) ∧ (A (100 * p + d) = 1 ↔ ∃ k f t, k < K ∧ t < 100 ∧ W k = nI p ∧ F k = nI f ∧ U k = nI t ∧ f ≤ d ∧ d ≤ t)
def vNum (P Q T W S : Nat) (a c : zA) : Prop := (a 2 0 = nI P ∧ c 194 3 = nI P) ∧ (a 2 1 = nI Q ∧ c 194 7 = nI Q) ∧ (a 12 6 = nI T ∧ c 194 15 = nI T) ∧ (a 9 0 = nI W ∧ c 194 17 = nI W) ∧ a 9 1 = nI S ∧ c 194 18 = nI S
def vHouse (P Q : Nat) (a c : zA) : Prop := rSame P 1 9 (a 3) (c 197) ∧ rSame Q (-1) 5 (a 4) (c 199) ∧ rSame Q 0 1 (a 5) (c 200) ∧ rSame Q 1 9 (a 6) (c 201) ∧ rSame Q 0 10 (a 7) (c 202)
def vw (P Q T W S : Nat) (a c : zA) : Prop := (P ≤ 10 ∧ Q ≤ 10 ∧ T ≤ 60 ∧ W ≤ 9 ∧ S ≤ 9) ∧ vNum P Q T W S a c ∧ (a 8 3 = c 194 19 ∧ rSame 10 0 1023 (a 10) (c 207) ∧ rAw (c 194) (a 11) (c 208) (c 209) (c 210)) ∧ rDays P Q T (a 13) (c 206) (fun p => c 206 (630 + p)) ∧ vHouse P Q a c ∧ rCraft P (a 17) (c 196) (a 18) (c 198)
theorem nI_of9 {x : Int32} (h : 0 ≤ x) (h9 : x ≤ 9) : ∃ n, n ≤ 9 ∧ x = nI n := by
  obtain ⟨n, hn, e⟩ := nI_of2 (M := 9) (n := 9) (by decide) (show ¬ x < 0 from fun z => by rw [Int32.lt_iff_toInt_lt] at z; rw [Int32.le_iff_toInt_le] at h; omega) h9
  exact ⟨n, hn, e⟩
theorem vw_of {L : Nat} {xs : Nat → Int32} {P Q T G N : Nat} {m a c : zA} (h : rAll L xs P Q T G N m) (ha : ∀ q, 2 ≤ q → q ≤ 18 → a q = m q) (hc : ∀ j, kf j → c 194 j = m 194 j) (hd : ∀ q, 196 ≤ q → q ≤ 210 → c q = m q) : ∃ W S, vw P Q T W S a c := by
  obtain ⟨-, ⟨⟨n1, n2, n3⟩, ⟨n4, n5, n6⟩, ⟨n7, n8, n9⟩, -⟩, hH, hC, hD, -, ⟨⟨r1, r2, r3⟩, ⟨r4, r5, r6⟩, ⟨r7, -⟩, r8, r9⟩, -⟩ := h
  obtain ⟨W, w1, w2⟩ := nI_of9 r2 r3
  obtain ⟨S, s1, s2⟩ := nI_of9 r5 r6
  refine ⟨W, S, ⟨n3, n6, n9, w1, s1⟩, ⟨⟨?_, ?_⟩, ⟨?_, ?_⟩, ⟨?_, ?_⟩, ⟨?_, ?_⟩, ?_, ?_⟩, ⟨?_, ?_, ?_⟩, ?_, ?_, ?_⟩
  · rw [ha 2 (by decide) (by decide)]; exact n1
  · rw [hc 3 (by unfold kf; omega)]; exact n2
  · rw [ha 2 (by decide) (by decide)]; exact n4
  · rw [hc 7 (by unfold kf; omega)]; exact n5
  · rw [ha 12 (by decide) (by decide)]; exact n7
  · rw [hc 15 (by unfold kf; omega)]; exact n8
  · rw [ha 9 (by decide) (by decide)]; exact w2
  · rw [hc 17 (by unfold kf; omega), ← r1]; exact w2
  · rw [ha 9 (by decide) (by decide)]; exact s2
  · rw [hc 18 (by unfold kf; omega), ← r4]; exact s2
  · rw [ha 8 (by decide) (by decide), hc 19 (by unfold kf; omega)]; exact r7
  · rw [ha 10 (by decide) (by decide), hd 207 (by decide) (by decide)]; exact r8
  · obtain ⟨K, k1, k2, k3⟩ := r9
    rw [ha 11 (by decide) (by decide), hd 208 (by decide) (by decide), hd 209 (by decide) (by decide), hd 210 (by decide) (by decide)]
    exact ⟨K, k1, (hc 21 (by unfold kf; omega)).trans k2, k3⟩
  · rw [ha 13 (by decide) (by decide), hd 206 (by decide) (by decide)]; exact hD
  · unfold vHouse
    rw [ha 3 (by decide) (by decide), ha 4 (by decide) (by decide), ha 5 (by decide) (by decide), ha 6 (by decide) (by decide), ha 7 (by decide) (by decide), hd 197 (by decide) (by decide), hd 199 (by decide) (by decide), hd 200 (by decide) (by decide), hd 201 (by decide) (by decide), hd 202 (by decide) (by decide)]; exact hH
  · rw [ha 17 (by decide) (by decide), ha 18 (by decide) (by decide), hd 196 (by decide) (by decide), hd 198 (by decide) (by decide)]; exact hC
/-- both out of one memory, and what changed beside -/
theorem vw_mask {L : Nat} {xs : Nat → Int32} {P Q T G N : Nat} {a : zA} (h : rAll L xs P Q T G N (zmask a)) : ∃ W S, vw P Q T W S a a :=
  vw_of h (fun q h1 h2 => (zm_lo (.inl (by omega))).symm) (fun j hj => (zm_kf hj).symm) (fun q h1 h2 => (zm_lo (.inr (by omega))).symm)
theorem vw_x {P Q T W S : Nat} {a a' c : zA} (h : vw P Q T W S a c) (ha : ∀ q, 2 ≤ q → q ≤ 18 → a' q = a q) : vw P Q T W S a' c := by
  obtain ⟨h1, ⟨⟨n1, n2⟩, ⟨n3, n4⟩, ⟨n5, n6⟩, ⟨n7, n8⟩, n9, n10⟩, ⟨r1, r2, r3⟩, hD, ⟨u1, u2, u3, u4, u5⟩, hC⟩ := h
  refine ⟨h1, ⟨⟨?_, n2⟩, ⟨?_, n4⟩, ⟨?_, n6⟩, ⟨?_, n8⟩, ?_, n10⟩, ⟨?_, ?_, ?_⟩, ?_, ⟨?_, ?_, ?_, ?_, ?_⟩, ?_⟩
  · rw [ha 2 (by decide) (by decide)]; exact n1
  · rw [ha 2 (by decide) (by decide)]; exact n3
  · rw [ha 12 (by decide) (by decide)]; exact n5
  · rw [ha 9 (by decide) (by decide)]; exact n7
  · rw [ha 9 (by decide) (by decide)]; exact n9
  · rw [ha 8 (by decide) (by decide)]; exact r1
  · rw [ha 10 (by decide) (by decide)]; exact r2
  · rw [ha 11 (by decide) (by decide)]; exact r3
  · rw [ha 13 (by decide) (by decide)]; exact hD
  · rw [ha 3 (by decide) (by decide)]; exact u1
  · rw [ha 4 (by decide) (by decide)]; exact u2
  · rw [ha 5 (by decide) (by decide)]; exact u3
  · rw [ha 6 (by decide) (by decide)]; exact u4
  · rw [ha 7 (by decide) (by decide)]; exact u5
  · rw [ha 17 (by decide) (by decide), ha 18 (by decide) (by decide)]; exact hC
theorem vw_c {P Q T W S : Nat} {a c c' : zA} (h : vw P Q T W S a c) (hc : ∀ j, kf j → c' 194 j = c 194 j) (hd : ∀ q, 196 ≤ q → q ≤ 210 → c' q = c q) : vw P Q T W S a c' := by
  obtain ⟨h1, ⟨⟨n1, n2⟩, ⟨n3, n4⟩, ⟨n5, n6⟩, ⟨n7, n8⟩, n9, n10⟩, ⟨r1, r2, r3⟩, hD, ⟨u1, u2, u3, u4, u5⟩, hC⟩ := h
  refine ⟨h1, ⟨⟨n1, ?_⟩, ⟨n3, ?_⟩, ⟨n5, ?_⟩, ⟨n7, ?_⟩, n9, ?_⟩, ⟨?_, ?_, ?_⟩, ?_, ⟨?_, ?_, ?_, ?_, ?_⟩, ?_⟩
  · rw [hc 3 (by unfold kf; omega)]; exact n2
  · rw [hc 7 (by unfold kf; omega)]; exact n4
  · rw [hc 15 (by unfold kf; omega)]; exact n6
  · rw [hc 17 (by unfold kf; omega)]; exact n8
  · rw [hc 18 (by unfold kf; omega)]; exact n10
  · rw [hc 19 (by unfold kf; omega)]; exact r1
  · rw [hd 207 (by decide) (by decide)]; exact r2
  · obtain ⟨K, k1, k2, k3⟩ := r3
    rw [hd 208 (by decide) (by decide), hd 209 (by decide) (by decide), hd 210 (by decide) (by decide)]
    exact ⟨K, k1, (hc 21 (by unfold kf; omega)).trans k2, k3⟩
  · rw [hd 206 (by decide) (by decide)]; exact hD
  · rw [hd 197 (by decide) (by decide)]; exact u1
  · rw [hd 199 (by decide) (by decide)]; exact u2
  · rw [hd 200 (by decide) (by decide)]; exact u3
  · rw [hd 201 (by decide) (by decide)]; exact u4
  · rw [hd 202 (by decide) (by decide)]; exact u5
  · rw [hd 196 (by decide) (by decide), hd 198 (by decide) (by decide)]; exact hC
theorem vw_row {P Q T W S : Nat} {a c : zA} (h : vw P Q T W S a c) : ∀ e, e ≤ T → rowOk P Q (xE a e) := by
  obtain ⟨⟨-, -, hT, -⟩, -, -, ⟨-, -, d3, d4, d5⟩, -⟩ := h
  intro e he
  exact ⟨fun p hp => d3 e p he hp, fun p p' h1 h2 h3 h4 => d4 e p p' he h1 h2 h3 h4, fun p h1 h2 => d5 e p (by omega) h2 (.inr h1)⟩
theorem vw_E {P Q T W S : Nat} {a c : zA} (h : vw P Q T W S a c) {d : Nat} (hd : d ≤ T) : ∀ e q, e < d → q < Q → c 206 (10 * e + q) = xE a e q := by
  obtain ⟨-, -, -, ⟨d1, -⟩, -⟩ := h
  intro e q h1 h2
  exact (d1 e q (by omega) h2).symm
/-- why one may not be at a post on a day -/
def yWhy (a : zA) (T W Q w p d : Nat) : Int32 := whyX (!decide (a 11 (100 * w + d) = 0)) (hB (a 8 3) p) (thereB (xE a) T W p d w) (decide (0 < d) && (decide (d ≤ T) && fromB (xE a) (a 10) Q p d w))
theorem v_whyX {P Q T W S w p d : Nat} {a c : zA} {b : zB} (hv : vw P Q T W S a c) (hw : w < P) (hp : p < 10) (hd : d ≤ 99) : W_whyNot (nI w) (nI p) (nI d) a b = okI (yWhy a T W Q w p d) a b := by
  have hr := vw_row hv
  obtain ⟨⟨h1, h2, h3, h4, h5⟩, ⟨-, -, ⟨h6, -⟩, ⟨h7, -⟩, -⟩, -⟩ := hv
  exact x_why h3 hd hw hp h1 h2 h6 h7 h4 (fun e g => hr e (by omega))
theorem v_away {P Q T W S w d : Nat} {a c : zA} (hv : vw P Q T W S a c) (hw : w < 10) (hd : d < 100) {K : Nat} (hk : c 194 21 = nI K) (hK : K ≤ 10) : aF (fun k => decide (c 208 k = nI w) && (!decide (nI d < c 209 k) && !decide (c 210 k < nI d))) 0 K = !decide (a 11 (100 * w + d) = 0) := by
  obtain ⟨-, -, ⟨-, -, K', k1, k2, k3, k4⟩, -⟩ := hv
  have e : K' = K := (nI_eq (by omega) (by omega)).mp (k2.symm.trans hk)
  subst e
  obtain ⟨g1, g2⟩ := k4 w d hw hd
  have g3 : (!decide (a 11 (100 * w + d) = 0)) = true ↔ a 11 (100 * w + d) = 1 := by
    rcases g1 with g | g
    · rw [g]; decide
    · rw [g]; decide
  rw [Bool.eq_iff_iff, g3, aF_i, g2]
  constructor
  · rintro ⟨k, _, h1, h2⟩
    obtain ⟨p, f, t, q1, q2, q4, q3, q5, q6⟩ := k3 k (by omega)
    simp only [Bool.and_eq_true, decide_eq_true_iff, Bool.not_eq_true', decide_eq_false_iff_not] at h2
    obtain ⟨h2, h3, h4⟩ := h2
    refine ⟨k, f, t, by omega, q4, h2, q5, q6, ?_, ?_⟩
    · rw [q5, nI_ltI (by omega) (by omega)] at h3; omega
    · rw [q6, nI_ltI (by omega) (by omega)] at h4; omega
  · rintro ⟨k, f, t, h1, h0, h2, h3, h4, h5, h6⟩
    refine ⟨k, Nat.zero_le _, by omega, ?_⟩
    simp only [Bool.and_eq_true, decide_eq_true_iff, Bool.not_eq_true', decide_eq_false_iff_not]
    refine ⟨h2, ?_, ?_⟩
    · rw [h3, nI_ltI (by omega) (by omega)]; omega
    · rw [h4, nI_ltI (by omega) (by omega)]; omega
