/-! What ever, round, lasts, lessons and most share; the call ever. -/
theorem x_few {P Q : Nat} {a : zA} {b : zB} (p1 : a 2 0 = nI P) (q1 : a 2 1 = nI Q) (hP : P ≤ 10) (hQ : Q ≤ 10) : R_isFew a b = okI (bI (decide (P ≤ 5 ∧ Q ≤ 5))) a b := by
  have fX : ∀ x : Bool, R_isFew_27 (bI x) a b = okI (bI x) a b := fun x => by
    rw [q_R_isFew_27]
    cases x
    · exact okI_ret _ _ _
    · exact okI_ret _ _ _
  rw [q_R_isFew, p1, q1, q_R_isFew_26, show R_isFew_27 0 a b = okI (bI false) a b from fX false, show R_isFew_27 1 a b = okI (bI true) a b from fX true]
  by_cases c1 : 5 < P
  · rw [zcond_t (show (5 : Int32) < nI P from nI_lt (a := 5) c1 (by omega)), decide_eq_false (show ¬ (P ≤ 5 ∧ Q ≤ 5) by omega)]
  · rw [zcond_f (show ¬ (5 : Int32) < nI P from nI_nlt (a := 5) (by omega) (by decide))]
    by_cases c2 : 5 < Q
    · rw [zcond_t (show (5 : Int32) < nI Q from nI_lt (a := 5) c2 (by omega)), decide_eq_false (show ¬ (P ≤ 5 ∧ Q ≤ 5) by omega)]
    · rw [zcond_f (show ¬ (5 : Int32) < nI Q from nI_nlt (a := 5) (by omega) (by decide)), decide_eq_true (show P ≤ 5 ∧ Q ≤ 5 by omega)]
theorem m_few {P Q : Nat} {a : zA} {b : zB} (p1 : a 194 3 = nI P) (q1 : a 194 7 = nI Q) (hP : P ≤ 10) (hQ : Q ≤ 10) : M_isFew a b = okI (bI (decide (P ≤ 5 ∧ Q ≤ 5))) a b := by
  have fX : ∀ x : Bool, M_isFew_21 (bI x) a b = okI (bI x) a b := fun x => by
    rw [q_M_isFew_21]
    cases x
    · exact okI_ret _ _ _
    · exact okI_ret _ _ _
  rw [q_M_isFew, p1, q1, q_M_isFew_20, show M_isFew_21 0 a b = okI (bI false) a b from fX false, show M_isFew_21 1 a b = okI (bI true) a b from fX true]
  by_cases c1 : 5 < P
  · rw [zcond_t (show (5 : Int32) < nI P from nI_lt (a := 5) c1 (by omega)), decide_eq_false (show ¬ (P ≤ 5 ∧ Q ≤ 5) by omega)]
  · rw [zcond_f (show ¬ (5 : Int32) < nI P from nI_nlt (a := 5) (by omega) (by decide))]
    by_cases c2 : 5 < Q
    · rw [zcond_t (show (5 : Int32) < nI Q from nI_lt (a := 5) c2 (by omega)), decide_eq_false (show ¬ (P ≤ 5 ∧ Q ≤ 5) by omega)]
    · rw [zcond_f (show ¬ (5 : Int32) < nI Q from nI_nlt (a := 5) (by omega) (by decide)), decide_eq_true (show P ≤ 5 ∧ Q ≤ 5 by omega)]
theorem zm_o {A a : zA} (h : ∀ q j, zfr q j = false → A q j = a q j) : zmask A = zmask a := by
  funext q j
  unfold zmask
  cases c : zfr q j
  · exact h q j c
  · rfl
theorem zrng_t {lo hi q : Nat} (h : lo ≤ q) (g : q ≤ hi) : zrng lo hi q = true := by
  unfold zrng
  rw [Nat.ble_eq_true_of_le h, Nat.ble_eq_true_of_le g]
  rfl
theorem zfr_mid {q j : Nat} (h : 34 ≤ q) (g : q ≤ 170) : zfr q j = true := by
  unfold zfr zor
  rw [zbeq_f (show q ≠ 194 by omega), zbeq_f (show q ≠ 27 by omega), zrng_f (lo := 21) (hi := 25) (q := q) (by omega), zrng_f (lo := 28) (hi := 32) (q := q) (by omega), zrng_t h g]
  rfl
theorem zfr_hi {q j : Nat} (h : 216 ≤ q) (g : q ≤ 232) : zfr q j = true := by
  unfold zfr zor
  rw [zbeq_f (show q ≠ 194 by omega), zbeq_f (show q ≠ 27 by omega), zrng_f (lo := 21) (hi := 25) (q := q) (by omega), zrng_f (lo := 28) (hi := 32) (q := q) (by omega), zrng_f (lo := 34) (hi := 170) (q := q) (by omega), zbeq_f (show q ≠ 172 by omega), zrng_f (lo := 211) (hi := 214) (q := q) (by omega), zrng_t h g]
  rfl
/-- the class's scratch of rounds alone -/
def FXA (A a : zA) : Prop := ∀ q, q < 34 ∨ 170 < q → A q = a q
theorem FXA_B {A a : zA} (h : FB A a) : FXA A a := fun q hq => h q (by omega) (by omega) (by omega) (by omega)
theorem FXA_m {A a : zA} (h : FXA A a) : zmask A = zmask a := zm_o fun q j hf => by
  by_cases c : q < 34 ∨ 170 < q
  · rw [h q c]
  · rw [zfr_mid (by omega) (by omega)] at hf
    exact absurd hf (by decide)
theorem FXA_s {A a : zA} (h : FXA A a) : sameX A a := fun q h1 h2 => h q (by omega)
theorem FV_m {C Y : zA} (h : FV C (zup Y 194 0 0)) : zmask C = zmask Y := zm_o fun q j hf => by
  by_cases c : q = 194
  · subst c
    by_cases d : j = 47
    · rw [d] at hf; exact absurd hf (by decide)
    · rw [h.2 j d]
      by_cases d2 : j = 0
      · rw [d2] at hf; exact absurd hf (by decide)
      · exact zup_nj d2
  · by_cases d : 221 ≤ q ∧ q ≤ 228
    · rw [zfr_hi (by omega) (by omega)] at hf
      exact absurd hf (by decide)
    · rw [h.1 q c d, zup_row c]
/-- who can, of PEOPLE -/
def fAb (P : Nat) (a : zA) (w p : Nat) : Bool := decide (w < P) && yAble a w p
theorem mHas_vw {P Q T W S : Nat} {a C0 : zA} (b : zB) (hv : vw P Q T W S a C0) : mHas P Q W S (a 8 3) (a 10) (fAb P a) C0 b := by
  obtain ⟨-, ⟨⟨-, p2⟩, ⟨-, q2⟩, -, ⟨-, w2⟩, -, s2⟩, ⟨f2, n2, -⟩, -⟩ := id hv
  refine ⟨p2, q2, w2, s2, f2.symm, fun p hp => (n2 p hp).1.symm, fun C hC w p hw hp => ?_⟩
  have hv' : vw P Q T W S a C := vw_c hv (fun j hj => hC.2 j (by unfold kf at hj; omega)) (fun q h1 h2 => hC.1 q (by omega) (by omega) (by omega))
  rw [v_ableM hv' hw hp]
  unfold fAb
  rw [decide_eq_true hw, Bool.true_and]
theorem x_graph {P Q T W S : Nat} {a c : zA} (b : zB) (hv : vw P Q T W S a c) (hP : P ≤ 5) (hQ : Q ≤ 5) : ∃ A b1, R_build a b = okV A b1 ∧ FB A a ∧ GX Q (ALL P Q) (fR W S (a 8 3) (a 10) Q (ALL P Q)) A b1 := by
  obtain ⟨⟨-, -, -, w9, s9⟩, ⟨⟨p1, -⟩, ⟨q1, -⟩, -, ⟨w1, -⟩, s1, -⟩, -⟩ := id hv
  obtain ⟨A, b1, y1, y2, y3⟩ := x_build b hP hQ p1 q1 w1 w9 s1 s9
  exact ⟨A, b1, y1, y2, y3⟩
theorem all_lt5 {P Q : Nat} (hP : P ≤ 5) : ∀ i, i < (ALL P Q).length → ∀ q, q < Q → nd (ALL P Q) i q < 5 := fun i hi q hq => by
  have : nd (ALL P Q) i q < P := enN_lt Q 0 0 _ (nd_mem hi) q (Nat.zero_le _) (by omega)
  omega
/-- which nodes are in use -/
def okU (P Q : Nat) (f : Nat → Nat → Bool) (n : Nat) : Bool := okN f 0 Q (nd (ALL P Q) n)
theorem x_use {P Q : Nat} {l : List (Nat → Nat)} {R : Nat → Nat → Bool} {A : zA} {b : zB} {x : Int32} {f : Nat → Nat → Bool} (hP : P ≤ 5) (hQ : Q ≤ 5) (el : l = ALL P Q) (hG : GX Q l R A b) (hx : pB x (fun q w => decide (q < Q) && f w q)) : ∃ b', R_useBy x A b = okV A b' ∧ UB l.length (okU P Q f) b' ∧ nxB l.length R b' ∧ ∀ q, q ≠ 41 → b' q = b q := by
  subst el
  obtain ⟨g1, g2, g3⟩ := hG
  obtain ⟨b', y1, y2, y3⟩ := x_useBy (f := f) b (all_120 hP hQ) hQ (all_lt5 hP) g1.1 g2 hx (fun q w hq _ => by rw [decide_eq_true hq, Bool.true_and])
  exact ⟨b', y1, y2, nx_f g3 (fun q hq => y3 q (by omega)), y3⟩
theorem x_ableF {P Q T W S : Nat} {a c : zA} {b : zB} (hv : vw P Q T W S a c) (hP : P ≤ 5) (hQ : Q ≤ 5) : ∃ y, R_ableBits a b = okI y a b ∧ pB y (fun q w => decide (q < Q) && fAb P a w q) := by
  obtain ⟨y, y1, y2⟩ := x_ableB (b := b) hv hP hQ
  exact ⟨y, y1, pB_c y2 (fun q w _ _ => Bool.and_assoc _ _ _)⟩
theorem GX_t {Q : Nat} {l : List (Nat → Nat)} {R : Nat → Nat → Bool} {A A' : zA} {b b' : zB} (h : GX Q l R A b) (hA : ∀ q, 35 ≤ q → q ≤ 39 → A' q = A q) (hb : ∀ q, 48 ≤ q → b' q = b q) : GX Q l R A' b' := by
  obtain ⟨⟨g1, g2⟩, g3, g4⟩ := h
  refine ⟨⟨?_, fun i hi q hq => ?_⟩, fun i hi => ?_, nx_f g4 hb⟩
  · rw [hA 35 (by decide) (by decide)]; exact g1
  · rw [hA 37 (by decide) (by decide)]; exact g2 i hi q hq
  · rw [hA 38 (by decide) (by decide), hA 39 (by decide) (by decide)]; exact g3 i hi
/-- the reference's numbers among the class's -/
theorem emb_lst (P Q : Nat) (f : Nat → Nat → Bool) : ∃ e, embO (ALL P Q).length (LST f P Q).length (okU P Q f) e ∧ ∀ k, k < (LST f P Q).length → nd (LST f P Q) k = nd (ALL P Q) (e k) := by
  rw [lst_all]
  exact emb_of (okN f 0 Q) (ALL P Q)
theorem fR_emb {W S Q : Nat} {F : Int32} {N : Nat → Int32} {l l' : List (Nat → Nat)} {e : Nat → Nat} {m : Nat} (h : ∀ k, k < m → nd l' k = nd l (e k)) : ∀ k k', k < m → k' < m → fR W S F N Q l' k k' = fR W S F N Q l (e k) (e k') := fun k k' h1 h2 => by
  have e1 : ∀ k, k < m → VL l' k = VL l (e k) := fun k hk => by
    funext q
    unfold VL
    rw [h k hk]
  unfold fR
  rw [e1 k h1, e1 k' h2]
theorem x_used {N : Nat} {U : Nat → Bool} {A : zA} {b : zB} (hN : N ≤ 120) (h : UB N U b) : R_used A b = okI (nI (cnt U N)) A b := by
  rw [q_R_used, k_size kc_41, zcI_ok, cnt_128 hN h]
  exact okI_ret _ _ _
theorem x_lasting {P Q : Nat} {l : List (Nat → Nat)} {R : Nat → Nat → Bool} {A : zA} {b : zB} {x : Int32} {f : Nat → Nat → Bool} (hP : P ≤ 5) (hQ : Q ≤ 5) (el : l = ALL P Q) (hG : GX Q l R A b) (hx : pB x (fun q w => decide (q < Q) && f w q)) : ∃ b' U', R_lasting x A b = okI (nI (cnt U' l.length)) A b' ∧ GF l.length R (okU P Q f) U' ∧ GX Q l R A b' := by
  have hl : l.length ≤ 120 := by rw [el]; exact all_120 hP hQ
  obtain ⟨b1, y1, y2, y3, y4⟩ := x_use hP hQ el hG hx
  obtain ⟨b', U', z1, z2, z3, z4⟩ := x_last hl hG.1.1 120 0 (okU P Q f) b1 (Nat.le_trans (cnt_le _ _) hl) (Nat.le_refl _) y3 y2
  refine ⟨b', U', ?_, z2, GX_t hG (fun _ _ _ => rfl) (fun q hq => (z4 q (by omega)).trans (y4 q (by omega)))⟩
  rw [q_R_lasting, y1, zcV_ok]
  exact z1
theorem ever_eq {P Q W S : Nat} {F : Int32} {N : Nat → Int32} {f : Nat → Nat → Bool} {U' G : Nat → Bool} (h1 : GF (ALL P Q).length (fR W S F N Q (ALL P Q)) (okU P Q f) U') (h2 : GF (LST f P Q).length (fR W S F N Q (LST f P Q)) (fun _ => true) G) : cnt U' (ALL P Q).length = cnt G (LST f P Q).length := by
  obtain ⟨e, he, hn⟩ := emb_lst P Q f
  exact gf_emb he (fR_emb hn) (fun _ _ => rfl) h1 h2
theorem used_eq (P Q : Nat) (f : Nat → Nat → Bool) : cnt (okU P Q f) (ALL P Q).length = (LST f P Q).length := by
  obtain ⟨e, he, -⟩ := emb_lst P Q f
  have := emb_cnt (g := fun _ => true) _ _ he
  rw [cnt_all] at this
  rw [← this]
  exact cnt_c _ (fun i _ => (Bool.and_true _).symm)
theorem r_ever {L : Nat} {xs : Nat → Int32} : zAns (Rel L xs) X_ever M_ever := by
  intro a b hr
  obtain ⟨P, Q, T, G, N, hall⟩ := id hr
  obtain ⟨W, S, hv⟩ := vw_mask hall
  obtain ⟨⟨g1, g2, g3, g4, g5⟩, ⟨⟨p1, p2⟩, ⟨q1, q2⟩, -⟩, -⟩ := id hv
  by_cases cf : P ≤ 5 ∧ Q ≤ 5
  · obtain ⟨hP, hQ⟩ := cf
    have fX : R_isFew a b = okI 1 a b := (x_few p1 q1 g1 g2).trans (by rw [decide_eq_true (show P ≤ 5 ∧ Q ≤ 5 from ⟨hP, hQ⟩)]; rfl)
    obtain ⟨A, b1, y1, y2, y3⟩ := x_graph b hv hP hQ
    have fA := FXA_B y2
    have vA : vw P Q T W S A a := vw_s hv (FXA_s fA)
    obtain ⟨y, z1, z2⟩ := x_ableF (b := b1) vA hP hQ
    obtain ⟨b2, u1, u2, u3, u4⟩ := x_use hP hQ rfl y3 z2
    have us := x_used (A := A) (all_120 hP hQ) u2
    rw [used_eq] at us
    obtain ⟨l, el⟩ : ∃ l : List Int32, l = [nI (LST (fAb P A) P Q).length] := ⟨_, rfl⟩
    have gT : GX Q (ALL P Q) (fR W S (a 8 3) (a 10) Q (ALL P Q)) (xT A l) b2 := GX_t y3 (fun q h1 h2 => xT_q (by omega)) (fun q hq => u4 q (by omega))
    obtain ⟨b3, U', w1, w2, -⟩ := x_lasting hP hQ rfl gT z2
    have eX : X_ever a b = okI (nI (cnt U' (ALL P Q).length)) (xT A l) b3 := by
      rw [q_X_ever, fX, zcI_ok, zcond_f (show ¬ (1 : Int32) = 0 by decide), y1, zcV_ok, z1, zcI_ok, u1, zcV_ok, us, zcI_ok, x_clear, zcV_ok, x_t0, zcV_ok, ← el, w1, zcI_ok]
      exact okI_ret _ _ _
    obtain ⟨Y, hY⟩ : ∃ Y, Y = zup (xT A l) 194 0 0 := ⟨_, rfl⟩
    have yq : ∀ q, 196 ≤ q → q ≤ 210 → Y q = a q := fun q h1 h2 => by rw [hY, zup_row (by omega), xT_q (by omega)]; exact fA q (by omega)
    have y194 : ∀ j, j ≠ 0 → Y 194 j = a 194 j := fun j hj => by rw [hY, zup_nj hj, xT_q (by decide)]; exact congrFun (fA 194 (by decide)) j
    have vY : vw P Q T W S A Y := vw_c vA (fun j hj => y194 j (by unfold kf at hj; omega)) yq
    have fM : M_isFew Y b3 = okI 1 Y b3 := (m_few vY.2.1.1.2 vY.2.1.2.1.2 g1 g2).trans (by rw [decide_eq_true (show P ≤ 5 ∧ Q ≤ 5 from ⟨hP, hQ⟩)]; rfl)
    obtain ⟨C, H, c1, c2, c3, c4⟩ := m_everG hP hQ g4 g5 (mHas_vw b3 vY)
    have eA : A 8 3 = a 8 3 := congrFun (fA 8 (by decide)) 3
    have eN : A 10 = a 10 := fA 10 (by decide)
    rw [eA, eN] at c4
    have ee := ever_eq w2 c4
    have eM : M_ever (xT A l) b3 = okI (nI (cnt U' (ALL P Q).length)) (mT C l) b3 := by
      rw [q_M_ever, ← hY, fM, zcI_ok, zcond_f (show ¬ (1 : Int32) = 0 by decide), c1, zcI_ok, mT_0, mT_j (by decide), c3, m_e0, zcV_ok, ← el, ee]
      exact okI_ret _ _ _
    refine ⟨_, xT A l, b3, mT C l, b3, eX, fun j => ?_, eM, rel_tell (l := l) (m := zmask a) hall (by rw [el]; show 1 ≤ 32; decide) (by rw [xT_m, FXA_m fA]) (by rw [mT_m, FV_m (Y := xT A l) (by rw [← hY]; exact c2)])⟩
    rw [xT_q (by decide)]
    exact congrFun (fA 0 (by decide)) j
  · refine ans_thr hr (-3) ?_ ?_
    · rw [q_X_ever, x_few p1 q1 g1 g2, decide_eq_false cf, zcI_ok, zcond_t (show bI false = 0 from rfl)]; exact okI_ret _ _ _
    · rw [q_M_ever, m_few (a := zup a 194 0 0) (by rw [zup_nj (by decide)]; exact p2) (by rw [zup_nj (by decide)]; exact q2) g1 g2, decide_eq_false cf, zcI_ok, zcond_t (show bI false = 0 from rfl)]; exact okI_ret _ _ _
