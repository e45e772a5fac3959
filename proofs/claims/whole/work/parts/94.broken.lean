/-! broken. -/
theorem yWhy_k (a : zA) (T W Q w p d : Nat) : ∃ k, k ≤ 3 ∧ yWhy a T W Q w p d = nI k := by
  unfold yWhy whyX
  cases decide (a 11 (100 * w + d) = 0) <;> cases thereB (xE a) T W p d w <;> cases hB (a 8 3) p <;> cases (decide (0 < d) && (decide (d ≤ T) && fromB (xE a) (a 10) Q p d w)) <;> first | exact ⟨0, by decide, rfl⟩ | exact ⟨1, by decide, rfl⟩ | exact ⟨2, by decide, rfl⟩ | exact ⟨3, by decide, rfl⟩
def gS (k : Nat) (pr : Bool) (g : Nat → Int32) : Nat → Int32 := fun j => (if j = k then g j + 1 else g j) + bI (decide (j = 4) && pr)
theorem gS_x {k : Nat} {pr : Bool} {g : Nat → Int32} {a : zA} (hk : k ≤ 3) : cond pr (zup (zup (zfn a 172 10 g) 172 k (g k + 1)) 172 4 (zup (zfn a 172 10 g) 172 k (g k + 1) 172 4 + 1)) (zup (zfn a 172 10 g) 172 k (g k + 1)) = zfn a 172 10 (gS k pr g) := by
  rw [zfn_up (show k < 10 by omega), zfn_j (show 4 < 10 by decide), zfn_up (show 4 < 10 by decide), if_neg (by omega)]
  cases pr
  · refine zfn_c fun j hj => ?_
    unfold gS
    rw [Bool.and_false]
    show (if j = k then g k + 1 else g j) = (if j = k then g j + 1 else g j) + 0
    rw [Int32.add_zero]
    by_cases e : j = k
    · rw [if_pos e, if_pos e, e]
    · rw [if_neg e, if_neg e]
  · refine zfn_c fun j hj => ?_
    unfold gS
    show (if j = 4 then g 4 + 1 else if j = k then g k + 1 else g j) = (if j = k then g j + 1 else g j) + bI (decide (j = 4) && true)
    by_cases e : j = 4
    · subst e
      rw [if_pos rfl, if_neg (by omega)]
      rfl
    · rw [if_neg e, decide_eq_false e]
      show (if j = k then g k + 1 else g j) = (if j = k then g j + 1 else g j) + 0
      rw [Int32.add_zero]
      by_cases e : j = k
      · rw [if_pos e, if_pos e, e]
      · rw [if_neg e, if_neg e]
theorem x_brk {P Q T W S d p : Nat} {a c : zA} {b : zB} {g : Nat → Int32} (hv : vw P Q T W S a c) (hd : d < T) (hp : p < Q) {k : Nat} (hk : k ≤ 3) (hw : cond (decide (xE a d p = -1)) 0 (yWhy a T W Q (yNat (xE a d p)) p d) = nI k) : X_broken_23 (nI d) (nI p) (zfn a 172 10 g) b = X_broken_23 (nI d) (nI (p + 1)) (zfn a 172 10 (gS k (yPair a Q T S d p) g)) b := by
  obtain ⟨g1, g2, g3, g4, g5⟩ := hv.1
  have q1 : zfn a 172 10 g 2 1 = nI Q := (congrFun (zfn_q (by decide)) 1).trans hv.2.1.2.1.1
  have sx : ∀ m, sameX (zfn a 172 10 m) a := fun m q h1 h2 => zfn_q (by omega)
  have h63 : X_broken_63 (nI d) (nI p) (nI k) (zfn a 172 10 g) b = X_broken_23 (nI d) (nI (p + 1)) (zfn a 172 10 (gS k (yPair a Q T S d p) g)) b := by
    have l1 : k < 10 := by omega
    have e1 := v_pair (a := zfn a 172 10 (fun j => if j = k then g k + 1 else g j)) (b := b) (vw_s hv (sx _)) hp (show d ≤ T by omega)
    rw [yPair_s (sx _), ← zfn_up l1] at e1
    rw [q_X_broken_63, ← gS_x hk]
    simp (disch := omega) only [zqA0, zqB0, zqC0, zqD0, zqE0, zqF0, zqG0, zqH0, zqA1, zqB1, zqC1, zqD1, zqE1, zqF1, zqG1, zqH1, zqA2, zqB2, zqC2, zqD2, zqE2, zqF2, zqG2, zqH2, zqA3, zqB3, zqC3, zqD3, zqE3, zqF3, zqG3, zqH3, zqA4, zqB4, zqC4, zqD4, zqE4, zqF4, zqG4, zqH4, zqA5, zqB5, zqC5, zqD5, zqE5, zqF5, zqG5, zqH5, zqA6, zqB6, zqC6, zqD6, zqE6, zqF6, zqG6, zqH6, zqA8, zqB8, zqC8, zqD8, zqE8, zqF8, zqG8, zqH8, zqA9, zqB9, zqC9, zqD9, zqE9, zqF9, zqG9, zqH9, zqA10, zqB10, zqC10, zqD10, zqE10, zqF10, zqG10, zqH10, zqA11, zqB11, zqC11, zqD11, zqE11, zqF11, zqG11, zqH11, zqA16, zqB16, zqC16, zqD16, zqE16, zqF16, zqG16, zqH16, zqA18, zqB18, zqC18, zqD18, zqE18, zqF18, zqG18, zqH18, zqA20, zqB20, zqC20, zqD20, zqE20, zqF20, zqG20, zqH20, zqA60, zqB60, zqC60, zqD60, zqE60, zqF60, zqG60, zqH60, zqA63, zqB63, zqC63, zqD63, zqE63, zqF63, zqG63, zqH63, zqA80, zqB80, zqC80, zqD80, zqE80, zqF80, zqG80, zqH80, zqA100, zqB100, zqC100, zqD100, zqE100, zqF100, zqG100, zqH100, zqA120, zqB120, zqC120, zqD120, zqE120, zqF120, zqG120, zqH120, zqA630, zqB630, zqC630, zqD630, zqE630, zqF630, zqG630, zqH630, zqA1000, zqB1000, zqC1000, zqD1000, zqE1000, zqF1000, zqG1000, zqH1000, zqA1010, zqB1010, zqC1010, zqD1010, zqE1010, zqF1010, zqG1010, zqH1010, zqA5000, zqB5000, zqC5000, zqD5000, zqE5000, zqF5000, zqG5000, zqH5000, zz_p01, zz_p02, zz_p03, zz_p04, zz_p05, zz_p06, zz_p10, zz_p12, zz_p13, zz_p14, zz_p15, zz_p16, zz_p20, zz_p21, zz_p23, zz_p24, zz_p25, zz_p26, zz_p30, zz_p31, zz_p32, zz_p34, zz_p35, zz_p36, zz_p40, zz_p41, zz_p42, zz_p43, zz_p45, zz_p46, zz_p50, zz_p51, zz_p52, zz_p53, zz_p54, zz_p56, zz_p60, zz_p61, zz_p62, zz_p63, zz_p64, zz_p65, zz_q1, zz_w1, zz_q2, zz_w2, zz_q3, zz_w3, zz_q4, zz_w4, zz_q5, zz_w5, zz_q6, zz_w6, zz_w0, zz_m1, zz_lt, zz_01, zz_le, zz_eq, zz_n1, zz_in, zz_cl, zz_max, zz_min, zz_minN, zz_maxN, zz_02, zz_12, zz_c0, zz_c1, zz_b0, zz_b1, zz_bb, zz_d00, zz_d10, zz_neg, nI_add, pk_mul, zc_b0, zc_b1, cond_true, cond_false, zcI_ok, zcV_ok, okI_ret, okV_ret, zz_sub, zcond_t, zcond_f, bI_t, bI_f, eq_self, decide_true, decide_false, Bool.false_or, Bool.true_or, Bool.or_false, Bool.or_true, Bool.and_true, Bool.true_and, Bool.and_false, Bool.false_and, Bool.not_true, Bool.not_false, if_true, if_false]
    rw [zfn_j l1, e1, zcI_ok, zc_b0]
    cases yPair a Q T S d p
    · rw [cond_false, cond_false, q_X_broken_98, nI_1]
    · rw [cond_true, cond_true, q_X_broken_98, nI_1]
      rfl
  rw [q_X_broken_23, q1, zcond_t (nI_lt hp (by omega)), s_onePlaced (by omega) (by omega), zcI_ok, zfn_q (by decide), show a 13 (10 * d + p) = xE a d p from rfl]
  rcases (vw_row hv d (by omega)).1 p hp with e1 | ⟨w, hw1, e1⟩
  · rw [e1] at hw ⊢
    have : nI k = 0 := hw.symm
    rw [zcond_t rfl, ← this]
    exact h63
  · rw [e1, yNat_e (by omega), decide_eq_false (nI_m1 (by omega)), cond_false] at hw
    have e2 := v_whyX (a := zfn a 172 10 g) (b := b) (vw_s hv (sx _)) hw1 (show p < 10 by omega) (show d ≤ 99 by omega)
    rw [yWhy_s (sx _), hw] at e2
    rw [e1, zcond_f (nI_m1 (by omega)), e2, zcI_ok]
    exact h63
def hS (k : Nat) (pr : Bool) (h : Nat → Int32) : Nat → Int32 := fun j => if j = 3 then h 3 + bI pr else if j = 2 then h 2 + bI (decide (k = 3)) else if j = 1 then h 1 + bI (decide (k = 2)) else if j = 0 then h 0 + bI (decide (k = 1)) else h j
theorem hS_g {k : Nat} {pr : Bool} {g : Nat → Int32} (hk : k ≤ 3) : ∀ j, j < 4 → hS k pr (fun j => g (j + 1)) j = gS k pr g (j + 1) := by
  intro j hj
  have z : ∀ (x : Int32) (m : Nat), m ≤ 3 → x + bI (decide (k = m)) = (if m = k then x + 1 else x) + bI (decide (m = 4) && pr) := by
    intro x m hm
    rw [decide_eq_false (show ¬ m = 4 by omega), Bool.false_and]
    show _ = (if m = k then x + 1 else x) + 0
    rw [Int32.add_zero]
    by_cases e : k = m
    · rw [decide_eq_true e, if_pos e.symm]
      rfl
    · rw [decide_eq_false e, if_neg (fun y => e y.symm)]
      exact Int32.add_zero _
  have : j = 0 ∨ j = 1 ∨ j = 2 ∨ j = 3 := by omega
  rcases this with rfl | rfl | rfl | rfl
  · exact z (g 1) 1 (by decide)
  · exact z (g 2) 2 (by decide)
  · exact z (g 3) 3 (by decide)
  · show g 4 + bI pr = (if 4 = k then g 4 + 1 else g 4) + bI (true && pr)
    rw [if_neg (by omega), Bool.true_and]
theorem m_brk {P Q T W S d p : Nat} {a c : zA} {b : zB} {h : Nat → Int32} (hv : vw P Q T W S a c) (h0 : v0 c) (hd : d < T) (hp : p < Q) {k : Nat} (hk : k ≤ 3) (hw : cond (decide (xE a d p = -1)) 0 (yWhy a T W Q (yNat (xE a d p)) p d) = nI k) : M_broken_39 (nI d) (nI p) (zfn c 216 4 h) b = M_broken_39 (nI d) (nI (p + 1)) (zfn c 216 4 (hS k (yPair a Q T S d p) h)) b := by
  obtain ⟨g1, g2, g3, g4, g5⟩ := hv.1
  have hvm : ∀ m, vw P Q T W S a (zfn c 216 4 m) := fun m => vw_fn hv (by omega)
  have v0m : ∀ m, v0 (zfn c 216 4 m) := fun m => v0_fn h0 (by decide)
  have hR := vw_row hv
  have on : ∀ m q, q < Q → M_on (nI d) (nI q) (zfn c 216 4 m) b = okI (xE a d q) (zfn c 216 4 m) b := fun m q hq => by
    rw [s_on (by omega), vw_E (hvm m) (show d ≤ T by omega) |> fun _ => show zfn c 216 4 m 206 (10 * d + q) = xE a d q from vw_E (hvm m) (Nat.le_refl T) d q hd hq]
  have z04 : zin 0 4 = true := rfl
  have z14 : zin 1 4 = true := rfl
  have z24 : zin 2 4 = true := rfl
  have z34 : zin 3 4 = true := rfl
  have st0 : ∀ f w, M_broken_88 (nI d) (nI p) (nI w) (nI k) 0 (h 0) (bI f) (zfn c 216 4 h) b = M_broken_108 (nI d) (nI p) (nI w) (nI k) 1 (h 1) (bI (decide (k = 2))) (zfn c 216 4 (fun i => if i = 0 then h 0 + bI f else h i)) b := by
    intro f w
    rw [q_M_broken_88, m_flag, zcI_ok, z04, z14, cond_true, cond_true, show (0 : Int32).toNatClampNeg = 0 from rfl, show (1 : Int32).toNatClampNeg = 1 from rfl, zfn_up (show 0 < 4 by decide), zfn_j (show 1 < 4 by decide), if_neg (by decide)]
    by_cases e : k = 2
    · rw [zcond_t (show nI k = 2 by rw [e]; rfl), decide_eq_true e]
      rfl
    · rw [zcond_f (show ¬ nI k = 2 from fun z => e ((nI_eq (by omega) (by decide)).mp (show nI k = nI 2 from z))), decide_eq_false e]
      rfl
  have st1 : ∀ f w x (h : Nat → Int32), M_broken_108 (nI d) (nI p) (nI w) (nI k) 1 x (bI f) (zfn c 216 4 h) b = M_broken_128 (nI d) (nI p) (nI w) 2 (h 2) (bI (decide (k = 3))) (zfn c 216 4 (fun i => if i = 1 then x + bI f else h i)) b := by
    intro f w x h
    rw [q_M_broken_108, m_flag, zcI_ok, z14, z24, cond_true, cond_true, show (1 : Int32).toNatClampNeg = 1 from rfl, show (2 : Int32).toNatClampNeg = 2 from rfl, zfn_up (show 1 < 4 by decide), zfn_j (show 2 < 4 by decide), if_neg (by decide)]
    by_cases e : k = 3
    · rw [zcond_t (show nI k = 3 by rw [e]; rfl), decide_eq_true e]
      rfl
    · rw [zcond_f (show ¬ nI k = 3 from fun z => e ((nI_eq (by omega) (by decide)).mp (show nI k = nI 3 from z))), decide_eq_false e]
      rfl
  have st2 : ∀ f w x (h : Nat → Int32), M_broken_128 (nI d) (nI p) (nI w) 2 x (bI f) (zfn c 216 4 h) b = M_broken_149 (nI d) (nI p) (nI w) (cond (decide (0 < p)) (xE a d (p - 1)) (-1)) (zfn c 216 4 (fun i => if i = 2 then x + bI f else h i)) b := by
    intro f w x h
    rw [q_M_broken_128, m_flag, zcI_ok, z24, cond_true, show (2 : Int32).toNatClampNeg = 2 from rfl, zfn_up (show 2 < 4 by decide)]
    by_cases e : 0 < p
    · rw [decide_eq_true e, zcond_f (fun z => by rw [show (0 : Int32) = nI 0 from rfl, nI_eq (by omega) (by omega)] at z; omega), show nI p - 1 = nI (p - 1) from pk_sub (b := 1) e, on _ (p - 1) (by omega), zcI_ok]
      rfl
    · rw [decide_eq_false e, zcond_t (show nI p = 0 by rw [show p = 0 by omega]; rfl)]
      rfl
  have nx : ∀ (h : Nat → Int32) x, M_broken_182 (nI d) (nI p) (zup (zfn c 216 4 h) 216 3 x) b = M_broken_39 (nI d) (nI (p + 1)) (zfn c 216 4 (fun i => if i = 3 then x else h i)) b := fun h x => by
    rw [q_M_broken_182, nI_1, zfn_up (show 3 < 4 by decide)]
  have st4 : ∀ f (h : Nat → Int32), M_broken_177 (nI d) (nI p) 3 (h 3) (bI f) (zfn c 216 4 h) b = M_broken_39 (nI d) (nI (p + 1)) (zfn c 216 4 (fun i => if i = 3 then h 3 + bI f else h i)) b := by
    intro f h
    rw [q_M_broken_177, m_flag, zcI_ok, z34, cond_true, show (3 : Int32).toNatClampNeg = 3 from rfl, nx]
  have st3 : ∀ w (h : Nat → Int32), w < P → xE a d p = nI w → M_broken_149 (nI d) (nI p) (nI w) (cond (decide (0 < p)) (xE a d (p - 1)) (-1)) (zfn c 216 4 h) b = M_broken_39 (nI d) (nI (p + 1)) (zfn c 216 4 (fun i => if i = 3 then h 3 + bI (yPair a Q T S d p) else h i)) b := by
    intro w h hw1 e1
    have st40 : M_broken_176 (nI d) (nI p) 3 (h 3) (zfn c 216 4 h) b = M_broken_39 (nI d) (nI (p + 1)) (zfn c 216 4 (fun i => if i = 3 then h 3 + bI false else h i)) b := by
      rw [q_M_broken_176]
      exact st4 false h
    rw [q_M_broken_149, z34, cond_true, show (3 : Int32).toNatClampNeg = 3 from rfl, zfn_j (show 3 < 4 by decide)]
    unfold yPair
    rw [e1, decide_eq_false (nI_m1 (w := w) (by omega)), yNat_e (by omega)]
    by_cases e : 0 < p
    · rw [decide_eq_true e, cond_true]
      rcases (hR d (by omega)).1 (p - 1) (by omega) with e2 | ⟨y, hy, e2⟩
      · rw [e2, zcond_t (by decide), st40]
        rfl
      · rw [e2, zcond_f (nI_pos (by omega)), v_bes (hvm h) (v0m h) (by omega) (by omega) (by omega), zcI_ok, zc_b0, decide_eq_false (nI_m1 (w := y) (by omega)), yNat_e (by omega)]
        cases metB (xE a) Q T S d y w
        · rw [Bool.not_false, cond_true, st40]
          rfl
        · rw [Bool.not_true, cond_false]
          exact st4 true h
    · rw [decide_eq_false e, cond_false, zcond_t (by decide), st40]
      rfl
  rw [q_M_broken_39, show zfn c 216 4 h 194 7 = nI Q from (hvm h).2.1.2.1.2, zcond_t (nI_lt hp (by omega)), on h p hp, zcI_ok]
  rcases (hR d (by omega)).1 p hp with e1 | ⟨w, hw1, e1⟩
  · rw [e1] at hw ⊢
    have k0 : k = 0 := (nI_eq (by omega) (by decide)).mp (show nI k = nI 0 from hw.symm)
    have pf : yPair a Q T S d p = false := by
      unfold yPair
      rw [e1, decide_eq_true rfl]
      cases decide (0 < p) <;> cases decide (xE a d (p - 1) = -1) <;> rfl
    rw [zcond_t (by decide), q_M_broken_182, nI_1, pf, k0]
    refine congrArg (fun m => M_broken_39 (nI d) (nI (p + 1)) m b) (zfn_c fun j hj => ?_)
    have : j = 0 ∨ j = 1 ∨ j = 2 ∨ j = 3 := by omega
    rcases this with rfl | rfl | rfl | rfl <;> exact (Int32.add_zero _).symm
  · rw [e1, yNat_e (by omega), decide_eq_false (nI_m1 (by omega)), cond_false] at hw
    have e2 := v_why (b := b) (hvm h) (v0m h) hw1 hp (show d ≤ T by omega)
    rw [hw] at e2
    have f1 : cond (decide (nI k = 1)) (M_broken_88 (nI d) (nI p) (nI w) (nI k) 0 (h 0) 1 (zfn c 216 4 h) b) (M_broken_88 (nI d) (nI p) (nI w) (nI k) 0 (h 0) 0 (zfn c 216 4 h) b) = M_broken_88 (nI d) (nI p) (nI w) (nI k) 0 (h 0) (bI (decide (k = 1))) (zfn c 216 4 h) b := by
      by_cases e : k = 1
      · rw [zcond_t (show nI k = 1 by rw [e]; rfl), decide_eq_true e]
        rfl
      · rw [zcond_f (show ¬ nI k = 1 from fun z => e ((nI_eq (by omega) (by decide)).mp (show nI k = nI 1 from z))), decide_eq_false e]
        rfl
    rw [e1, zcond_f (nI_pos (by omega)), e2, zcI_ok, z04, cond_true, show (0 : Int32).toNatClampNeg = 0 from rfl, zfn_j (show 0 < 4 by decide), f1, st0, st1, st2, st3 w _ hw1 e1]
    refine congrArg (fun m => M_broken_39 (nI d) (nI (p + 1)) m b) (zfn_c fun j hj => ?_)
    have : j = 0 ∨ j = 1 ∨ j = 2 ∨ j = 3 := by omega
    rcases this with rfl | rfl | rfl | rfl <;> rfl
theorem r_broken {L : Nat} {xs : Nat → Int32} : zAns (Rel L xs) X_broken M_broken := by
  intro a b hr
  obtain ⟨P, Q, T, G, N, hall⟩ := id hr
  obtain ⟨W, S, hv⟩ := vw_mask hall
  have h0 := v0_of hall
  obtain ⟨⟨g1, g2, g3, g4, g5⟩, ⟨⟨p1, p2⟩, ⟨q1, q2⟩, ⟨t1, t2⟩, -⟩, -⟩ := id hv
  have fq : ∀ g, zfn a 172 10 g 2 1 = nI Q := fun g => (congrFun (zfn_q (by decide)) 1).trans q1
  have ft : ∀ g, zfn a 172 10 g 12 6 = nI T := fun g => (congrFun (zfn_q (by decide)) 6).trans t1
  have inner : ∀ d, d < T → ∀ g0 p, p ≤ Q → ∃ g, X_broken_23 (nI d) 0 (zfn a 172 10 g0) b = X_broken_23 (nI d) (nI p) (zfn a 172 10 g) b ∧ ∀ c, vw P Q T W S a c → v0 c → M_broken_39 (nI d) 0 (zfn c 216 4 (fun j => g0 (j + 1))) b = M_broken_39 (nI d) (nI p) (zfn c 216 4 (fun j => g (j + 1))) b := by
    intro d hd g0 p
    induction p with
    | zero => intro _; exact ⟨g0, rfl, fun _ _ _ => rfl⟩
    | succ p ih =>
      intro hp
      obtain ⟨g, e1, e2⟩ := ih (by omega)
      obtain ⟨k, hk, hw⟩ : ∃ k, k ≤ 3 ∧ cond (decide (xE a d p = -1)) 0 (yWhy a T W Q (yNat (xE a d p)) p d) = nI k := by
        cases decide (xE a d p = -1)
        · exact yWhy_k _ _ _ _ _ _ _
        · exact ⟨0, by decide, rfl⟩
      refine ⟨gS k (yPair a Q T S d p) g, e1.trans (x_brk hv hd (by omega) hk hw), fun c hc hc0 => ?_⟩
      rw [e2 c hc hc0, m_brk hc hc0 hd (by omega) hk hw]
      exact congrArg (fun m => M_broken_39 (nI d) (nI (p + 1)) m b) (zfn_c (hS_g hk))
  have outer : ∀ d, d ≤ T → ∃ g, X_broken_10 0 (zfn a 172 10 (fun _ => 0)) b = X_broken_10 (nI d) (zfn a 172 10 g) b ∧ ∀ c, vw P Q T W S a c → v0 c → M_broken_29 0 (zfn c 216 4 (fun _ => 0)) b = M_broken_29 (nI d) (zfn c 216 4 (fun j => g (j + 1))) b := by
    intro d
    induction d with
    | zero => intro _; exact ⟨fun _ => 0, rfl, fun _ _ _ => rfl⟩
    | succ d ih =>
      intro hd
      obtain ⟨g, e1, e2⟩ := ih (by omega)
      obtain ⟨g', f1, f2⟩ := inner d (by omega) g Q (Nat.le_refl Q)
      refine ⟨g', ?_, fun c hc hc0 => ?_⟩
      · rw [e1, q_X_broken_10, ft, zcond_t (nI_lt (by omega) (by omega)), f1, q_X_broken_23, fq, zcond_f (nI_nlt (Nat.le_refl _) (by omega)), nI_1]
      · have kq : ∀ h, zfn c 216 4 h 194 7 = nI Q := fun h => (congrFun (zfn_q (by decide)) 7).trans hc.2.1.2.1.2
        have kt : ∀ h, zfn c 216 4 h 194 15 = nI T := fun h => (congrFun (zfn_q (by decide)) 15).trans hc.2.1.2.2.1.2
        rw [e2 c hc hc0, q_M_broken_29, kt, zcond_t (nI_lt (by omega) (by omega)), f2 c hc hc0, q_M_broken_39, kq, zcond_f (nI_nlt (Nat.le_refl _) (by omega)), nI_1]
  obtain ⟨g, e1, e2⟩ := outer T (Nat.le_refl T)
  have z4 : ∀ c, M_broken_12 0 c b = M_broken_29 0 (zfn c 216 4 (fun _ => 0)) b := by
    intro c
    have hs : ∀ i, i < 4 → M_broken_12 (nI i) (zfn c 216 i (fun _ => 0)) b = M_broken_12 (nI (i + 1)) (zfn c 216 (i + 1) (fun _ => 0)) b := by
      intro i hi
      rw [q_M_broken_12, ← zfn_s]
      simp (disch := omega) only [zqA0, zqB0, zqC0, zqD0, zqE0, zqF0, zqG0, zqH0, zqA1, zqB1, zqC1, zqD1, zqE1, zqF1, zqG1, zqH1, zqA2, zqB2, zqC2, zqD2, zqE2, zqF2, zqG2, zqH2, zqA3, zqB3, zqC3, zqD3, zqE3, zqF3, zqG3, zqH3, zqA4, zqB4, zqC4, zqD4, zqE4, zqF4, zqG4, zqH4, zqA5, zqB5, zqC5, zqD5, zqE5, zqF5, zqG5, zqH5, zqA6, zqB6, zqC6, zqD6, zqE6, zqF6, zqG6, zqH6, zqA8, zqB8, zqC8, zqD8, zqE8, zqF8, zqG8, zqH8, zqA9, zqB9, zqC9, zqD9, zqE9, zqF9, zqG9, zqH9, zqA10, zqB10, zqC10, zqD10, zqE10, zqF10, zqG10, zqH10, zqA11, zqB11, zqC11, zqD11, zqE11, zqF11, zqG11, zqH11, zqA16, zqB16, zqC16, zqD16, zqE16, zqF16, zqG16, zqH16, zqA18, zqB18, zqC18, zqD18, zqE18, zqF18, zqG18, zqH18, zqA20, zqB20, zqC20, zqD20, zqE20, zqF20, zqG20, zqH20, zqA60, zqB60, zqC60, zqD60, zqE60, zqF60, zqG60, zqH60, zqA63, zqB63, zqC63, zqD63, zqE63, zqF63, zqG63, zqH63, zqA80, zqB80, zqC80, zqD80, zqE80, zqF80, zqG80, zqH80, zqA100, zqB100, zqC100, zqD100, zqE100, zqF100, zqG100, zqH100, zqA120, zqB120, zqC120, zqD120, zqE120, zqF120, zqG120, zqH120, zqA630, zqB630, zqC630, zqD630, zqE630, zqF630, zqG630, zqH630, zqA1000, zqB1000, zqC1000, zqD1000, zqE1000, zqF1000, zqG1000, zqH1000, zqA1010, zqB1010, zqC1010, zqD1010, zqE1010, zqF1010, zqG1010, zqH1010, zqA5000, zqB5000, zqC5000, zqD5000, zqE5000, zqF5000, zqG5000, zqH5000, zz_p01, zz_p02, zz_p03, zz_p04, zz_p05, zz_p06, zz_p10, zz_p12, zz_p13, zz_p14, zz_p15, zz_p16, zz_p20, zz_p21, zz_p23, zz_p24, zz_p25, zz_p26, zz_p30, zz_p31, zz_p32, zz_p34, zz_p35, zz_p36, zz_p40, zz_p41, zz_p42, zz_p43, zz_p45, zz_p46, zz_p50, zz_p51, zz_p52, zz_p53, zz_p54, zz_p56, zz_p60, zz_p61, zz_p62, zz_p63, zz_p64, zz_p65, zz_q1, zz_w1, zz_q2, zz_w2, zz_q3, zz_w3, zz_q4, zz_w4, zz_q5, zz_w5, zz_q6, zz_w6, zz_w0, zz_m1, zz_lt, zz_01, zz_le, zz_eq, zz_n1, zz_in, zz_cl, zz_max, zz_min, zz_minN, zz_maxN, zz_02, zz_12, zz_c0, zz_c1, zz_b0, zz_b1, zz_bb, zz_d00, zz_d10, zz_neg, nI_add, pk_mul, zc_b0, zc_b1, cond_true, cond_false, zcI_ok, zcV_ok, okI_ret, okV_ret, zz_sub, zcond_t, zcond_f, bI_t, bI_f, eq_self, decide_true, decide_false, Bool.false_or, Bool.true_or, Bool.or_false, Bool.or_true, Bool.and_true, Bool.true_and, Bool.and_false, Bool.false_and, Bool.not_true, Bool.not_false, if_true, if_false]
    have h := lpC (F := fun i => M_broken_12 (nI i) (zfn c 216 i (fun _ => 0)) b) hs 4 0 rfl
    rw [zfn_0] at h
    refine Eq.trans h ?_
    rw [q_M_broken_12]
    simp (disch := omega) only [zqA0, zqB0, zqC0, zqD0, zqE0, zqF0, zqG0, zqH0, zqA1, zqB1, zqC1, zqD1, zqE1, zqF1, zqG1, zqH1, zqA2, zqB2, zqC2, zqD2, zqE2, zqF2, zqG2, zqH2, zqA3, zqB3, zqC3, zqD3, zqE3, zqF3, zqG3, zqH3, zqA4, zqB4, zqC4, zqD4, zqE4, zqF4, zqG4, zqH4, zqA5, zqB5, zqC5, zqD5, zqE5, zqF5, zqG5, zqH5, zqA6, zqB6, zqC6, zqD6, zqE6, zqF6, zqG6, zqH6, zqA8, zqB8, zqC8, zqD8, zqE8, zqF8, zqG8, zqH8, zqA9, zqB9, zqC9, zqD9, zqE9, zqF9, zqG9, zqH9, zqA10, zqB10, zqC10, zqD10, zqE10, zqF10, zqG10, zqH10, zqA11, zqB11, zqC11, zqD11, zqE11, zqF11, zqG11, zqH11, zqA16, zqB16, zqC16, zqD16, zqE16, zqF16, zqG16, zqH16, zqA18, zqB18, zqC18, zqD18, zqE18, zqF18, zqG18, zqH18, zqA20, zqB20, zqC20, zqD20, zqE20, zqF20, zqG20, zqH20, zqA60, zqB60, zqC60, zqD60, zqE60, zqF60, zqG60, zqH60, zqA63, zqB63, zqC63, zqD63, zqE63, zqF63, zqG63, zqH63, zqA80, zqB80, zqC80, zqD80, zqE80, zqF80, zqG80, zqH80, zqA100, zqB100, zqC100, zqD100, zqE100, zqF100, zqG100, zqH100, zqA120, zqB120, zqC120, zqD120, zqE120, zqF120, zqG120, zqH120, zqA630, zqB630, zqC630, zqD630, zqE630, zqF630, zqG630, zqH630, zqA1000, zqB1000, zqC1000, zqD1000, zqE1000, zqF1000, zqG1000, zqH1000, zqA1010, zqB1010, zqC1010, zqD1010, zqE1010, zqF1010, zqG1010, zqH1010, zqA5000, zqB5000, zqC5000, zqD5000, zqE5000, zqF5000, zqG5000, zqH5000, zz_p01, zz_p02, zz_p03, zz_p04, zz_p05, zz_p06, zz_p10, zz_p12, zz_p13, zz_p14, zz_p15, zz_p16, zz_p20, zz_p21, zz_p23, zz_p24, zz_p25, zz_p26, zz_p30, zz_p31, zz_p32, zz_p34, zz_p35, zz_p36, zz_p40, zz_p41, zz_p42, zz_p43, zz_p45, zz_p46, zz_p50, zz_p51, zz_p52, zz_p53, zz_p54, zz_p56, zz_p60, zz_p61, zz_p62, zz_p63, zz_p64, zz_p65, zz_q1, zz_w1, zz_q2, zz_w2, zz_q3, zz_w3, zz_q4, zz_w4, zz_q5, zz_w5, zz_q6, zz_w6, zz_w0, zz_m1, zz_lt, zz_01, zz_le, zz_eq, zz_n1, zz_in, zz_cl, zz_max, zz_min, zz_minN, zz_maxN, zz_02, zz_12, zz_c0, zz_c1, zz_b0, zz_b1, zz_bb, zz_d00, zz_d10, zz_neg, nI_add, pk_mul, zc_b0, zc_b1, cond_true, cond_false, zcI_ok, zcV_ok, okI_ret, okV_ret, zz_sub, zcond_t, zcond_f, bI_t, bI_f, eq_self, decide_true, decide_false, Bool.false_or, Bool.true_or, Bool.or_false, Bool.or_true, Bool.and_true, Bool.true_and, Bool.and_false, Bool.false_and, Bool.not_true, Bool.not_false, if_true, if_false]
  obtain ⟨A, hA⟩ : ∃ A, A = zfn a 172 10 g := ⟨_, rfl⟩
  have rA : ∀ l j, j < 10 → xT A l 172 j = g j := fun l j hj => by rw [xT_q (by decide), hA, zfn_j hj]
  have mA : zmask A = zmask a := by rw [hA]; exact zm_fn (fun _ => rfl)
  have vA : ∀ l, vw P Q T W S a (zup (xT A l) 194 0 0) := fun l => vw_c hv (fun j hj => (zup_nj (by rintro rfl; exact kf_0 hj)).trans ((congrFun (xT_q (by decide)) j).trans (by rw [hA, zfn_q (by decide)]))) (fun q h1 h2 => (zup_row (by omega)).trans ((xT_q (by omega)).trans (by rw [hA, zfn_q (by omega)])))
  have vA0 : ∀ l, v0 (zup (xT A l) 194 0 0) := fun l => v0_u ⟨(congrFun (xT_q (by decide)) 37).trans (by rw [hA, zfn_q (by decide)]; exact h0.1), (congrFun (xT_q (by decide)) 38).trans (by rw [hA, zfn_q (by decide)]; exact h0.2)⟩ (.inr (by decide))
  have hX : X_broken a b = okI (0 + g 1 + g 2 + g 3 + g 4) (xT A [g 1, g 2, g 3, g 4]) b := by
    have st : ∀ v i l, i < 5 → xT A l = xT A l → X_broken_118 v (nI i) (xT A l) b = zcV (X_tell (g i) (xT A l) b) (fun a1 b1 => X_broken_118 (v + a1 172 i) (nI (i + 1)) a1 b1) := by
      intro v i l hi _
      rw [q_X_broken_118, rA l (nI i).toNatClampNeg (by rw [zz_cl (by omega)]; omega)]
      have : ¬ (4 : Int32) < nI i := fun z => by
        rw [show (4 : Int32) = nI 4 from rfl, nI_ltI (by omega) (by omega)] at z
        omega
      simp (disch := omega) only [zqA0, zqB0, zqC0, zqD0, zqE0, zqF0, zqG0, zqH0, zqA1, zqB1, zqC1, zqD1, zqE1, zqF1, zqG1, zqH1, zqA2, zqB2, zqC2, zqD2, zqE2, zqF2, zqG2, zqH2, zqA3, zqB3, zqC3, zqD3, zqE3, zqF3, zqG3, zqH3, zqA4, zqB4, zqC4, zqD4, zqE4, zqF4, zqG4, zqH4, zqA5, zqB5, zqC5, zqD5, zqE5, zqF5, zqG5, zqH5, zqA6, zqB6, zqC6, zqD6, zqE6, zqF6, zqG6, zqH6, zqA8, zqB8, zqC8, zqD8, zqE8, zqF8, zqG8, zqH8, zqA9, zqB9, zqC9, zqD9, zqE9, zqF9, zqG9, zqH9, zqA10, zqB10, zqC10, zqD10, zqE10, zqF10, zqG10, zqH10, zqA11, zqB11, zqC11, zqD11, zqE11, zqF11, zqG11, zqH11, zqA16, zqB16, zqC16, zqD16, zqE16, zqF16, zqG16, zqH16, zqA18, zqB18, zqC18, zqD18, zqE18, zqF18, zqG18, zqH18, zqA20, zqB20, zqC20, zqD20, zqE20, zqF20, zqG20, zqH20, zqA60, zqB60, zqC60, zqD60, zqE60, zqF60, zqG60, zqH60, zqA63, zqB63, zqC63, zqD63, zqE63, zqF63, zqG63, zqH63, zqA80, zqB80, zqC80, zqD80, zqE80, zqF80, zqG80, zqH80, zqA100, zqB100, zqC100, zqD100, zqE100, zqF100, zqG100, zqH100, zqA120, zqB120, zqC120, zqD120, zqE120, zqF120, zqG120, zqH120, zqA630, zqB630, zqC630, zqD630, zqE630, zqF630, zqG630, zqH630, zqA1000, zqB1000, zqC1000, zqD1000, zqE1000, zqF1000, zqG1000, zqH1000, zqA1010, zqB1010, zqC1010, zqD1010, zqE1010, zqF1010, zqG1010, zqH1010, zqA5000, zqB5000, zqC5000, zqD5000, zqE5000, zqF5000, zqG5000, zqH5000, zz_p01, zz_p02, zz_p03, zz_p04, zz_p05, zz_p06, zz_p10, zz_p12, zz_p13, zz_p14, zz_p15, zz_p16, zz_p20, zz_p21, zz_p23, zz_p24, zz_p25, zz_p26, zz_p30, zz_p31, zz_p32, zz_p34, zz_p35, zz_p36, zz_p40, zz_p41, zz_p42, zz_p43, zz_p45, zz_p46, zz_p50, zz_p51, zz_p52, zz_p53, zz_p54, zz_p56, zz_p60, zz_p61, zz_p62, zz_p63, zz_p64, zz_p65, zz_q1, zz_w1, zz_q2, zz_w2, zz_q3, zz_w3, zz_q4, zz_w4, zz_q5, zz_w5, zz_q6, zz_w6, zz_w0, zz_m1, zz_lt, zz_01, zz_le, zz_eq, zz_n1, zz_in, zz_cl, zz_max, zz_min, zz_minN, zz_maxN, zz_02, zz_12, zz_c0, zz_c1, zz_b0, zz_b1, zz_bb, zz_d00, zz_d10, zz_neg, nI_add, pk_mul, zc_b0, zc_b1, cond_true, cond_false, zcI_ok, zcV_ok, okI_ret, okV_ret, zz_sub, zcond_t, zcond_f, bI_t, bI_f, eq_self, decide_true, decide_false, Bool.false_or, Bool.true_or, Bool.or_false, Bool.or_true, Bool.and_true, Bool.true_and, Bool.and_false, Bool.false_and, Bool.not_true, Bool.not_false, if_true, if_false, this]
    rw [q_X_broken, x_fill0, zcV_ok, e1, q_X_broken_10, ft, zcond_f (nI_nlt (Nat.le_refl _) (by omega)), ← hA, x_clear, zcV_ok, show (1 : Int32) = nI 1 from rfl, st 0 1 [] (by decide) rfl, x_t0, zcV_ok, rA _ 1 (by decide), st _ 2 _ (by decide) rfl, x_t1, zcV_ok, rA _ 2 (by decide), st _ 3 _ (by decide) rfl, x_t2, zcV_ok, rA _ 3 (by decide), st _ 4 _ (by decide) rfl, x_t3, zcV_ok, rA _ 4 (by decide), q_X_broken_118]
    simp (disch := omega) only [zqA0, zqB0, zqC0, zqD0, zqE0, zqF0, zqG0, zqH0, zqA1, zqB1, zqC1, zqD1, zqE1, zqF1, zqG1, zqH1, zqA2, zqB2, zqC2, zqD2, zqE2, zqF2, zqG2, zqH2, zqA3, zqB3, zqC3, zqD3, zqE3, zqF3, zqG3, zqH3, zqA4, zqB4, zqC4, zqD4, zqE4, zqF4, zqG4, zqH4, zqA5, zqB5, zqC5, zqD5, zqE5, zqF5, zqG5, zqH5, zqA6, zqB6, zqC6, zqD6, zqE6, zqF6, zqG6, zqH6, zqA8, zqB8, zqC8, zqD8, zqE8, zqF8, zqG8, zqH8, zqA9, zqB9, zqC9, zqD9, zqE9, zqF9, zqG9, zqH9, zqA10, zqB10, zqC10, zqD10, zqE10, zqF10, zqG10, zqH10, zqA11, zqB11, zqC11, zqD11, zqE11, zqF11, zqG11, zqH11, zqA16, zqB16, zqC16, zqD16, zqE16, zqF16, zqG16, zqH16, zqA18, zqB18, zqC18, zqD18, zqE18, zqF18, zqG18, zqH18, zqA20, zqB20, zqC20, zqD20, zqE20, zqF20, zqG20, zqH20, zqA60, zqB60, zqC60, zqD60, zqE60, zqF60, zqG60, zqH60, zqA63, zqB63, zqC63, zqD63, zqE63, zqF63, zqG63, zqH63, zqA80, zqB80, zqC80, zqD80, zqE80, zqF80, zqG80, zqH80, zqA100, zqB100, zqC100, zqD100, zqE100, zqF100, zqG100, zqH100, zqA120, zqB120, zqC120, zqD120, zqE120, zqF120, zqG120, zqH120, zqA630, zqB630, zqC630, zqD630, zqE630, zqF630, zqG630, zqH630, zqA1000, zqB1000, zqC1000, zqD1000, zqE1000, zqF1000, zqG1000, zqH1000, zqA1010, zqB1010, zqC1010, zqD1010, zqE1010, zqF1010, zqG1010, zqH1010, zqA5000, zqB5000, zqC5000, zqD5000, zqE5000, zqF5000, zqG5000, zqH5000, zz_p01, zz_p02, zz_p03, zz_p04, zz_p05, zz_p06, zz_p10, zz_p12, zz_p13, zz_p14, zz_p15, zz_p16, zz_p20, zz_p21, zz_p23, zz_p24, zz_p25, zz_p26, zz_p30, zz_p31, zz_p32, zz_p34, zz_p35, zz_p36, zz_p40, zz_p41, zz_p42, zz_p43, zz_p45, zz_p46, zz_p50, zz_p51, zz_p52, zz_p53, zz_p54, zz_p56, zz_p60, zz_p61, zz_p62, zz_p63, zz_p64, zz_p65, zz_q1, zz_w1, zz_q2, zz_w2, zz_q3, zz_w3, zz_q4, zz_w4, zz_q5, zz_w5, zz_q6, zz_w6, zz_w0, zz_m1, zz_lt, zz_01, zz_le, zz_eq, zz_n1, zz_in, zz_cl, zz_max, zz_min, zz_minN, zz_maxN, zz_02, zz_12, zz_c0, zz_c1, zz_b0, zz_b1, zz_bb, zz_d00, zz_d10, zz_neg, nI_add, pk_mul, zc_b0, zc_b1, cond_true, cond_false, zcI_ok, zcV_ok, okI_ret, okV_ret, zz_sub, zcond_t, zcond_f, bI_t, bI_f, eq_self, decide_true, decide_false, Bool.false_or, Bool.true_or, Bool.or_false, Bool.or_true, Bool.and_true, Bool.true_and, Bool.and_false, Bool.false_and, Bool.not_true, Bool.not_false, if_true, if_false]
  have hM : ∀ c, vw P Q T W S a c → v0 c → M_broken_12 0 c b = okI (0 + g 1 + g 2 + g 3 + g 4) (mT (zfn c 216 4 (fun j => g (j + 1))) [g 1, g 2, g 3, g 4]) b := by
    intro c hc hc0
    obtain ⟨C, hC⟩ : ∃ C, C = zfn c 216 4 (fun j => g (j + 1)) := ⟨_, rfl⟩
    have rC : ∀ l j, j < 4 → mT C l 216 j = g (j + 1) := fun l j hj => by rw [mT_q (by decide), hC, zfn_j hj]
    have kt : C 194 15 = nI T := by rw [hC]; exact (congrFun (zfn_q (by decide)) 15).trans hc.2.1.2.2.1.2
    have st : ∀ v i l, i < 4 → mT C l = mT C l → M_broken_203 v (nI i) (mT C l) b = zcV (M_enters (g (i + 1)) (mT C l) b) (fun a1 b1 => M_broken_203 (v + a1 216 i) (nI (i + 1)) a1 b1) := by
      intro v i l hi _
      rw [q_M_broken_203, rC l (nI i).toNatClampNeg (by rw [zz_cl (by omega)]; omega)]
      simp (disch := omega) only [zqA0, zqB0, zqC0, zqD0, zqE0, zqF0, zqG0, zqH0, zqA1, zqB1, zqC1, zqD1, zqE1, zqF1, zqG1, zqH1, zqA2, zqB2, zqC2, zqD2, zqE2, zqF2, zqG2, zqH2, zqA3, zqB3, zqC3, zqD3, zqE3, zqF3, zqG3, zqH3, zqA4, zqB4, zqC4, zqD4, zqE4, zqF4, zqG4, zqH4, zqA5, zqB5, zqC5, zqD5, zqE5, zqF5, zqG5, zqH5, zqA6, zqB6, zqC6, zqD6, zqE6, zqF6, zqG6, zqH6, zqA8, zqB8, zqC8, zqD8, zqE8, zqF8, zqG8, zqH8, zqA9, zqB9, zqC9, zqD9, zqE9, zqF9, zqG9, zqH9, zqA10, zqB10, zqC10, zqD10, zqE10, zqF10, zqG10, zqH10, zqA11, zqB11, zqC11, zqD11, zqE11, zqF11, zqG11, zqH11, zqA16, zqB16, zqC16, zqD16, zqE16, zqF16, zqG16, zqH16, zqA18, zqB18, zqC18, zqD18, zqE18, zqF18, zqG18, zqH18, zqA20, zqB20, zqC20, zqD20, zqE20, zqF20, zqG20, zqH20, zqA60, zqB60, zqC60, zqD60, zqE60, zqF60, zqG60, zqH60, zqA63, zqB63, zqC63, zqD63, zqE63, zqF63, zqG63, zqH63, zqA80, zqB80, zqC80, zqD80, zqE80, zqF80, zqG80, zqH80, zqA100, zqB100, zqC100, zqD100, zqE100, zqF100, zqG100, zqH100, zqA120, zqB120, zqC120, zqD120, zqE120, zqF120, zqG120, zqH120, zqA630, zqB630, zqC630, zqD630, zqE630, zqF630, zqG630, zqH630, zqA1000, zqB1000, zqC1000, zqD1000, zqE1000, zqF1000, zqG1000, zqH1000, zqA1010, zqB1010, zqC1010, zqD1010, zqE1010, zqF1010, zqG1010, zqH1010, zqA5000, zqB5000, zqC5000, zqD5000, zqE5000, zqF5000, zqG5000, zqH5000, zz_p01, zz_p02, zz_p03, zz_p04, zz_p05, zz_p06, zz_p10, zz_p12, zz_p13, zz_p14, zz_p15, zz_p16, zz_p20, zz_p21, zz_p23, zz_p24, zz_p25, zz_p26, zz_p30, zz_p31, zz_p32, zz_p34, zz_p35, zz_p36, zz_p40, zz_p41, zz_p42, zz_p43, zz_p45, zz_p46, zz_p50, zz_p51, zz_p52, zz_p53, zz_p54, zz_p56, zz_p60, zz_p61, zz_p62, zz_p63, zz_p64, zz_p65, zz_q1, zz_w1, zz_q2, zz_w2, zz_q3, zz_w3, zz_q4, zz_w4, zz_q5, zz_w5, zz_q6, zz_w6, zz_w0, zz_m1, zz_lt, zz_01, zz_le, zz_eq, zz_n1, zz_in, zz_cl, zz_max, zz_min, zz_minN, zz_maxN, zz_02, zz_12, zz_c0, zz_c1, zz_b0, zz_b1, zz_bb, zz_d00, zz_d10, zz_neg, nI_add, pk_mul, zc_b0, zc_b1, cond_true, cond_false, zcI_ok, zcV_ok, okI_ret, okV_ret, zz_sub, zcond_t, zcond_f, bI_t, bI_f, eq_self, decide_true, decide_false, Bool.false_or, Bool.true_or, Bool.or_false, Bool.or_true, Bool.and_true, Bool.true_and, Bool.and_false, Bool.false_and, Bool.not_true, Bool.not_false, if_true, if_false]
    rw [z4, e2 c hc hc0, ← hC, q_M_broken_29, kt, zcond_f (nI_nlt (Nat.le_refl _) (by omega)), mT_0]
    refine Eq.trans (st 0 0 [] (by decide) rfl) ?_
    rw [m_e0, zcV_ok, rC _ 0 (by decide), st _ 1 _ (by decide) rfl, m_e1, zcV_ok, rC _ 1 (by decide), st _ 2 _ (by decide) rfl, m_e2, zcV_ok, rC _ 2 (by decide), st _ 3 _ (by decide) rfl, m_e3, zcV_ok, rC _ 3 (by decide), q_M_broken_203]
    simp (disch := omega) only [zqA0, zqB0, zqC0, zqD0, zqE0, zqF0, zqG0, zqH0, zqA1, zqB1, zqC1, zqD1, zqE1, zqF1, zqG1, zqH1, zqA2, zqB2, zqC2, zqD2, zqE2, zqF2, zqG2, zqH2, zqA3, zqB3, zqC3, zqD3, zqE3, zqF3, zqG3, zqH3, zqA4, zqB4, zqC4, zqD4, zqE4, zqF4, zqG4, zqH4, zqA5, zqB5, zqC5, zqD5, zqE5, zqF5, zqG5, zqH5, zqA6, zqB6, zqC6, zqD6, zqE6, zqF6, zqG6, zqH6, zqA8, zqB8, zqC8, zqD8, zqE8, zqF8, zqG8, zqH8, zqA9, zqB9, zqC9, zqD9, zqE9, zqF9, zqG9, zqH9, zqA10, zqB10, zqC10, zqD10, zqE10, zqF10, zqG10, zqH10, zqA11, zqB11, zqC11, zqD11, zqE11, zqF11, zqG11, zqH11, zqA16, zqB16, zqC16, zqD16, zqE16, zqF16, zqG16, zqH16, zqA18, zqB18, zqC18, zqD18, zqE18, zqF18, zqG18, zqH18, zqA20, zqB20, zqC20, zqD20, zqE20, zqF20, zqG20, zqH20, zqA60, zqB60, zqC60, zqD60, zqE60, zqF60, zqG60, zqH60, zqA63, zqB63, zqC63, zqD63, zqE63, zqF63, zqG63, zqH63, zqA80, zqB80, zqC80, zqD80, zqE80, zqF80, zqG80, zqH80, zqA100, zqB100, zqC100, zqD100, zqE100, zqF100, zqG100, zqH100, zqA120, zqB120, zqC120, zqD120, zqE120, zqF120, zqG120, zqH120, zqA630, zqB630, zqC630, zqD630, zqE630, zqF630, zqG630, zqH630, zqA1000, zqB1000, zqC1000, zqD1000, zqE1000, zqF1000, zqG1000, zqH1000, zqA1010, zqB1010, zqC1010, zqD1010, zqE1010, zqF1010, zqG1010, zqH1010, zqA5000, zqB5000, zqC5000, zqD5000, zqE5000, zqF5000, zqG5000, zqH5000, zz_p01, zz_p02, zz_p03, zz_p04, zz_p05, zz_p06, zz_p10, zz_p12, zz_p13, zz_p14, zz_p15, zz_p16, zz_p20, zz_p21, zz_p23, zz_p24, zz_p25, zz_p26, zz_p30, zz_p31, zz_p32, zz_p34, zz_p35, zz_p36, zz_p40, zz_p41, zz_p42, zz_p43, zz_p45, zz_p46, zz_p50, zz_p51, zz_p52, zz_p53, zz_p54, zz_p56, zz_p60, zz_p61, zz_p62, zz_p63, zz_p64, zz_p65, zz_q1, zz_w1, zz_q2, zz_w2, zz_q3, zz_w3, zz_q4, zz_w4, zz_q5, zz_w5, zz_q6, zz_w6, zz_w0, zz_m1, zz_lt, zz_01, zz_le, zz_eq, zz_n1, zz_in, zz_cl, zz_max, zz_min, zz_minN, zz_maxN, zz_02, zz_12, zz_c0, zz_c1, zz_b0, zz_b1, zz_bb, zz_d00, zz_d10, zz_neg, nI_add, pk_mul, zc_b0, zc_b1, cond_true, cond_false, zcI_ok, zcV_ok, okI_ret, okV_ret, zz_sub, zcond_t, zcond_f, bI_t, bI_f, eq_self, decide_true, decide_false, Bool.false_or, Bool.true_or, Bool.or_false, Bool.or_true, Bool.and_true, Bool.true_and, Bool.and_false, Bool.false_and, Bool.not_true, Bool.not_false, if_true, if_false]
  refine ⟨0 + g 1 + g 2 + g 3 + g 4, xT A [g 1, g 2, g 3, g 4], b, mT (zfn (zup (xT A [g 1, g 2, g 3, g 4]) 194 0 0) 216 4 (fun j => g (j + 1))) [g 1, g 2, g 3, g 4], b, hX, fun j => ?_, ?_, rel_tell (l := [g 1, g 2, g 3, g 4]) (a1 := xT A [g 1, g 2, g 3, g 4]) hall (Nat.le_of_ble_eq_true rfl) ?_ ?_⟩
  · rw [xT_q (by decide), hA, zfn_q (by decide)]
  · rw [q_M_broken]
    exact hM _ (vA _) (vA0 _)
  · rw [xT_m, mA]
  · rw [mT_m, zm_fn (fun _ => rfl), zmask_f rfl]
