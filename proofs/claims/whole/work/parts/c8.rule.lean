/-! The call rule. -/
theorem rule_out {E G : Nat} {tp : Nat → Int32} {a c A C : zA} {b : zB} (hG : 1 ≤ G) (hG2 : G ≤ 80) (hX : rdX E 0 tp A) (hM : rdM E 0 tp C) (hR : rRd 0 A C) (fX : fRX A a) (fM : fRM C c) : ∃ r A' C', T_read_45 (nI G) 0 1 0 A b = okI r A' b ∧ fRX A' a ∧ fRM C' c ∧ ((r < 0 ∧ M_rule_86 (nI G) 0 1 1 C b = okI r C' b) ∨ (¬ r < 0 ∧ ∃ K', K' ≤ 9 ∧ M_rule_86 (nI G) 0 1 1 C b = M_rule_167 r 1 C' b ∧ rRd K' A' C')) := by
  have k128 : ∀ x A, T_read_128 x A b = okI x A b := fun x A => by rw [q_T_read_128]; exact okI_ret _ _ _
  rcases rule_loop (b := b) (v1 := nI G) (E + 1) 0 0 0 A C (by omega) (Nat.zero_le _) (by omega) (by omega) hX hM hR fX fM with ⟨r, A', C', z1, z2, z3, z4, z5⟩ | ⟨i', K', A', C', z1, z2, z3, z4, z5, z6, z7⟩
  · exact ⟨r, A', C', z1, z4, z5, .inl ⟨z2, z3⟩⟩
  · by_cases c : 60 < G
    · have lt : (60 : Int32) < nI G := nI_lt (a := 60) c (by omega)
      refine ⟨-61, A', C', ?_, z6, z7, .inl ⟨by decide, ?_⟩⟩
      · refine z3.trans ?_
        rw [q_T_read_116, zcond_t lt, k128]
      · refine z4.trans ?_
        rw [q_M_rule_142, zcond_t lt, zcond_f (by decide), q_M_rule_164]
        exact okI_ret _ _ _
    · have lt : ¬ (60 : Int32) < nI G := nI_nlt (a := 60) (by omega) (by decide)
      refine ⟨nI i', A', C', ?_, z6, z7, .inr ⟨nI_pos (by omega), K', z2, ?_, z5⟩⟩
      · refine z3.trans ?_
        rw [q_T_read_116, zcond_f lt, k128]
      · refine z4.trans ?_
        rw [q_M_rule_142, zcond_f lt]
theorem x_fillG {q n : Nat} (hz : zSH[q]? = some (20, n, [])) (hn : n < 2147483648) (a : zA) (b : zB) : J_fill q 0 a b = okV (zfn a q n (fun _ => 0)) b := by
  have l0 : ∀ c : zA, zlen zSH c q = n := fun c => by
    unfold zlen
    rw [hz]
    rfl
  have k0 : zokc zSH q 20 = true := by
    unfold zokc zkd
    rw [hz]
    rfl
  have y0 : zokY zSH q = true := by
    unfold zokY zkd
    rw [hz]
    rfl
  have hs : ∀ i, i < n → J_fill_5 q 0 (nI i) (nI n) (zfn a q i (fun _ => 0)) b = J_fill_5 q 0 (nI (i + 1)) (nI n) (zfn a q (i + 1) (fun _ => 0)) b := by
    intro i hi
    rw [q_J_fill_5, k0, l0, zcond_t (nI_lt hi hn), cond_true, zin_nI hi (by omega), cond_true, show (nI i).toNatClampNeg = i from nI_clamp (by omega), nI_1]
    rw [show (0 : Int32) = (fun _ => (0 : Int32)) i from rfl, zfn_s]
  have h := lpC (F := fun i => J_fill_5 q 0 (nI i) (nI n) (zfn a q i (fun _ => 0)) b) hs n 0 (Nat.zero_add _)
  rw [zfn_0] at h
  rw [q_J_fill, y0, cond_true, l0]
  refine h.trans ?_
  rw [q_J_fill_5, zcond_f (nI_nlt (Nat.le_refl _) hn)]
  exact okV_ret _ _
set_option maxRecDepth 1000000 in
theorem zSH_23 : zSH[23]? = some (20, 2, []) := rfl
set_option maxRecDepth 1000000 in
theorem zSH_24 : zSH[24]? = some (20, 10, []) := rfl
set_option maxRecDepth 1000000 in
theorem zSH_25 : zSH[25]? = some (20, 1000, []) := rfl
def clrX (a : zA) : zA := zup (zfn (zfn (zfn a 23 2 (fun _ => 0)) 24 10 (fun _ => 0)) 25 1000 (fun _ => 0)) 22 3 0
theorem x_lclear (a : zA) (b : zB) : L_clear a b = okV (clrX a) b := by
  rw [q_L_clear, x_fillG zSH_23 (by decide), zcV_ok, x_fillG zSH_24 (by decide), zcV_ok, x_fillG zSH_25 (by decide), zcV_ok]
  exact okV_ret _ _
theorem clrX_f (a : zA) : fRX (clrX a) a := fun q hq => by
  unfold clrX
  rw [zup_row (by omega), zfn_q (by omega), zfn_q (by omega), zfn_q (by omega)]
def becX (a : zA) : zA := fun q j => if q = 9 ∧ j < 2 then a 23 j else if q = 10 ∧ j < 10 then a 24 j else if q = 11 ∧ j < 1000 then a 25 j else if q = 8 ∧ j = 3 then a 22 3 else a q j
theorem x_become (a : zA) (b : zB) : L_become a b = okV (becX a) b := by
  have e : zup (zcp (zcp (zcp a 23 0 9 0 2) 24 0 10 0 10) 25 0 11 0 1000) 8 3 ((zcp (zcp (zcp a 23 0 9 0 2) 24 0 10 0 10) 25 0 11 0 1000) 22 3) = becX a := by
    funext q j
    unfold becX zup zcp
    by_cases c1 : q = 9 ∧ j < 2
    · obtain ⟨rfl, h2⟩ := c1
      rw [if_neg (by omega), if_neg (by omega), if_neg (by omega), if_pos ⟨rfl, by omega, by omega⟩, if_pos ⟨rfl, h2⟩, Nat.zero_add, Nat.sub_zero]
    · rw [if_neg c1]
      by_cases c2 : q = 10 ∧ j < 10
      · obtain ⟨rfl, h2⟩ := c2
        rw [if_neg (by omega), if_neg (by omega), if_pos ⟨rfl, by omega, by omega⟩, if_neg (by omega), if_pos ⟨rfl, h2⟩, Nat.zero_add, Nat.sub_zero]
      · rw [if_neg c2]
        by_cases c3 : q = 11 ∧ j < 1000
        · obtain ⟨rfl, h2⟩ := c3
          rw [if_neg (by omega), if_pos ⟨rfl, by omega, by omega⟩, if_neg (by omega), if_neg (by omega), if_pos ⟨rfl, h2⟩, Nat.zero_add, Nat.sub_zero]
        · rw [if_neg c3]
          by_cases c4 : q = 8 ∧ j = 3
          · rw [if_pos c4, if_pos c4, if_neg (by omega), if_neg (by omega), if_neg (by omega)]
          · rw [if_neg c4, if_neg c4, if_neg (by omega), if_neg (by omega), if_neg (by omega)]
  rw [q_L_become, ← e, show Int32.toNatClampNeg 0 = 0 by decide, show Int32.toNatClampNeg 2 = 2 by decide, show Int32.toNatClampNeg 10 = 10 by decide, show Int32.toNatClampNeg 1000 = 1000 by decide]
  exact okV_ret _ _
def becM (c : zA) : zA := fun q j => if q = 194 ∧ j = 17 then c 194 25 else if q = 194 ∧ j = 18 then c 194 26 else if q = 194 ∧ j = 19 then c 194 27 else if q = 194 ∧ j = 21 then c 194 29 else if (207 ≤ q ∧ q ≤ 210) ∧ j < 10 then c (q + 4) j else c q j
theorem zfn_zup {m : zA} {q n q' j : Nat} {f : Nat → Int32} {x : Int32} (h : q ≠ q') : zup (zfn m q n f) q' j x = zfn (zup m q' j x) q n f := by
  funext r k
  unfold zup zfn
  by_cases e1 : r = q' ∧ k = j
  · rw [if_pos e1, if_neg (by omega)]
    exact (if_pos e1).symm
  · rw [if_neg e1]
    by_cases e2 : r = q ∧ k < n
    · rw [if_pos e2, if_pos e2]
    · rw [if_neg e2, if_neg e2]
      exact (if_neg e1).symm
theorem m_become (r : Int32) (c : zA) (b : zB) : M_rule_167 r 1 c b = okI r (becM c) b := by
  obtain ⟨d, hd⟩ : ∃ d, d = zup (zup (zup (zup c 194 17 (c 194 25)) 194 18 ((zup c 194 17 (c 194 25)) 194 26)) 194 19 ((zup (zup c 194 17 (c 194 25)) 194 18 ((zup c 194 17 (c 194 25)) 194 26)) 194 27)) 194 21 ((zup (zup (zup c 194 17 (c 194 25)) 194 18 ((zup c 194 17 (c 194 25)) 194 26)) 194 19 ((zup (zup c 194 17 (c 194 25)) 194 18 ((zup c 194 17 (c 194 25)) 194 26)) 194 27)) 194 29) := ⟨_, rfl⟩
  have hq : ∀ q, q ≠ 194 → d q = c q := fun q h => by rw [hd, zup_row h, zup_row h, zup_row h, zup_row h]
  have s1 : ∀ i, i < 10 → M_rule_214 r (nI i) (zfn d 207 i (c 211)) b = M_rule_214 r (nI (i + 1)) (zfn d 207 (i + 1) (c 211)) b := fun i hi => by
    have e : zfn d 207 i (c 211) 211 i = c 211 i := by rw [zfn_q (by decide), hq 211 (by decide)]
    rw [q_M_rule_214, zcond_t (show nI i < 10 from nI_lt (b := 10) hi (by decide)), zin_nI (n := 10) hi (by decide), cond_true, cond_true, show (nI i).toNatClampNeg = i from nI_clamp (by omega), e, zfn_s, nI_1]
  have l1 := lpC (F := fun i => M_rule_214 r (nI i) (zfn d 207 i (c 211)) b) s1 10 0 (Nat.zero_add _)
  rw [zfn_0] at l1
  obtain ⟨g, hg⟩ : ∃ g : Nat → zA, g = fun i => zfn (zfn (zfn (zfn d 207 10 (c 211)) 208 i (c 212)) 209 i (c 213)) 210 i (c 214) := ⟨_, rfl⟩
  have s2 : ∀ i, i < 10 → M_rule_244 r (nI i) (g i) b = M_rule_244 r (nI (i + 1)) (g (i + 1)) b := fun i hi => by
    have e : ∀ q, 211 ≤ q → g i q = c q := fun q h => by rw [hg]; show zfn _ 210 i _ q = _; rw [zfn_q (by omega), zfn_q (by omega), zfn_q (by omega), zfn_q (by omega), hq q (by omega)]
    have e4 : zup (zup (zup (g i) 208 i (c 212 i)) 209 i (c 213 i)) 210 i (c 214 i) = g (i + 1) := by
      rw [hg]
      show zup (zup (zup (zfn (zfn (zfn (zfn d 207 10 (c 211)) 208 i (c 212)) 209 i (c 213)) 210 i (c 214)) 208 i (c 212 i)) 209 i (c 213 i)) 210 i (c 214 i) = zfn (zfn (zfn (zfn d 207 10 (c 211)) 208 (i + 1) (c 212)) 209 (i + 1) (c 213)) 210 (i + 1) (c 214)
      rw [zfn_zup (q := 210) (q' := 208) (by decide), zfn_zup (q := 209) (q' := 208) (by decide), zfn_s, zfn_zup (q := 210) (q' := 209) (by decide), zfn_s, zfn_s]
    have e5 : zup (g i) 208 i (c 212 i) 213 i = c 213 i := by rw [zup_ne (by decide), e 213 (by decide)]
    have e6 : zup (zup (g i) 208 i (c 212 i)) 209 i (c 213 i) 214 i = c 214 i := by rw [zup_ne (by decide), zup_ne (by decide), e 214 (by decide)]
    rw [q_M_rule_244, zcond_t (show nI i < 10 from nI_lt (b := 10) hi (by decide)), zin_nI (n := 10) hi (by decide), cond_true, cond_true, cond_true, cond_true, cond_true, cond_true, show (nI i).toNatClampNeg = i from nI_clamp (by omega), e 212 (by decide), e5, e6, e4, nI_1]
  have l2 := lpC (F := fun i => M_rule_244 r (nI i) (g i) b) s2 10 0 (Nat.zero_add _)
  have g0 : g 0 = zfn d 207 10 (c 211) := by rw [hg]; show zfn (zfn (zfn _ 208 0 _) 209 0 _) 210 0 _ = _; rw [zfn_0, zfn_0, zfn_0]
  have gT : g 10 = becM c := by
    rw [hg, hd]
    funext q j
    show zfn (zfn (zfn (zfn _ 207 10 (c 211)) 208 10 (c 212)) 209 10 (c 213)) 210 10 (c 214) q j = _
    unfold becM
    by_cases h1 : q = 194
    · subst h1
      rw [zfn_q (by decide), zfn_q (by decide), zfn_q (by decide), zfn_q (by decide)]
      by_cases j1 : j = 17
      · subst j1
        rw [if_pos ⟨rfl, rfl⟩, zup_nj (by decide), zup_nj (by decide), zup_nj (by decide), zup_eq]
      · by_cases j2 : j = 18
        · subst j2
          rw [if_neg (by omega), if_pos ⟨rfl, rfl⟩, zup_nj (by decide), zup_nj (by decide), zup_eq, zup_nj (by decide)]
        · by_cases j3 : j = 19
          · subst j3
            rw [if_neg (by omega), if_neg (by omega), if_pos ⟨rfl, rfl⟩, zup_nj (by decide), zup_eq, zup_nj (by decide), zup_nj (by decide)]
          · by_cases j4 : j = 21
            · subst j4
              rw [if_neg (by omega), if_neg (by omega), if_neg (by omega), if_pos ⟨rfl, rfl⟩, zup_eq, zup_nj (by decide), zup_nj (by decide), zup_nj (by decide)]
            · rw [if_neg (by omega), if_neg (by omega), if_neg (by omega), if_neg (by omega), if_neg (by omega), zup_nj j4, zup_nj j3, zup_nj j2, zup_nj j1]
    · rw [if_neg (by omega), if_neg (by omega), if_neg (by omega), if_neg (by omega)]
      have zn : ∀ (m : zA) (q0 : Nat) (f : Nat → Int32), zfn m q0 10 f q j = if q = q0 ∧ j < 10 then f j else m q j := fun _ _ _ => rfl
      rw [zn, zn, zn, zn, zup_row h1, zup_row h1, zup_row h1, zup_row h1]
      by_cases h2 : j < 10
      · by_cases q1 : q = 210
        · rw [if_pos ⟨q1, h2⟩, if_pos ⟨by omega, h2⟩, q1]
        · rw [if_neg (by omega)]
          by_cases q2 : q = 209
          · rw [if_pos ⟨q2, h2⟩, if_pos ⟨by omega, h2⟩, q2]
          · rw [if_neg (by omega)]
            by_cases q3 : q = 208
            · rw [if_pos ⟨q3, h2⟩, if_pos ⟨by omega, h2⟩, q3]
            · rw [if_neg (by omega)]
              by_cases q4 : q = 207
              · rw [if_pos ⟨q4, h2⟩, if_pos ⟨by omega, h2⟩, q4]
              · rw [if_neg (by omega), if_neg (by omega)]
      · rw [if_neg (by omega), if_neg (by omega), if_neg (by omega), if_neg (by omega), if_neg (by omega)]
  rw [q_M_rule_167, zcond_f (by decide), ← hd]
  refine Eq.trans l1 ?_
  rw [q_M_rule_214, zcond_f (show ¬ nI 10 < 10 by decide), ← g0]
  refine Eq.trans l2 ?_
  rw [q_M_rule_244, zcond_f (show ¬ nI 10 < 10 by decide), gT]
  exact okI_ret _ _ _
