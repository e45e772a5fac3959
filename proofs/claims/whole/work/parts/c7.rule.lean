/-! Line by line. -/
theorem actX_f {s : Nat × Nat × Nat × Nat} {A a : zA} {x : Int32} (h : fRX A a) : fRX (actX s (zup A 21 3 x)) a := fun q hq => by
  have e0 : zup A 21 3 x q = a q := (zup_row (by omega)).trans (h q hq)
  unfold actX
  by_cases c1 : s.1 ≤ 1
  · rw [if_pos c1, zup_row (by omega)]; exact e0
  · rw [if_neg c1]
    by_cases c2 : s.1 = 2
    · rw [if_pos c2, zup_row (by omega)]; exact e0
    · rw [if_neg c2]
      by_cases c3 : s.1 = 3
      · rw [if_pos c3, zup_row (by omega)]; exact e0
      · rw [if_neg c3]
        exact (funext fun j => if_neg (fun w => by omega)).trans e0
theorem actM_f {K : Nat} {s : Nat × Nat × Nat × Nat} {A a : zA} {x : Int32} (h : fRM A a) : fRM (actM K s (zup A 194 35 x)) a := by
  have e0 : fRM (zup A 194 35 x) a := ⟨fun q h1 h2 => (zup_row h1).trans (h.1 q h1 h2), fun j h1 h2 => (zup_nj h2).trans (h.2 j h1 h2)⟩
  unfold actM
  by_cases c1 : s.1 ≤ 1
  · rw [if_pos c1]
    exact ⟨fun q h1 h2 => (zup_row h1).trans (e0.1 q h1 h2), fun j h1 h2 => (zup_nj (by omega)).trans (e0.2 j h1 h2)⟩
  · rw [if_neg c1]
    by_cases c2 : s.1 = 2
    · rw [if_pos c2]
      exact ⟨fun q h1 h2 => (zup_row h1).trans (e0.1 q h1 h2), fun j h1 h2 => (zup_nj (by omega)).trans (e0.2 j h1 h2)⟩
    · rw [if_neg c2]
      by_cases c3 : s.1 = 3
      · rw [if_pos c3]
        exact ⟨fun q h1 h2 => (zup_row (by omega)).trans (e0.1 q h1 h2), fun j h1 h2 => (zup_ne (by decide)).trans (e0.2 j h1 h2)⟩
      · rw [if_neg c3]
        exact ⟨fun q h1 h2 => by rw [zup_row h1, zup_row (by omega), zup_row (by omega), zup_row (by omega)]; exact e0.1 q h1 h2, fun j h1 h2 => by rw [zup_nj (by omega), zup_ne (by decide), zup_ne (by decide), zup_ne (by decide)]; exact e0.2 j h1 h2⟩
theorem actX_rd {E n : Nat} {tp : Nat → Int32} {s : Nat × Nat × Nat × Nat} {A : zA} (h : rdX E n tp A) : rdX E n tp (actX s A) := by
  have key : actX s A 21 = A 21 ∧ actX s A 20 = A 20 := by
    unfold actX
    by_cases c1 : s.1 ≤ 1
    · rw [if_pos c1]; exact ⟨zup_row (by decide), zup_row (by decide)⟩
    · rw [if_neg c1]
      by_cases c2 : s.1 = 2
      · rw [if_pos c2]; exact ⟨zup_row (by decide), zup_row (by decide)⟩
      · rw [if_neg c2]
        by_cases c3 : s.1 = 3
        · rw [if_pos c3]; exact ⟨zup_row (by decide), zup_row (by decide)⟩
        · rw [if_neg c3]
          exact ⟨funext fun j => if_neg (fun w => absurd w.1 (by decide)), funext fun j => if_neg (fun w => absurd w.1 (by decide))⟩
  unfold rdX
  rw [key.1, key.2]
  exact h
theorem actM_rd {E n K : Nat} {tp : Nat → Int32} {s : Nat × Nat × Nat × Nat} {A : zA} (h : rdM E n tp A) : rdM E n tp (actM K s A) := by
  have key : actM K s A 215 = A 215 ∧ ∀ j, 35 ≤ j → actM K s A 194 j = A 194 j := by
    unfold actM
    by_cases c1 : s.1 ≤ 1
    · rw [if_pos c1]; exact ⟨zup_row (by decide), fun j hj => zup_nj (by omega)⟩
    · rw [if_neg c1]
      by_cases c2 : s.1 = 2
      · rw [if_pos c2]; exact ⟨zup_row (by decide), fun j hj => zup_nj (by omega)⟩
      · rw [if_neg c2]
        by_cases c3 : s.1 = 3
        · rw [if_pos c3]; exact ⟨zup_row (by decide), fun j hj => zup_ne (by decide)⟩
        · rw [if_neg c3]
          exact ⟨by rw [zup_row (by decide), zup_row (by decide), zup_row (by decide), zup_row (by decide)], fun j hj => by rw [zup_nj (by omega), zup_ne (by decide), zup_ne (by decide), zup_ne (by decide)]⟩
  unfold rdM
  rw [key.1, key.2 35 (by decide), key.2 36 (by decide)]
  exact h
theorem m_fail {E m : Nat} {v1 v2 : Int32} {y : Int32} {tp : Nat → Int32} {C : zA} {b : zB} (h : rdM E m tp C) (hy : y = 0 ∨ m < E) : M_rule_86 v1 v2 y 0 C b = okI (-1 - nI m) C b := by
  obtain ⟨h1, h2, h3, h4, -⟩ := h
  have k167 : M_rule_167 v2 0 C b = okI (-1 - nI m) C b := by
    rw [q_M_rule_167, zcond_t rfl, h1]
    exact okI_ret _ _ _
  have k142 : M_rule_142 v1 v2 0 C b = okI (-1 - nI m) C b := by
    rw [q_M_rule_142, k167, zcond_t rfl, h1]
    by_cases c : m < 60
    · rw [zcond_t (show nI m < 60 from nI_lt (b := 60) c (by decide))]
      cases decide (60 < v1) <;> rfl
    · rw [zcond_f (show ¬ nI m < 60 from nI_nlt (b := 60) (by omega) (by omega)), q_M_rule_164]
      have e : m = 60 := by omega
      subst e
      cases decide (60 < v1)
      · rfl
      · exact okI_ret _ _ _
  have k141 : M_rule_141 v1 v2 C b = okI (-1 - nI m) C b := by rw [q_M_rule_141]; exact k142
  rw [q_M_rule_86, zcond_t rfl, k141, h1, h2]
  rcases hy with hy | hy
  · rw [zcond_t hy]
  · rw [zcond_f (show ¬ nI m = nI E from fun z => by have := (nI_eq (by omega) (by omega)).mp z; omega)]
    cases decide (y = 0) <;> rfl
theorem m_last {E : Nat} {v1 v2 : Int32} {tp : Nat → Int32} {C : zA} {b : zB} (h : rdM E E tp C) : M_rule_86 v1 v2 1 0 C b = M_rule_142 v1 v2 1 C b := by
  obtain ⟨h1, h2, h3, h4, -⟩ := h
  rw [q_M_rule_86, zcond_t rfl, zcond_f (by decide), h1, h2, zcond_t rfl]
theorem rule_loop {E : Nat} {tp : Nat → Int32} {v1 : Int32} {a c : zA} {b : zB} : ∀ f i n K A C, E - n < f → n ≤ E → 2 * i ≤ n → 7 * K ≤ n → rdX E n tp A → rdM E n tp C → rRd K A C → fRX A a → fRM C c → (∃ r A' C', T_read_45 v1 (nI i) 1 (nI i) A b = okI r A' b ∧ r < 0 ∧ M_rule_86 v1 (nI i) 1 1 C b = okI r C' b ∧ fRX A' a ∧ fRM C' c) ∨ (∃ i' K' A' C', i' ≤ 31 ∧ K' ≤ 9 ∧ T_read_45 v1 (nI i) 1 (nI i) A b = T_read_116 v1 (nI i') A' b ∧ M_rule_86 v1 (nI i) 1 1 C b = M_rule_142 v1 (nI i') 1 C' b ∧ rRd K' A' C' ∧ fRX A' a ∧ fRM C' c) := by
  intro f
  induction f with
  | zero => intro i n K A C h; exact absurd h (by omega)
  | succ f ih =>
    intro i n K A C hf hn hi hK hX hM hR fX fM
    have hE := hX.2.2.2.1
    obtain ⟨lo1, lo2⟩ := line_ok (tp := tp) hn
    have eX : T_read_45 v1 (nI i) 1 (nI i) A b = zcI (resX (lineP E tp n) A b) (fun y1 a1 b1 => cond (decide (y1 = 0)) (zRET (some (.int (((-1)) - (a1 21 3)))) zSH a1 b1) (cond (decide ((a1 21 3) < (a1 21 2))) (T_read_89 v1 (nI i + 1) (nI i) 1 a1 b1) (T_read_89 v1 (nI i + 1) (nI i) 0 a1 b1))) := by
      rw [q_T_read_45, zcond_t (show nI i < 60 from nI_lt (b := 60) (by omega) (by decide)), zcond_f (by decide), x_line hX]
    have eM : M_rule_86 v1 (nI i) 1 1 C b = zcI (resM K (lineP E tp n) C b) (fun y1 a1 b1 => cond (decide (y1 = 0)) (M_rule_116 v1 (nI i + 1) y1 a1 b1) (zcI (M_takes 59 a1 b1) (fun y2 a2 b2 => cond (decide (y2 = 0)) (M_rule_116 v1 (nI i + 1) y1 a2 b2) (M_rule_117 v1 (nI i + 1) y1 1 a2 b2)))) := by
      rw [q_M_rule_86, zcond_f (by decide), m_line hM hR.2.2.1 (by omega)]
    have k116 : ∀ y m, M_rule_116 v1 (nI i + 1) y m b = M_rule_86 v1 (nI (i + 1)) y 0 m b := fun y m => by rw [q_M_rule_116, q_M_rule_117, nI_1]
    have k117 : ∀ m, M_rule_117 v1 (nI i + 1) 1 1 m b = M_rule_86 v1 (nI (i + 1)) 1 1 m b := fun m => by rw [q_M_rule_117, nI_1]
    cases hr : lineP E tp n with
    | mk m o =>
      rw [hr] at eX eM lo1 lo2
      have lo1 : m ≤ E := lo1
      cases o with
      | none =>
        refine .inl ⟨-1 - nI m, zup A 21 3 (nI m), zup C 194 35 (nI m), ?_, ?_, ?_, fun q hq => (zup_row (by omega)).trans (fX q hq), ⟨fun q h1 h2 => (zup_row h1).trans (fM.1 q h1 h2), fun j h1 h2 => (zup_nj h2).trans (fM.2 j h1 h2)⟩⟩
        · rw [eX]
          simp only [resX, Option.elim_none]
          rw [zcI_ok, zcond_t rfl, zup_eq]
          exact okI_ret _ _ _
        · rw [Int32.lt_iff_toInt_lt, show (-1 : Int32) - nI m = kI (-1 - m) from by rw [← kI_n, show (-1 : Int32) = kI (-1) from by decide, kI_sub], kI_toInt (by omega) (by omega), show (0 : Int32).toInt = 0 from rfl]
          omega
        · rw [eM]
          simp only [resM, Option.elim_none]
          rw [zcI_ok, zcond_t rfl, k116]
          exact m_fail (rdM_u hM lo1) (.inl rfl)
      | some s =>
        obtain ⟨g1, g2, g3⟩ := lo2 s rfl
        have g1 : n + 2 ≤ m := g1
        have g3 : s.1 = 4 → n + 6 ≤ m := g3
        obtain ⟨A1, hA1⟩ : ∃ A1, A1 = actX s (zup A 21 3 (nI m)) := ⟨_, rfl⟩
        obtain ⟨C1, hC1⟩ : ∃ C1, C1 = actM K s (zup C 194 35 (nI m)) := ⟨_, rfl⟩
        have X1 : rdX E m tp A1 := by rw [hA1]; exact actX_rd (rdX_u hX lo1)
        have M1 : rdM E m tp C1 := by rw [hC1]; exact actM_rd (rdM_u hM lo1)
        have R1 : rRd (if s.1 = 4 then K + 1 else K) A1 C1 := by rw [hA1, hC1]; exact act_ok g2 (rRd_p hR _ _)
        have F1 : fRX A1 a := by rw [hA1]; exact actX_f fX
        have F2 : fRM C1 c := by rw [hC1]; exact actM_f fM
        have K1 : 7 * (if s.1 = 4 then K + 1 else K) ≤ m + 1 := by
          by_cases c4 : s.1 = 4
          · rw [if_pos c4]; have := g3 c4; omega
          · rw [if_neg c4]; omega
        generalize (if s.1 = 4 then K + 1 else K) = K' at R1 K1
        have eX1 : T_read_45 v1 (nI i) 1 (nI i) A b = cond (decide (m < E)) (T_read_89 v1 (nI (i + 1)) (nI i) 1 A1 b) (T_read_89 v1 (nI (i + 1)) (nI i) 0 A1 b) := by
          rw [eX]
          simp only [resX, Option.elim_some]
          rw [← hA1, zcI_ok, zcond_f (by decide), X1.1, X1.2.1, nI_1]
          by_cases c : m < E
          · rw [zcond_t (nI_lt c (by omega)), decide_eq_true c]; rfl
          · rw [zcond_f (nI_nlt (by omega) (by omega)), decide_eq_false c]; rfl
        have eM1 : M_rule_86 v1 (nI i) 1 1 C b = zcI (M_takes 59 C1 b) (fun y2 a2 b2 => cond (decide (y2 = 0)) (M_rule_116 v1 (nI i + 1) 1 a2 b2) (M_rule_117 v1 (nI i + 1) 1 1 a2 b2)) := by
          rw [eM]
          simp only [resM, Option.elim_some]
          rw [← hC1, zcI_ok, zcond_f (by decide)]
        rw [m_tk M1 59] at eM1
        by_cases c : m < E
        · rw [decide_eq_true c, cond_true, q_T_read_89, zcond_f (by decide), x_tk X1 59] at eX1
          cases t1 : tkP E tp 59 m
          · rw [t1, cond_false, zcI_ok, zcond_t rfl] at eX1 eM1
            refine .inl ⟨-1 - nI m, A1, C1, ?_, ?_, ?_, F1, F2⟩
            · rw [eX1, X1.1]
              exact okI_ret _ _ _
            · rw [Int32.lt_iff_toInt_lt, show (-1 : Int32) - nI m = kI (-1 - m) from by rw [← kI_n, show (-1 : Int32) = kI (-1) from by decide, kI_sub], kI_toInt (by omega) (by omega), show (0 : Int32).toInt = 0 from rfl]
              omega
            · rw [eM1, k116]
              exact m_fail M1 (.inr c)
          · rw [t1, cond_true, zcI_ok, zcond_f (by decide)] at eX1 eM1
            rw [q_T_read_110, nI_1] at eX1
            rw [k117] at eM1
            rcases ih (i + 1) (m + 1) K' (zup A1 21 3 (nI (m + 1))) (zup C1 194 35 (nI (m + 1))) (by omega) (by omega) (by omega) K1 (rdX_u X1 (by omega)) (rdM_u M1 (by omega)) (rRd_p R1 _ _) (fun q hq => (zup_row (by omega)).trans (F1 q hq)) ⟨fun q h1 h2 => (zup_row h1).trans (F2.1 q h1 h2), fun j h1 h2 => (zup_nj h2).trans (F2.2 j h1 h2)⟩ with ⟨r, A', C', z1, z2, z3, z4, z5⟩ | ⟨i', K2, A', C', z1, z2, z3, z4, z5, z6, z7⟩
            · exact .inl ⟨r, A', C', eX1.trans z1, z2, eM1.trans z3, z4, z5⟩
            · exact .inr ⟨i', K2, A', C', z1, z2, eX1.trans z3, eM1.trans z4, z5, z6, z7⟩
        · have e : m = E := by omega
          subst e
          have t1 : tkP m tp 59 m = false := by
            unfold tkP
            rw [decide_eq_false c]
            rfl
          rw [t1, cond_false, zcI_ok, zcond_t rfl, k116, m_last M1] at eM1
          rw [decide_eq_false c, cond_false, q_T_read_89, zcond_t rfl, q_T_read_110] at eX1
          refine .inr ⟨i + 1, K', A1, C1, by omega, by omega, ?_, eM1, R1, F1, F2⟩
          rw [eX1, q_T_read_45, zcond_t rfl, nI_1]
          cases decide (nI (i + 1) < 60) <;> rfl
