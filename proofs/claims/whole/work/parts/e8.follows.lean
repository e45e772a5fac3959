/-! The reference: which filling may follow which. -/
theorem m_sat {Q q1 o Z : Nat} {V : Nat → Int32} {x y : Int32} {C : zA} {b : zB} (hQ : Q ≤ 5) (hz : zokI zSH q1 = true) (hl : zlen zSH C q1 = Z) (hZ : o + Q ≤ Z) (h9 : Z ≤ 1000) (hV : ∀ q, q < Q → C q1 (o + q) = V q) : M_satBeside q1 (nI o) (nI Q) x y C b = okI (bI (satB Q V x y)) C b := by
  have k66 : ∀ (v : Bool) i, M_satBeside_66 q1 (nI o) (nI Q) x y (nI i) (bI v) C b = M_satBeside_6 q1 (nI o) (nI Q) x y (bI v) (nI (i + 1)) C b := fun v i => by rw [q_M_satBeside_66, nI_1]
  have k61 : ∀ i, M_satBeside_61 q1 (nI o) (nI Q) x y (nI i) C b = M_satBeside_6 q1 (nI o) (nI Q) x y (bI true) (nI (i + 1)) C b := fun i => by rw [q_M_satBeside_61]; exact k66 true i
  have k65 : ∀ i, M_satBeside_65 q1 (nI o) (nI Q) x y (nI i) C b = M_satBeside_6 q1 (nI o) (nI Q) x y (bI false) (nI (i + 1)) C b := fun i => by rw [q_M_satBeside_65]; exact k66 false i
  have step : ∀ (v : Bool) i, 1 ≤ i → i < Q → M_satBeside_6 q1 (nI o) (nI Q) x y (bI v) (nI i) C b = M_satBeside_6 q1 (nI o) (nI Q) x y (bI (v || ((decide (V (i - 1) = x) && decide (V i = y)) || (decide (V (i - 1) = y) && decide (V i = x))))) (nI (i + 1)) C b := fun v i h1 h2 => by
    have e1 : nI o + nI i = nI (o + i) := nI_add o i
    have e2 : nI (o + i) - 1 = nI (o + (i - 1)) := (pk_sub (b := 1) (by omega)).trans (by congr 1; omega)
    rw [q_M_satBeside_6, zcond_t (nI_lt h2 (by omega)), hz, cond_true, hl, e1, e2, zin_nI (n := Z) (by omega) (by omega), zin_nI (n := Z) (by omega) (by omega), cond_true, cond_true, cond_true, show (nI (o + i)).toNatClampNeg = o + i from nI_clamp (by omega), show (nI (o + (i - 1))).toNatClampNeg = o + (i - 1) from nI_clamp (by omega), hV i h2, hV (i - 1) (by omega), k61, zc_b0, q_M_satBeside_48, k61, k65]
    cases v
    · rw [Bool.false_or]
      cases decide (V (i - 1) = x) <;> cases decide (V i = y) <;> cases decide (V (i - 1) = y) <;> cases decide (V i = x) <;> rfl
    · rfl
  have fin : ∀ v : Bool, M_satBeside_6 q1 (nI o) (nI Q) x y (bI v) (nI Q) C b = okI (bI v) C b := fun v => by
    rw [q_M_satBeside_6, zcond_f (nI_nlt (Nat.le_refl _) (by omega))]
    cases v
    · exact okI_ret _ _ _
    · exact okI_ret _ _ _
  rw [q_M_satBeside]
  by_cases c : 1 ≤ Q
  · have := lpB (F := fun v i => M_satBeside_6 q1 (nI o) (nI Q) x y (bI v) (nI i) C b) (K := fun v => okI (bI v) C b) (lo := 1) (n := Q) step fin (Q - 1) false 1 (Nat.le_refl _) (by omega)
    exact this.trans (by rw [Bool.false_or]; rfl)
  · have : Q = 0 := by omega
    subst this
    rw [q_M_satBeside_6, zcond_f (show ¬ (1 : Int32) < nI 0 by decide)]
    exact okI_ret _ _ _
theorem m_follows {Q W S q1 o k Z : Nat} {F : Int32} {N V X : Nat → Int32} {C : zA} {b : zB} (hQ : Q ≤ 5) (h7 : C 194 7 = nI Q) (hW : C 194 17 = nI W) (hW9 : W ≤ 9) (hS : C 194 18 = nI S) (hS9 : S ≤ 9) (hF : C 194 19 = F) (hN : ∀ p, p < 10 → C 207 p = N p) (hz : zokI zSH q1 = true) (hl : zlen zSH C q1 = Z) (hZ : o + Q ≤ Z) (h9 : Z ≤ 1000) (hV : ∀ q, q < Q → C q1 (o + q) = V q) (hk : k < 120) (hX : ∀ q, q < Q → C 221 (5 * k + q) = X q) : M_follows q1 (nI o) (nI k) C b = okI (bI (folB W S F N Q V X)) C b := by
  have k144 : ∀ p, M_follows_144 q1 (nI o) (nI k) (nI p) C b = M_follows_3 q1 (nI o) (nI k) (nI (p + 1)) C b := fun p => by rw [q_M_follows_144, nI_1]
  have inner : ∀ p, p < Q → M_follows_57 q1 (nI o) (nI k) (nI p) (X p) C b = cond (aF (fun q => decide (V q = X p) && hB (N q) p) 0 Q) (okI 0 C b) (cond ((decide (0 < p) && decide (0 < S)) && satB Q V (X (p - 1)) (X p)) (okI 0 C b) (M_follows_3 q1 (nI o) (nI k) (nI (p + 1)) C b)) := fun p hp => by
    rw [q_M_follows_57]
    refine lpE (F := fun q => M_follows_60 q1 (nI o) (nI k) (nI p) (X p) (nI q) C b) (R := okI 0 C b) (f := fun q => decide (V q = X p) && hB (N q) p) (lo := 0) (n := Q) (fun q _ hq => ?_) ?_ Q 0 (Nat.le_refl _) (Nat.zero_add _)
    · have k97 : M_follows_97 q1 (nI o) (nI k) (nI p) (X p) (nI q) C b = M_follows_60 q1 (nI o) (nI k) (nI p) (X p) (nI (q + 1)) C b := by rw [q_M_follows_97, nI_1]
      show M_follows_60 q1 (nI o) (nI k) (nI p) (X p) (nI q) C b = _
      rw [q_M_follows_60, h7, zcond_t (nI_lt hq (by omega)), hz, cond_true, hl, nI_add, zin_nI (n := Z) (by omega) (by omega), cond_true, show (nI (o + q)).toNatClampNeg = o + q from nI_clamp (by omega), hV q hq, zin_nI (n := 10) (by omega) (by decide), cond_true, show (nI q).toNatClampNeg = q from nI_clamp (by omega), hN q (by omega), m_has _ (by omega), zcI_ok, zc_b0, k97, okI_ret]
      cases decide (V q = X p) <;> cases hB (N q) p <;> rfl
    · show M_follows_60 q1 (nI o) (nI k) (nI p) (X p) (nI Q) C b = _
      rw [q_M_follows_60, h7, zcond_f (nI_nlt (Nat.le_refl _) (by omega)), k144]
      by_cases c : 0 < p
      · rw [zcond_t (show (0 : Int32) < nI p from nI_lt (a := 0) c (by omega)), hS, decide_eq_true c, Bool.true_and]
        by_cases d : 0 < S
        · have e1 : 5 * nI k + nI p - 1 = nI (5 * k + (p - 1)) := by
            rw [show 5 * nI k + nI p = nI (5 * k + p) from s_mul 5 k p, show nI (5 * k + p) - 1 = nI (5 * k + p - 1) from pk_sub (b := 1) (by omega)]
            congr 1
            omega
          rw [zcond_t (show (0 : Int32) < nI S from nI_lt (a := 0) d (by omega)), e1, zin_nI (n := 600) (by omega) (by decide), cond_true, show (nI (5 * k + (p - 1))).toNatClampNeg = 5 * k + (p - 1) from nI_clamp (by omega), hX (p - 1) (by omega), m_sat hQ hz hl hZ h9 hV, zcI_ok, zc_b0, okI_ret, decide_eq_true d, Bool.true_and, k144]
        · rw [zcond_f (show ¬ (0 : Int32) < nI S from nI_nlt (a := 0) (by omega) (by omega)), decide_eq_false d]
          rfl
      · rw [zcond_f (show ¬ (0 : Int32) < nI p from nI_nlt (a := 0) (by omega) (by omega)), decide_eq_false c]
        rfl
  have step : ∀ p, 0 ≤ p → p < Q → M_follows_3 q1 (nI o) (nI k) (nI p) C b = cond (folP W S F N Q V X p) (okI 0 C b) (M_follows_3 q1 (nI o) (nI k) (nI (p + 1)) C b) := fun p _ hp => by
    rw [q_M_follows_3, h7, zcond_t (nI_lt hp (by omega)), show 5 * nI k + nI p = nI (5 * k + p) from s_mul 5 k p, zin_nI (n := 600) (by omega) (by decide), cond_true, show (nI (5 * k + p)).toNatClampNeg = 5 * k + p from nI_clamp (by omega), hX p hp, hW, hF, m_has _ (by omega), zcI_ok, zc_b0, hz, cond_true, hl, nI_add, zin_nI (n := Z) (by omega) (by omega), cond_true, show (nI (o + p)).toNatClampNeg = o + p from nI_clamp (by omega), hV p hp, inner p hp, okI_ret]
    unfold folP hitB
    by_cases c : 0 < W
    · rw [zcond_t (show (0 : Int32) < nI W from nI_lt (a := 0) c (by omega)), decide_eq_true c, Bool.true_and]
      cases hB F p <;> cases decide (V p = X p) <;> cases aF (fun q => decide (V q = X p) && hB (N q) p) 0 Q <;> rfl
    · rw [zcond_f (show ¬ (0 : Int32) < nI W from nI_nlt (a := 0) (by omega) (by omega)), decide_eq_false c, Bool.false_and, Bool.false_and, Bool.false_or]
      cases aF (fun q => decide (V q = X p) && hB (N q) p) 0 Q <;> rfl
  have fin : M_follows_3 q1 (nI o) (nI k) (nI Q) C b = okI 1 C b := by
    rw [q_M_follows_3, h7, zcond_f (nI_nlt (Nat.le_refl _) (by omega))]
    exact okI_ret _ _ _
  rw [q_M_follows, show (0 : Int32) = nI 0 from rfl, lpE (F := fun p => M_follows_3 q1 (nI o) (nI k) (nI p) C b) (R := okI 0 C b) step fin Q 0 (Nat.le_refl _) (Nat.zero_add _), ← fol_p]
  cases aF (folP W S F N Q V X) 0 Q <;> rfl
def FD (C C0 : zA) : Prop := (∀ q, q ≠ 194 → q ≠ 221 → q ≠ 222 → q ≠ 224 → C q = C0 q) ∧ ∀ j, j ≠ 47 → C 194 j = C0 194 j
def LD (L : Nat) (R : Nat → Nat → Bool) (C : zA) : Prop := ∀ a, a < L → ∀ b, b < L → C 222 (120 * a + b) = bI (R a b)
theorem zl_221 (C : zA) : zlen zSH C 221 = 600 := rfl
theorem zl_206 (C : zA) : zlen zSH C 206 = 640 := rfl
theorem zo_221 : zokI zSH 221 = true := rfl
theorem zo_206 : zokI zSH 206 = true := rfl
theorem m_leads {P Q W S : Nat} {f : Nat → Nat → Bool} {N : Nat → Int32} {C0 : zA} (b : zB) (hP : P ≤ 5) (hQ : Q ≤ 5) (h3 : C0 194 3 = nI P) (h7 : C0 194 7 = nI Q) (hW : C0 194 17 = nI W) (hW9 : W ≤ 9) (hS : C0 194 18 = nI S) (hS9 : S ≤ 9) (hN : ∀ p, p < 10 → C0 207 p = N p) (hcan : ∀ C, FL C C0 → ∀ w p, w < P → p < Q → M_canDo (nI w) (nI p) C b = okI (bI (f w p)) C b) : ∃ C', M_leadsAll C0 b = okV C' b ∧ FD C' C0 ∧ ML Q (LST f P Q) C' ∧ LD (LST f P Q).length (fun i j => folB W S (C0 194 19) N Q (VL (LST f P Q) i) (VL (LST f P Q) j)) C' := by
  obtain ⟨C1, y1, y2, y3⟩ := m_listsAll b hP hQ h3 h7 hcan
  have hl := lst_120 f hP hQ
  obtain ⟨l, el⟩ : ∃ l, l = LST f P Q := ⟨_, rfl⟩
  rw [← el] at y3 hl ⊢
  obtain ⟨R, eR⟩ : ∃ R : Nat → Nat → Bool, R = fun i j => folB W S (C0 194 19) N Q (VL l i) (VL l j) := ⟨_, rfl⟩
  rw [← eR]
  have FDu : ∀ {C : zA} {j : Nat} {x : Int32}, FD C C0 → FD (zup C 222 j x) C0 := fun h => ⟨fun q e1 e2 e3 e4 => by rw [zup_row e3]; exact h.1 q e1 e2 e3 e4, fun j hj => by rw [zup_ne (by decide)]; exact h.2 j hj⟩
  have MLu : ∀ {C : zA} {j : Nat} {x : Int32}, ML Q l C → ML Q l (zup C 222 j x) := fun h => ⟨by rw [zup_ne (by decide)]; exact h.1, fun i hi q hq => by rw [zup_ne (by decide)]; exact h.2 i hi q hq⟩
  have l1 : ∀ i, i < l.length → ∀ k j C, j + k = l.length → FD C C0 → ML Q l C → (∀ i', i' < i → ∀ j', j' < l.length → C 222 (120 * i' + j') = bI (R i' j')) → (∀ j', j' < j → C 222 (120 * i + j') = bI (R i j')) → ∃ C', M_leadsAll_16 (nI i) (nI j) C b = M_leadsAll_6 (nI (i + 1)) C' b ∧ FD C' C0 ∧ ML Q l C' ∧ ∀ i', i' < i + 1 → ∀ j', j' < l.length → C' 222 (120 * i' + j') = bI (R i' j') := by
    intro i hi k
    induction k with
    | zero =>
      intro j C e hF hM h1 h2
      have : j = l.length := by omega
      subst this
      refine ⟨C, ?_, hF, hM, fun i' hi' j' hj' => ?_⟩
      · rw [q_M_leadsAll_16, hM.1, zcond_f (nI_nlt (Nat.le_refl _) (by omega)), nI_1]
      · by_cases d : i' = i
        · rw [d]; exact h2 j' hj'
        · exact h1 i' (by omega) j' hj'
    | succ k ih =>
      intro j C e hF hM h1 h2
      have hj : j < l.length := by omega
      have ef : M_follows 221 (5 * nI i) (nI j) C b = okI (bI (R i j)) C b := by
        rw [eR, show (5 : Int32) * nI i = nI (5 * i) from pk_mul 5 i]
        exact m_follows hQ ((hF.2 7 (by decide)).trans h7) ((hF.2 17 (by decide)).trans hW) hW9 ((hF.2 18 (by decide)).trans hS) hS9 (hF.2 19 (by decide)) (fun p hp => (congrFun (hF.1 207 (by decide) (by decide) (by decide) (by decide)) p).trans (hN p hp)) zo_221 (zl_221 C) (by omega) (by decide) (fun q hq => hM.2 i hi q hq) (by omega) (fun q hq => hM.2 j hj q hq)
      rw [q_M_leadsAll_16, hM.1, zcond_t (nI_lt hj (by omega)), ef, zcI_ok, show (120 : Int32) * nI i + nI j = nI (120 * i + j) from s_mul 120 i j, zin_nI (n := 14400) (by omega) (by decide), zz_bb, show (nI (120 * i + j)).toNatClampNeg = 120 * i + j from nI_clamp (by omega), nI_1]
      exact ih (j + 1) _ (by omega) (FDu hF) (MLu hM) (fun i' hi' j' hj' => by rw [zup_nj (by omega)]; exact h1 i' hi' j' hj') (fun j' hj' => by
        by_cases d : j' = j
        · rw [d, zup_eq]
        · rw [zup_nj (by omega)]; exact h2 j' (by omega))
  have l2 : ∀ k i C, i + k = l.length → FD C C0 → ML Q l C → (∀ i', i' < i → ∀ j', j' < l.length → C 222 (120 * i' + j') = bI (R i' j')) → ∃ C', M_leadsAll_6 (nI i) C b = okV C' b ∧ FD C' C0 ∧ ML Q l C' ∧ LD l.length R C' := by
    intro k
    induction k with
    | zero =>
      intro i C e hF hM h1
      have : i = l.length := by omega
      subst this
      refine ⟨C, ?_, hF, hM, h1⟩
      rw [q_M_leadsAll_6, hM.1, zcond_f (nI_nlt (Nat.le_refl _) (by omega))]
      exact okV_ret _ _
    | succ k ih =>
      intro i C e hF hM h1
      obtain ⟨C', z1, z2, z3, z4⟩ := l1 i (by omega) l.length 0 C (Nat.zero_add _) hF hM h1 (fun j' hj' => absurd hj' (Nat.not_lt_zero _))
      rw [q_M_leadsAll_6, hM.1, zcond_t (nI_lt (show i < l.length by omega) (by omega)), show (0 : Int32) = nI 0 from rfl, z1]
      exact ih (i + 1) C' (by omega) z2 z3 z4
  obtain ⟨C', z1, z2, z3, z4⟩ := l2 l.length 0 C1 (Nat.zero_add _) ⟨fun q e1 e2 _ e4 => y2.1 q e1 e2 e4, y2.2⟩ y3 (fun i hi => absurd hi (Nat.not_lt_zero _))
  refine ⟨C', ?_, z2, z3, z4⟩
  rw [q_M_leadsAll, y1, zcV_ok]
  exact z1
