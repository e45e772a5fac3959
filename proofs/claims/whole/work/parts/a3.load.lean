/-! The tables that the class loads; the same by the reference. -/
def prz (a : zA) (p : Nat) : Int := if a 5 p = 0 then 10 else 1010
theorem prz_b (a : zA) (p : Nat) : 10 ≤ prz a p ∧ prz a p ≤ 1010 := by
  unfold prz
  split <;> omega
def scP (pr : Option Int) (F : Int32) (a : zA) (T W Q p w : Nat) : Option Int := cond (yAble a w p && decide (a 11 (100 * w + T) = 0)) (cond (hB F w || decide (yWhy a T W Q w p T = 0)) (some (prz a p)) (pr.elim none (fun c => some (prz a p - c)))) none
def tgP (pr : Option Int) (F : Int32) (a : zA) (Q T S l w : Nat) : Option Int := cond (!metB (xE a) Q T S T l w || (hB F l || hB F w)) (some 0) (pr.elim none (fun c => some (-c)))
def prI (pr : Option Int) : Int32 := pr.elim (-1) kI
def prOk (pr : Option Int) : Prop := ∀ c, pr = some c → 0 ≤ c ∧ c ≤ 5000
theorem opB_P {pr : Option Int} (h : prOk pr) (F : Int32) (a : zA) (T W Q S : Nat) : opB (scP pr F a T W Q) (tgP pr F a Q T S) (fun _ => 0) := by
  refine ⟨fun p w s hs => ?_, fun l w t ht => ?_, fun p => ⟨Int.le_refl _, (by decide : (0 : Int) ≤ 1)⟩⟩
  · have hb := prz_b a p
    unfold scP at hs
    cases h1 : (yAble a w p && decide (a 11 (100 * w + T) = 0))
    · rw [h1] at hs; exact absurd hs (by simp)
    · rw [h1, cond_true] at hs
      cases h2 : (hB F w || decide (yWhy a T W Q w p T = 0))
      · rw [h2, cond_false] at hs
        cases hp : pr with
        | none => rw [hp] at hs; exact absurd hs (by simp)
        | some c =>
          rw [hp] at hs
          have : prz a p - c = s := Option.some.inj hs
          have := h c hp
          omega
      · rw [h2, cond_true] at hs
        have : prz a p = s := Option.some.inj hs
        omega
  · unfold tgP at ht
    cases h2 : (!metB (xE a) Q T S T l w || (hB F l || hB F w))
    · rw [h2, cond_false] at ht
      cases hp : pr with
      | none => rw [hp] at ht; exact absurd ht (by simp)
      | some c =>
        rw [hp] at ht
        have : -c = t := Option.some.inj ht
        have := h c hp
        omega
    · rw [h2, cond_true] at ht
      have : (0 : Int) = t := Option.some.inj ht
      omega
/-- whom the class frees, and whom the reference frees -/
def frz (P : Nat) (x F : Int32) : Prop := ∀ w, w < P → (hB F w = true ↔ x = -1 ∨ x = nI w)
theorem yWhy_1 (a : zA) (T W Q w p d : Nat) : (yWhy a T W Q w p d = 1 ↔ ¬ a 11 (100 * w + d) = 0) := by
  unfold yWhy whyX
  by_cases c : a 11 (100 * w + d) = 0
  · rw [decide_eq_true c]
    refine ⟨fun h => absurd h ?_, fun h => absurd c h⟩
    cases thereB (xE a) T W p d w <;> cases hB (a 8 3) p <;> cases (decide (0 < d) && (decide (d ≤ T) && fromB (xE a) (a 10) Q p d w)) <;> decide
  · rw [decide_eq_false c]
    exact ⟨fun _ => c, fun _ => rfl⟩
theorem x_score {P Q T W S p w : Nat} {pr : Option Int} {x F : Int32} {a c : zA} {b : zB} (hv : vw P Q T W S a c) (hf : frz P x F) (hpr : prOk pr) (hw : w < P) (hp : p < Q) : C_scoreOf (nI w) (nI p) x (prI pr) a b = okI (kI (encO (scP pr F a T W Q p w))) a b := by
  obtain ⟨g1, g2, g3, g4, g5⟩ := hv.1
  have t1 := hv.2.1.2.2.1.1
  have e3 : H_worthOfPost (nI p) a b = okI (kI (prz a p)) a b := by
    rw [x_prize (by omega)]
    unfold prz
    by_cases c : a 5 p = 0
    · rw [decide_eq_true c, if_pos c]; rfl
    · rw [decide_eq_false c, if_neg c]; rfl
  have k67 : ∀ v, C_scoreOf_67 v a b = okI v a b := fun v => by rw [q_C_scoreOf_67]; exact okI_ret _ _ _
  have k86 : ∀ v, C_scoreOf_86 v a b = okI v a b := fun v => by rw [q_C_scoreOf_86]; exact okI_ret _ _ _
  have hF := hf w hw
  unfold scP
  rw [q_C_scoreOf, v_ableW hv hw hp, zcI_ok, zc_b0]
  cases yAble a w p
  · rw [cond_false, Bool.false_and, cond_false]
    exact (okI_ret _ _ _).trans (by rw [← kI_bar]; rfl)
  · rw [cond_true, Bool.true_and, e3, zcI_ok, t1, v_whyX hv hw (by omega) (by omega), zcI_ok, k67, k86, k86]
    by_cases c1 : a 11 (100 * w + T) = 0
    · rw [zcond_f (fun z => (yWhy_1 a T W Q w p T).mp z c1), decide_eq_true c1, cond_true]
      by_cases c2 : yWhy a T W Q w p T = 0
      · rw [zcond_t c2, decide_eq_true c2, Bool.or_true, cond_true]
        rfl
      · rw [zcond_f c2, decide_eq_false c2, Bool.or_false]
        by_cases c3 : x = -1
        · rw [zcond_t c3, hF.mpr (.inl c3), cond_true]
          rfl
        · by_cases c4 : x = nI w
          · rw [zcond_f c3, zcond_t c4, hF.mpr (.inr c4), cond_true]
            rfl
          · rw [zcond_f c3, zcond_f c4, show hB F w = false from Bool.eq_false_iff.mpr fun z => by rcases hF.mp z with z | z; exact c3 z; exact c4 z, cond_false]
            cases hp : pr with
            | none =>
              rw [zcond_t (show prI none = -1 from rfl), ← kI_bar]
              rfl
            | some c =>
              have hc := hpr c hp
              rw [zcond_f (show ¬ prI (some c) = -1 from fun z => by
                have := (kI_eq (x := c) (y := -1) (by omega) (by omega) (by decide) (by decide)).mp (z.trans (show (-1 : Int32) = kI (-1) from by decide))
                omega), show prI (some c) = kI c from rfl, kI_sub]
              rfl
    · rw [zcond_t ((yWhy_1 a T W Q w p T).mpr c1), decide_eq_false c1, cond_false]
      exact (okI_ret _ _ _).trans (by rw [← kI_bar]; rfl)
theorem scP_s {pr : Option Int} {F : Int32} {a a' : zA} (h : sameX a' a) : scP pr F a' = scP pr F a := by
  unfold scP prz
  rw [yAble_s h, yWhy_s h, h 11 (by decide) (by decide), h 5 (by decide) (by decide)]
theorem tgP_s {pr : Option Int} {F : Int32} {a a' : zA} (h : sameX a' a) : tgP pr F a' = tgP pr F a := by
  unfold tgP
  rw [xE_s h]
theorem x_load {P Q T W S : Nat} {pr : Option Int} {x F : Int32} {a c : zA} {b : zB} (hv : vw P Q T W S a c) (hf : frz P x F) (hpr : prOk pr) : ∃ a', C_load x (prI pr) a b = okV a' b ∧ (∀ q, ¬ (29 ≤ q ∧ q ≤ 31) → a' q = a q) ∧ SL (scP pr F a T W Q) (tgP pr F a Q T S) (fun _ => 0) P Q a' := by
  obtain ⟨g1, g2, g3, g4, g5⟩ := hv.1
  obtain ⟨⟨p1, -⟩, ⟨q1, -⟩, ⟨t1, -⟩, -⟩ := hv.2.1
  have sx : ∀ A : zA, (∀ q, ¬ (29 ≤ q ∧ q ≤ 31) → A q = a q) → sameX A a := fun A h q h1 h2 => h q (by omega)
  -- the posts
  have rowP : ∀ p, p < Q → ∀ A : zA, (∀ q, ¬ (29 ≤ q ∧ q ≤ 31) → A q = a q) → ∃ A', C_load_2 x (prI pr) (nI p) A b = C_load_2 x (prI pr) (nI (p + 1)) A' b ∧ (∀ q, ¬ (29 ≤ q ∧ q ≤ 31) → A' q = a q) ∧ (∀ j, ¬ (10 * p ≤ j ∧ j < 10 * p + 10) → A' 29 j = A 29 j) ∧ (∀ w, w < P → A' 29 (10 * p + w) = kI (encO (scP pr F a T W Q p w))) ∧ (∀ j, j ≠ p → A' 31 j = A 31 j) ∧ A' 31 p = 0 := by
    intro p hp A hA
    obtain ⟨g, hg⟩ : ∃ g : Nat → Int32, g = fun w => kI (encO (scP pr F a T W Q p w)) := ⟨_, rfl⟩
    obtain ⟨B, hB0⟩ : ∃ B, B = zup A 31 p 0 := ⟨_, rfl⟩
    have fB : ∀ i, ∀ q, ¬ (29 ≤ q ∧ q ≤ 31) → zfo B 29 (10 * p) i g q = a q := fun i q hq => by rw [zfo_q (by omega), hB0, zup_row (by omega)]; exact hA q hq
    have hs : ∀ w, w < P → C_load_23 x (prI pr) (nI p) (nI w) (zfo B 29 (10 * p) w g) b = C_load_23 x (prI pr) (nI p) (nI (w + 1)) (zfo B 29 (10 * p) (w + 1) g) b := by
      intro w hw
      have e1 := x_score (b := b) (vw_s hv (sx _ (fB w))) hf hpr hw hp
      rw [scP_s (sx _ (fB w))] at e1
      have i1 : nI p * 10 + nI w = nI (10 * p + w) := (s_mul p 10 w).trans (by rw [Nat.mul_comm])
      rw [q_C_load_23, fB w 2 (by omega), p1, zcond_t (nI_lt hw (by omega)), e1, zcI_ok, i1, zin_nI (n := 100) (by omega) (by decide), cond_true, show (nI (10 * p + w)).toNatClampNeg = 10 * p + w from nI_clamp (by omega), nI_1, ← zfo_s, hg]
    have e := lpC (F := fun w => C_load_23 x (prI pr) (nI p) (nI w) (zfo B 29 (10 * p) w g) b) hs P 0 (Nat.zero_add _)
    rw [zfo_0] at e
    refine ⟨zfo B 29 (10 * p) P g, ?_, fB P, fun j hj => ?_, fun w hw => ?_, fun j hj => ?_, ?_⟩
    · rw [q_C_load_2, hA 2 (by omega), q1, zcond_t (nI_lt hp (by omega)), zin_nI (n := 10) (by omega) (by decide), cond_true, show (nI p).toNatClampNeg = p from nI_clamp (by omega), ← hB0]
      refine Eq.trans e ?_
      rw [q_C_load_23, fB P 2 (by omega), p1, zcond_f (nI_nlt (Nat.le_refl _) (by omega)), nI_1]
    · rw [zfo_o (by omega), hB0, zup_ne (by decide)]
    · rw [zfo_j hw, hg]
    · rw [zfo_q (by decide), hB0, zup_nj hj]
    · rw [zfo_q (by decide), hB0, zup_eq]
  have posts : ∀ p, p ≤ Q → ∃ A, C_load x (prI pr) a b = C_load_2 x (prI pr) (nI p) A b ∧ (∀ q, ¬ (29 ≤ q ∧ q ≤ 31) → A q = a q) ∧ (∀ p', p' < p → ∀ w, w < P → A 29 (10 * p' + w) = kI (encO (scP pr F a T W Q p' w))) ∧ ∀ p', p' < p → A 31 p' = 0 := by
    intro p
    induction p with
    | zero => intro _; exact ⟨a, q_C_load _ _ _ _, fun _ _ => rfl, fun p' h => absurd h (by omega), fun p' h => absurd h (by omega)⟩
    | succ p ih =>
      intro hp
      obtain ⟨A, e1, e2, e3, e4⟩ := ih (by omega)
      obtain ⟨A', f1, f2, f3, f4, f5, f6⟩ := rowP p (by omega) A e2
      refine ⟨A', e1.trans f1, f2, fun p' h w hw => ?_, fun p' h => ?_⟩
      · by_cases c : p' = p
        · subst c; exact f4 w hw
        · rw [f3 _ (by omega)]; exact e3 p' (by omega) w hw
      · by_cases c : p' = p
        · subst c; exact f6
        · rw [f5 _ c]; exact e4 p' (by omega)
  obtain ⟨A, e1, e2, e3, e4⟩ := posts Q (Nat.le_refl Q)
  -- the pairs
  have rowW : ∀ l, l < P → ∀ A : zA, (∀ q, ¬ (29 ≤ q ∧ q ≤ 31) → A q = a q) → ∃ A', C_load_70 x (prI pr) (nI l) A b = C_load_70 x (prI pr) (nI (l + 1)) A' b ∧ (∀ q, q ≠ 30 → A' q = A q) ∧ (∀ j, ¬ (10 * l ≤ j ∧ j < 10 * l + 10) → A' 30 j = A 30 j) ∧ ∀ w, w < P → A' 30 (10 * l + w) = kI (encO (tgP pr F a Q T S l w)) := by
    intro l hl A hA
    obtain ⟨g, hg⟩ : ∃ g : Nat → Int32, g = fun w => kI (encO (tgP pr F a Q T S l w)) := ⟨_, rfl⟩
    have fB : ∀ i, ∀ q, ¬ (29 ≤ q ∧ q ≤ 31) → zfo A 30 (10 * l) i g q = a q := fun i q hq => by rw [zfo_q (by omega)]; exact hA q hq
    have hs : ∀ w, w < P → C_load_101 x (prI pr) (nI l) (bitsOf (metB (xE a) Q T S T l)) (nI w) (zfo A 30 (10 * l) w g) b = C_load_101 x (prI pr) (nI l) (bitsOf (metB (xE a) Q T S T l)) (nI (w + 1)) (zfo A 30 (10 * l) (w + 1) g) b := by
      intro w hw
      have i1 : nI l * 10 + nI w = nI (10 * l + w) := (s_mul l 10 w).trans (by rw [Nat.mul_comm])
      have k178 : ∀ v, v = g w → C_load_178 x (prI pr) (nI l) (bitsOf (metB (xE a) Q T S T l)) (nI w) (nI (10 * l + w)) v (zfo A 30 (10 * l) w g) b = C_load_101 x (prI pr) (nI l) (bitsOf (metB (xE a) Q T S T l)) (nI (w + 1)) (zfo A 30 (10 * l) (w + 1) g) b := fun v hv => by
        rw [q_C_load_178, zin_nI (n := 100) (by omega) (by decide), cond_true, show (nI (10 * l + w)).toNatClampNeg = 10 * l + w from nI_clamp (by omega), nI_1, ← zfo_s, hv]
      have k144 : ∀ f : Bool, f = (!metB (xE a) Q T S T l w || (hB F l || hB F w)) → C_load_144 x (prI pr) (nI l) (bitsOf (metB (xE a) Q T S T l)) (nI w) (bI f) (zfo A 30 (10 * l) w g) b = C_load_101 x (prI pr) (nI l) (bitsOf (metB (xE a) Q T S T l)) (nI (w + 1)) (zfo A 30 (10 * l) (w + 1) g) b := fun f hf2 => by
        rw [q_C_load_144, zc_b0, i1]
        have gw : g w = kI (encO (cond f (some 0) (pr.elim none (fun c => some (-c))))) := by rw [hg, hf2]; rfl
        cases f
        · rw [cond_false]
          cases hp : pr with
          | none =>
            rw [hp] at gw k178
            rw [zcond_t (show prI none = -1 from rfl)]
            exact k178 _ (by rw [gw, ← kI_bar]; rfl)
          | some c =>
            have hc := hpr c hp
            rw [hp] at gw k178
            rw [zcond_f (show ¬ prI (some c) = -1 from fun z => by
              have := (kI_eq (x := c) (y := -1) (by omega) (by omega) (by decide) (by decide)).mp (z.trans (show (-1 : Int32) = kI (-1) from by decide))
              omega)]
            exact k178 _ (by rw [gw]; exact (Int32.ofInt_neg c).symm)
        · rw [cond_true]
          exact k178 _ (by rw [gw]; rfl)
      have k139 : C_load_139 x (prI pr) (nI l) (bitsOf (metB (xE a) Q T S T l)) (nI w) (zfo A 30 (10 * l) w g) b = C_load_144 x (prI pr) (nI l) (bitsOf (metB (xE a) Q T S T l)) (nI w) (bI true) (zfo A 30 (10 * l) w g) b := q_C_load_139 _ _ _ _ _ _ _
      rw [q_C_load_101, fB w 2 (by omega), p1, zcond_t (nI_lt hw (by omega)), hB_test (by omega), zc_b0, hB_bits (by omega), k139]
      cases hm : metB (xE a) Q T S T l w
      · rw [cond_false]
        exact k144 true (by rw [hm]; rfl)
      · rw [cond_true]
        by_cases c1 : x = -1
        · rw [zcond_t c1]
          exact k144 true (by rw [hm, (hf l hl).mpr (.inl c1)]; rfl)
        · by_cases c2 : x = nI l
          · rw [zcond_f c1, zcond_t c2]
            exact k144 true (by rw [hm, (hf l hl).mpr (.inr c2)]; rfl)
          · by_cases c3 : x = nI w
            · rw [zcond_f c1, zcond_f c2, zcond_t c3]
              exact k144 true (by rw [hm, (hf w hw).mpr (.inr c3), Bool.or_true]; rfl)
            · rw [zcond_f c1, zcond_f c2, zcond_f c3]
              exact k144 false (by
                rw [hm, show hB F l = false from Bool.eq_false_iff.mpr fun z => by rcases (hf l hl).mp z with z | z; exact c1 z; exact c2 z, show hB F w = false from Bool.eq_false_iff.mpr fun z => by rcases (hf w hw).mp z with z | z; exact c1 z; exact c3 z]
                rfl)
    have e := lpC (F := fun w => C_load_101 x (prI pr) (nI l) (bitsOf (metB (xE a) Q T S T l)) (nI w) (zfo A 30 (10 * l) w g) b) hs P 0 (Nat.zero_add _)
    rw [zfo_0] at e
    have em := v_metX (b := b) (d := T) (vw_s hv (sx A hA)) hl (by omega)
    rw [xE_s (sx A hA)] at em
    refine ⟨zfo A 30 (10 * l) P g, ?_, fun q hq => zfo_q hq, fun j hj => zfo_o (by omega), fun w hw => ?_⟩
    · rw [q_C_load_70, hA 2 (by omega), p1, zcond_t (nI_lt hl (by omega)), hA 12 (by omega), t1, em, zcI_ok]
      refine Eq.trans e ?_
      rw [q_C_load_101, fB P 2 (by omega), p1, zcond_f (nI_nlt (Nat.le_refl _) (by omega)), nI_1]
    · rw [zfo_j hw, hg]
  have pairs : ∀ l, l ≤ P → ∃ B, C_load_70 x (prI pr) 0 A b = C_load_70 x (prI pr) (nI l) B b ∧ (∀ q, q ≠ 30 → B q = A q) ∧ ∀ l', l' < l → ∀ w, w < P → B 30 (10 * l' + w) = kI (encO (tgP pr F a Q T S l' w)) := by
    intro l
    induction l with
    | zero => intro _; exact ⟨A, rfl, fun _ _ => rfl, fun l' h => absurd h (by omega)⟩
    | succ l ih =>
      intro hl
      obtain ⟨B, f1, f2, f3⟩ := ih (by omega)
      obtain ⟨B', y1, y2, y3, y4⟩ := rowW l (by omega) B (fun q hq => (f2 q (by omega)).trans (e2 q hq))
      refine ⟨B', f1.trans y1, fun q hq => (y2 q hq).trans (f2 q hq), fun l' h w hw => ?_⟩
      by_cases c : l' = l
      · subst c; exact y4 w hw
      · rw [y3 _ (by omega)]; exact f3 l' (by omega) w hw
  obtain ⟨B, f1, f2, f3⟩ := pairs P (Nat.le_refl P)
  refine ⟨B, ?_, fun q hq => (f2 q (by omega)).trans (e2 q hq), ?_, ?_, fun p w hp hw => ?_, fun l w hl hw => f3 l hl w hw, fun p hp => ?_⟩
  · rw [e1, q_C_load_2, e2 2 (by omega), q1, zcond_f (nI_nlt (Nat.le_refl _) (by omega)), f1, q_C_load_70, f2 2 (by decide), e2 2 (by omega), p1, zcond_f (nI_nlt (Nat.le_refl _) (by omega))]
    exact okV_ret _ _
  · rw [f2 2 (by decide), e2 2 (by omega)]; exact p1
  · rw [f2 2 (by decide), e2 2 (by omega)]; exact q1
  · rw [f2 29 (by decide)]; exact e3 p hp w hw
  · rw [f2 31 (by decide)]; exact e4 p hp
