/-! breaking. -/
theorem p_table {c : Int} {P Q T W S : Nat} {a0 a : zA} {b : zB} (hc : 0 ≤ c ∧ c ≤ 5000) (hG : PGo c P Q T W S a0 a) : ∃ B, M_breaking_30 0 a b = M_breaking_85 (nI 0 - 1) B b ∧ (∀ q, q ≠ 217 → B q = a q) ∧ TOk (scB c a0 T W Q) (tgB c a0 Q T S) bl0 P Q (fun _ v => v) 0 B := by
  have hP := hG.1.1.1.1
  have hQ := hG.1.1.1.2.1
  have p2 : 2 ^ P ≤ 1024 := Nat.pow_le_pow_right (by decide) hP
  -- the base
  have h11 : ∃ A, M_breaking_30 0 a b = M_breaking_85 (nI Q - 1) A b ∧ (∀ q, q ≠ 217 → A q = a q) ∧ TOk (scB c a0 T W Q) (tgB c a0 Q T S) bl0 P Q (fun _ v => v) Q A := by
    have inner : ∀ u, u < 2 ^ P → ∀ A : zA, (∀ q, q ≠ 217 → A q = a q) → ∃ A', M_breaking_42 (nI u) (-1) A b = M_breaking_30 (nI (u + 1)) A' b ∧ (∀ q, q ≠ 217 → A' q = a q) ∧ (∀ j, ¬ (∃ i, i ≤ P ∧ j = ixM Q u i) → A' 217 j = A 217 j) ∧ ∀ i, i ≤ P → A' 217 (ixM Q u i) = 0 := by
      intro u hu
      have loop : ∀ n i, i + n = P + 1 → ∀ A : zA, (∀ q, q ≠ 217 → A q = a q) → ∃ A', M_breaking_42 (nI u) (nI i - 1) A b = M_breaking_30 (nI (u + 1)) A' b ∧ (∀ q, q ≠ 217 → A' q = a q) ∧ (∀ j, ¬ (∃ i', i ≤ i' ∧ i' ≤ P ∧ j = ixM Q u i') → A' 217 j = A 217 j) ∧ ∀ i', i ≤ i' → i' ≤ P → A' 217 (ixM Q u i') = 0 := by
        intro n
        induction n with
        | zero =>
          intro i hi A h1
          have : i = P + 1 := by omega
          subst this
          refine ⟨A, ?_, h1, fun _ _ => rfl, fun i' g1 g2 => absurd g2 (by omega)⟩
          rw [q_M_breaking_42, h1 194 (by decide), hG.1.1.2.1.1.2, show nI (P + 1) - 1 = nI P from nI_pred P, zcond_f (nI_nlt (Nat.le_refl _) (by omega)), nI_1]
        | succ n ih =>
          intro i hi A h1
          have lt : nI i - 1 < nI P := by
            by_cases cc : i = 0
            · subst cc
              rw [Int32.lt_iff_toInt_lt, show (nI 0 - 1).toInt = -1 from by decide, nI_toInt (by omega)]
              omega
            · rw [show nI i - 1 = nI (i - 1) from pk_sub (b := 1) (by omega)]
              exact nI_lt (by omega) (by omega)
          have hx : nI i - 1 + 1 = nI i := Int32.sub_add_cancel _ _
          have ilt := ixM_lt (p := Q) (u := u) (i := i) hQ (by omega) (by omega)
          obtain ⟨A', y1, y2, y3, y4⟩ := ih (i + 1) (by omega) (zup A 217 (ixM Q u i) 0) (fun q hq => (zup_row hq).trans (h1 q hq))
          refine ⟨A', ?_, y2, fun j hj => ?_, fun i' g1 g2 => ?_⟩
          · rw [q_M_breaking_42, h1 194 (by decide), hG.1.1.2.1.1.2, zcond_t lt, hG.1.1.2.1.2.1.2, m_index hQ (by omega) (by omega) hx, zcI_ok, zin_nI (n := 123904) ilt (by decide), cond_true, show (nI (ixM Q u i)).toNatClampNeg = ixM Q u i from nI_clamp (by omega), hx, show nI i = nI (i + 1) - 1 from (nI_pred i).symm]
            exact y1
          · rw [y3 j (fun ⟨i', z1, z2, z3⟩ => hj ⟨i', by omega, z2, z3⟩)]
            exact zup_nj (fun z => hj ⟨i, Nat.le_refl _, by omega, z⟩)
          · by_cases cc : i' = i
            · subst cc
              rw [y3 _ (fun ⟨i2, z1, z2, z3⟩ => by unfold ixM at z3; omega), zup_eq]
            · exact y4 i' (by omega) g2
      intro A h1
      obtain ⟨A', y1, y2, y3, y4⟩ := loop (P + 1) 0 (Nat.zero_add _) A h1
      exact ⟨A', y1, y2, fun j hj => y3 j (fun ⟨i, z1, z2, z3⟩ => hj ⟨i, z2, z3⟩), fun i hi => y4 i (Nat.zero_le _) hi⟩
    have outer : ∀ u, u ≤ 2 ^ P → ∃ A, M_breaking_30 0 a b = M_breaking_30 (nI u) A b ∧ (∀ q, q ≠ 217 → A q = a q) ∧ ∀ u', u' < u → ∀ i, i ≤ P → A 217 (ixM Q u' i) = 0 := by
      intro u
      induction u with
      | zero => intro _; exact ⟨a, rfl, fun _ _ => rfl, fun u' h => absurd h (by omega)⟩
      | succ u ih =>
        intro hu
        obtain ⟨A, e1, e2, e3⟩ := ih (by omega)
        obtain ⟨A', f1, f2, f3, f4⟩ := inner u (by omega) A e2
        refine ⟨A', ?_, f2, fun u' g1 i g2 => ?_⟩
        · rw [e1, q_M_breaking_30, e2 194 (by decide), hG.1.1.2.1.1.2, shl_n hP, zcond_t (nI_lt (by omega) (by omega))]
          exact f1
        · by_cases cc : u' = u
          · subst cc; exact f4 i g2
          · rw [f3 _ (fun ⟨i2, z1, z2⟩ => by unfold ixM at z2; omega)]
            exact e3 u' (by omega) i g2
    obtain ⟨A, e1, e2, e3⟩ := outer (2 ^ P) (Nat.le_refl _)
    refine ⟨A, ?_, e2, fun r g1 g2 u g3 l g4 => ?_⟩
    · rw [e1, q_M_breaking_30, e2 194 (by decide), hG.1.1.2.1.1.2, shl_n hP, zcond_f (nI_nlt (Nat.le_refl _) (by omega)), hG.1.1.2.1.2.1.2]
    · have : r = Q := by omega
      subst this
      have ai : aiM l ≤ P := by unfold aiM; split <;> omega
      rw [e3 u g3 _ ai, Nat.sub_self]
      rfl
  obtain ⟨A, e1, e2, e3⟩ := h11
  have h66 : ∀ k p, p + k = Q → ∃ A', M_breaking_85 (nI Q - 1) A b = M_breaking_85 (nI p - 1) A' b ∧ (∀ q, q ≠ 217 → A' q = a q) ∧ TOk (scB c a0 T W Q) (tgB c a0 Q T S) bl0 P Q (fun _ v => v) p A' := by
    intro k
    induction k with
    | zero =>
      intro p hp
      have : p = Q := by omega
      subst this
      exact ⟨A, rfl, e2, e3⟩
    | succ k ih =>
      intro p hp
      obtain ⟨A', f1, f2, f3⟩ := ih (p + 1) (by omega)
      obtain ⟨A'', y1, y2, y3⟩ := p_layer (b := b) (p := p) hc (PGo_f hG (fun q g1 _ => f2 q g1)) hP hQ hp f3
      refine ⟨A'', ?_, fun q hq => (y2 q hq).trans (f2 q hq), y3⟩
      rw [f1, nI_pred, q_M_breaking_85, zcond_f (nI_pos (by omega)), y1, zcV_ok, Int32.sub_eq_add_neg]
  obtain ⟨B, f1, f2, f3⟩ := h66 Q 0 (Nat.zero_add _)
  exact ⟨B, e1.trans f1, f2, f3⟩
theorem fF_R {h : Nat → Int} : ∀ k j x, fF (fun i s => s + h i) j k x = x + sumR h j k
  | 0, _, x => (Int.add_zero x).symm
  | k + 1, j, x => by
    show fF (fun i s => s + h i) (j + 1) k (x + h j) = x + (h j + sumR h (j + 1) k)
    rw [fF_R k, Int.add_assoc]
theorem x_worthF {Q P : Nat} {m a : zA} {b : zB} {F : Nat → Option Nat} (hQ : Q ≤ 10) (hP : P ≤ 10) (h2 : m 2 1 = nI Q) (h5 : m 5 = a 5) (hF : ∀ q, q < Q → m 28 q = encW (F q)) (hf : ∀ q w, q < Q → F q = some w → w < P) : W_worthOf m b = okI (kI (sumR (fun q => opW a q (F q)) 0 Q)) m b := by
  have hs : ∀ (s : Int) i, 0 ≤ i → i < Q → W_worthOf_4 (kI s) (nI i) m b = W_worthOf_4 (kI (s + opW a i (F i))) (nI (i + 1)) m b := by
    intro s i _ hi
    have k41 : ∀ z : Int, W_worthOf_41 (nI i) (kI s) (kI z) m b = W_worthOf_4 (kI (s + z)) (nI (i + 1)) m b := fun z => by rw [q_W_worthOf_41, kI_add, nI_1]
    rw [q_W_worthOf_4, h2, zcond_t (nI_lt hi (by omega)), zcond_t (show nI i < 10 from nI_lt (b := 10) (by omega) (by decide)), zin_nI (n := 10) (by omega) (by decide), cond_true, show (nI i).toNatClampNeg = i from nI_clamp (by omega), hF i hi]
    cases hc : F i with
    | none =>
      rw [zcond_t (show encW none = -1 from rfl)]
      exact k41 0
    | some w =>
      have hw := hf i w hi hc
      rw [zcond_f (show ¬ encW (some w) = -1 from nI_m1 (by omega)), x_prize (by omega), zcI_ok, h5, show cond (decide (a 5 i = 0)) (10 : Int32) 1010 = kI (prz a i) from by
        unfold prz
        by_cases cc : a 5 i = 0
        · rw [decide_eq_true cc, if_pos cc]; rfl
        · rw [decide_eq_false cc, if_neg cc]; rfl]
      exact k41 (prz a i)
  have he : ∀ s : Int, W_worthOf_4 (kI s) (nI Q) m b = okI (kI s) m b := fun s => by
    rw [q_W_worthOf_4, h2, zcond_f (nI_nlt (Nat.le_refl _) (by omega)), q_W_worthOf_49]
    exact okI_ret _ _ _
  rw [q_W_worthOf]
  refine (lpF (F := fun (s : Int) i => W_worthOf_4 (kI s) (nI i) m b) (K := fun s => okI (kI s) m b) (st := fun i s => s + opW a i (F i)) hs he Q 0 0 (Nat.le_refl _) (Nat.zero_add _)).trans ?_
  rw [fF_R, Int.zero_add]
def encL (l : Nat) : Int32 := if l = 10 then -1 else nI l
theorem encL_o {o : Option Nat} (h : ∀ w, o = some w → w < 10) : encL (laO o) = encW o := by
  cases o with
  | none => rfl
  | some w =>
    have := h w rfl
    exact if_neg (show ¬ w = 10 by omega)
theorem x_times {c : Int} {P Q T W S : Nat} {a m K : zA} {b : zB} (hv : vw P Q T W S m K) (hs : sameX m a) : ∀ k p u l n, p + k = Q → (l = 10 ∨ l < P) → (∀ q, p ≤ q → q < Q → m 28 q = encW (filO (scB c a T W Q) (tgB c a Q T S) bl0 P k p u l q)) → W_timesBroken_7 (nI n) (encL l) (nI p) m b = okI (nI (n + sumB (scB c a T W Q) (tgB c a Q T S) bl0 P (brkO a T W Q S) k p u l)) m b := by
  intro k
  obtain ⟨⟨g1, g2, g3, g4, g5⟩, ⟨-, ⟨q1, -⟩, ⟨t1, -⟩, -⟩, -⟩ := id hv
  induction k with
  | zero =>
    intro p u l n hp _ _
    have : p = Q := by omega
    subst this
    rw [q_W_timesBroken_7, q1, zcond_f (nI_nlt (Nat.le_refl _) (by omega)), q_W_timesBroken_99]
    exact okI_ret _ _ _
  | succ k ih =>
    intro p u l n hp hl hF
    obtain ⟨o, ho⟩ : ∃ o, o = chO (scB c a T W Q) (tgB c a Q T S) bl0 P k p u l := ⟨_, rfl⟩
    have hF0 : m 28 p = encW o := by
      rw [hF p (Nat.le_refl _) (by omega), ho]
      show encW (if p = p then _ else _) = _
      rw [if_pos rfl]
    have hoc : ∀ w, o = some w → w < P := fun w e => (chO_some (ho.symm.trans e)).1
    have hF1 : ∀ q, p + 1 ≤ q → q < Q → m 28 q = encW (filO (scB c a T W Q) (tgB c a Q T S) bl0 P k (p + 1) (usO u o) (laO o) q) := fun q h1 h2 => by
      rw [hF q (by omega) h2, ho]
      show encW (if q = p then _ else _) = _
      rw [if_neg (by omega)]
    have lo : laO o = 10 ∨ laO o < P := by
      cases hcc : o with
      | none => exact .inl rfl
      | some w => exact .inr (hoc w hcc)
    have goal : ∀ r, r = W_timesBroken_7 (nI (n + brkO a T W Q S l p o)) (encL (laO o)) (nI (p + 1)) m b → r = okI (nI (n + sumB (scB c a T W Q) (tgB c a Q T S) bl0 P (brkO a T W Q S) (k + 1) p u l)) m b := fun r hr => by
      rw [hr, ih (p + 1) (usO u o) (laO o) (n + brkO a T W Q S l p o) (by omega) lo hF1]
      show _ = okI (nI (n + (brkO a T W Q S l p (chO (scB c a T W Q) (tgB c a Q T S) bl0 P k p u l) + sumB _ _ _ _ _ k (p + 1) _ _))) m b
      rw [← ho, Nat.add_assoc]
    refine goal _ ?_
    have e90 : ∀ z : Nat, W_timesBroken_90 (nI z) (nI p) (encW o) m b = W_timesBroken_7 (nI z) (encL (laO o)) (nI (p + 1)) m b := fun z => by
      rw [q_W_timesBroken_90, nI_1, encL_o (fun w e => by have := hoc w e; omega)]
    rw [q_W_timesBroken_7, q1, zcond_t (nI_lt (by omega) (by omega)), zcond_t (show nI p < 10 from nI_lt (b := 10) (by omega) (by decide)), zin_nI (n := 10) (by omega) (by decide), cond_true, show (nI p).toNatClampNeg = p from nI_clamp (by omega), hF0]
    cases hcc : o with
    | none =>
      rw [hcc] at e90
      rw [zcond_t (show encW none = -1 from rfl), q_W_timesBroken_59, zcond_t (show encW none = -1 from rfl), e90]
      rfl
    | some w =>
      have hw := hoc w hcc
      rw [hcc] at e90
      have e59 : ∀ z : Nat, W_timesBroken_59 (nI z) (encL l) (nI p) (nI w) m b = W_timesBroken_7 (nI (z + bn (decide (l < 10) && metB (xE a) Q T S T l w))) (nI w) (nI (p + 1)) m b := fun z => by
        have e90 : ∀ z : Nat, W_timesBroken_90 (nI z) (nI p) (nI w) m b = W_timesBroken_7 (nI z) (nI w) (nI (p + 1)) m b := fun z => by rw [q_W_timesBroken_90, nI_1]
        rw [q_W_timesBroken_59, zcond_f (show ¬ nI w = -1 from nI_m1 (by omega))]
        rcases hl with h | h
        · rw [show encL l = -1 from if_pos h, zcond_t rfl, e90, decide_eq_false (show ¬ l < 10 by omega)]
          rfl
        · rw [show encL l = nI l from if_neg (by omega), zcond_f (show ¬ nI l = -1 from nI_m1 (by omega)), t1, v_mayX hv h (by omega) (by omega), zcI_ok, zc_b0, e90, nI_1, e90, decide_eq_true (show l < 10 by omega), Bool.true_and, xE_s hs]
          cases metB (xE a) Q T S T l w <;> rfl
      show cond (decide (nI w = -1)) _ _ = W_timesBroken_7 (nI (n + (bn (!decide (yWhy a T W Q w p T = 0)) + bn (decide (l < 10) && metB (xE a) Q T S T l w)))) (encL w) (nI (p + 1)) m b
      rw [zcond_f (show ¬ nI w = -1 from nI_m1 (by omega)), t1, show W_whyNot (encW (some w)) (nI p) (nI T) m b = okI (yWhy a T W Q w p T) m b from by rw [← yWhy_s hs]; exact v_whyX hv hw (by omega) (by omega), zcI_ok, show encW (some w) = nI w from rfl, e59, nI_1, e59, show encL w = nI w from if_neg (by omega), ← Nat.add_assoc]
      cases decide (yWhy a T W Q w p T = 0) <;> rfl
