/-! The reference's tables at a price, layer by layer. -/
theorem chV_n (c : Int) (a : zA) (P Q T W S k p u l : Nat) : chV c a P Q T W S k p u l none = bl0 p + opV (scB c a T W Q) (tgB c a Q T S) bl0 P k (p + 1) u 10 := by
  show 0 - c * ((0 : Nat) : Int) + opV (scB c a T W Q) (tgB c a Q T S) bl0 P k (p + 1) u 10 = 0 + _
  rw [show c * ((0 : Nat) : Int) = 0 from Int.mul_zero c]
  omega
theorem okA_g {c : Int} {a : zA} {T W Q S p l w : Nat} : gnO (scB c a T W Q) (tgB c a Q T S) p l w = cond (okA a T w p) (some (prz a p - c * (brkO a T W Q S l p (some w) : Nat))) none := gnB c a T W Q S p l w
theorem brk_b (a : zA) (T W Q S l p : Nat) (o : Option Nat) : brkO a T W Q S l p o ≤ 2 := by
  cases o with
  | none => exact Nat.zero_le _
  | some w =>
    show bn _ + bn _ ≤ 2
    cases (!decide (yWhy a T W Q w p T = 0)) <;> cases (decide (l < 10) && metB (xE a) Q T S T l w) <;> decide
theorem chV_b {c : Int} (hc : 0 ≤ c ∧ c ≤ 5000) (a : zA) {P Q T W S k p u l : Nat} (hk : k ≤ 10) (o : Option Nat) : -20000 ≤ chV c a P Q T W S k p u l o ∧ chV c a P Q T W S k p u l o ≤ 200000 := by
  have h1 := opV_bB hc a P Q T W S k (p + 1) (usO u o) (laO o)
  have h2 := brk_b a T W Q S l p o
  have h3 := prz_b a p
  have h4 : 0 ≤ opW a p o ∧ opW a p o ≤ 1010 := by
    cases o with
    | none => show (0 : Int) ≤ 0 ∧ (0 : Int) ≤ 1010; decide
    | some w => show 0 ≤ prz a p ∧ prz a p ≤ 1010; omega
  have h5 : 0 ≤ c * (brkO a T W Q S l p o : Nat) ∧ c * (brkO a T W Q S l p o : Nat) ≤ 10000 := by
    have h6 : ((brkO a T W Q S l p o : Nat) : Int) ≤ 2 := by omega
    have h7 : (0 : Int) ≤ ((brkO a T W Q S l p o : Nat) : Int) := by omega
    refine ⟨Int.mul_nonneg hc.1 h7, ?_⟩
    have := Int.mul_le_mul hc.2 h6 h7 (show (0 : Int) ≤ 5000 by decide)
    omega
  unfold chV
  omega
theorem x3_i {i l P : Nat} (hP : P ≤ 10) (hi : i ≤ P) (hl : (i = 0 ∧ l = 10) ∨ (1 ≤ i ∧ l = i - 1)) : X3 l (nI i - 1) := by
  rcases hl with ⟨h1, h2⟩ | ⟨h1, h2⟩
  · subst h1 h2
    exact ⟨by decide, ⟨fun _ => rfl, fun _ => by decide⟩, fun z => absurd rfl z⟩
  · have e1 : nI i - 1 = nI l := by rw [h2]; exact pk_sub (b := 1) h1
    refine ⟨?_, ⟨fun z => ?_, fun z => by omega⟩, fun _ => e1⟩
    · rw [Int32.sub_add_cancel]
      unfold aiM
      rw [if_neg (by omega), show l + 1 = i by omega]
    · rw [e1] at z
      exact absurd z (nI_pos (by omega))
theorem p_cell {c : Int} {P Q T W S k p u i l : Nat} {a0 a : zA} {b : zB} (hc : 0 ≤ c ∧ c ≤ 5000) (hG : PGo c P Q T W S a0 a) (hP : P ≤ 10) (hQ : Q ≤ 10) (hp : p + (k + 1) = Q) (hu : u < 2 ^ P) (hi : i ≤ P) (hl : (i = 0 ∧ l = 10) ∨ (1 ≤ i ∧ l = i - 1)) (hlu : l = 10 ∨ Nat.testBit u l = true) (hT : TOk (scB c a0 T W Q) (tgB c a0 Q T S) bl0 P Q (fun _ v => v) (p + 1) a) : M_pricedLayer_37 (nI p) (nI u) (nI i - 1) a b = M_pricedLayer_119 (nI p) (nI u) (nI i - 1) (zup a 217 (ixM p u i) (kI (id (opV (scB c a0 T W Q) (tgB c a0 Q T S) bl0 P (k + 1) p u l)))) b := by
  have p2 : 2 ^ P ≤ 1024 := Nat.pow_le_pow_right (by decide) hP
  have hx := x3_i (l := l) hP hi hl
  have hl2 : l = 10 ∨ l < P := by omega
  obtain ⟨x3, h3⟩ : ∃ x3, x3 = nI i - 1 := ⟨_, rfl⟩
  rw [← h3] at hx ⊢
  have hx0 : x3 + 1 = nI i := by rw [h3]; exact Int32.sub_add_cancel _ _
  obtain ⟨st, hst⟩ : ∃ st : Nat → Int → Int, st = fun w m => cond (Nat.testBit u w) m ((gnO (scB c a0 T W Q) (tgB c a0 Q T S) p l w).elim m (fun g => max m (g + opV (scB c a0 T W Q) (tgB c a0 Q T S) bl0 P k (p + 1) (u ||| 2 ^ w) w))) := ⟨_, rfl⟩
  have hs : ∀ m w, (-20000 ≤ m ∧ m ≤ 200000) → 0 ≤ w → w < P → M_pricedLayer_50 (nI p) (nI u) x3 (kI m) (nI w) a b = M_pricedLayer_50 (nI p) (nI u) x3 (kI (st w m)) (nI (w + 1)) a b ∧ (-20000 ≤ st w m ∧ st w m ≤ 200000) := by
    intro m w hm _ hw
    have nx : ∀ v, M_pricedLayer_97 (nI p) (nI u) x3 (nI w) v a b = M_pricedLayer_50 (nI p) (nI u) x3 v (nI (w + 1)) a b := fun v => by rw [q_M_pricedLayer_97, nI_1]
    have nx2 : ∀ v, M_pricedLayer_95 (nI p) (nI u) x3 v (nI w) a b = M_pricedLayer_50 (nI p) (nI u) x3 v (nI (w + 1)) a b := fun v => by rw [q_M_pricedLayer_95, nx]
    have ev : st w m = cond (Nat.testBit u w) m (cond (okA a0 T w p) (max m (chV c a0 P Q T W S k p u l (some w))) m) := by
      rw [hst]
      show cond _ _ _ = _
      rw [okA_g]
      cases Nat.testBit u w
      · cases okA a0 T w p <;> rfl
      · rfl
    rw [ev, q_M_pricedLayer_50, hG.1.1.2.1.1.2, zcond_t (nI_lt hw (by omega)), m_has _ (by omega), zcI_ok, zc_b0, tbB (by omega), nx2]
    cases tb : Nat.testBit u w
    · have hwl : w ≠ l := fun z => by
        rcases hlu with h | h
        · omega
        · rw [← z, tb] at h; exact absurd h (by decide)
      rw [cond_false, cond_false, pg_able hG (by omega) hw, zcI_ok, zc_b0]
      cases okA a0 T w p
      · exact ⟨nx2 _, hm⟩
      · have bv := chV_b hc a0 (P := P) (Q := Q) (T := T) (W := W) (S := S) (k := k) (p := p) (u := u) (l := l) (by omega) (some w)
        rw [cond_true, cond_true, show M_priced (nI p) (nI u) x3 (nI w) a b = _ from pg_priced (o := some w) hc hG hp hu hl2 hx (.inr ⟨w, hw, hwl, rfl⟩) hT, zcI_ok, kI_max (by omega) (by omega) (by omega) (by omega), nx]
        exact ⟨rfl, by omega, by omega⟩
    · exact ⟨rfl, hm⟩
  have ilt := ixM_lt (p := p) (u := u) (i := i) (by omega) (by omega) (by omega)
  have he : ∀ m, (-20000 ≤ m ∧ m ≤ 200000) → M_pricedLayer_50 (nI p) (nI u) x3 (kI m) (nI P) a b = M_pricedLayer_119 (nI p) (nI u) x3 (zup a 217 (ixM p u i) (kI m)) b := by
    intro m _
    rw [q_M_pricedLayer_50, hG.1.1.2.1.1.2, zcond_f (nI_nlt (Nat.le_refl _) (by omega)), m_index (by omega) (by omega) (by omega) hx0, zcI_ok, zin_nI (n := 123904) ilt (by decide), cond_true, show (nI (ixM p u i)).toNatClampNeg = ixM p u i from nI_clamp (by omega)]
  have bn0 := chV_b hc a0 (P := P) (Q := Q) (T := T) (W := W) (S := S) (k := k) (p := p) (u := u) (l := l) (by omega) none
  rw [q_M_pricedLayer_37, show M_priced (nI p) (nI u) x3 (-1) a b = _ from pg_priced (o := none) hc hG hp hu hl2 hx (.inl rfl) hT, zcI_ok]
  refine (lpI (F := fun m w => M_pricedLayer_50 (nI p) (nI u) x3 (kI m) (nI w) a b) (K := fun m => M_pricedLayer_119 (nI p) (nI u) x3 (zup a 217 (ixM p u i) (kI m)) b) (st := st) (fun m => -20000 ≤ m ∧ m ≤ 200000) hs he P _ 0 bn0 (Nat.le_refl _) (Nat.zero_add _)).1.trans ?_
  rw [hst, chV_n]
  rfl
/-- a layer -/
theorem p_layer {c : Int} {P Q T W S k p : Nat} {a0 a : zA} {b : zB} (hc : 0 ≤ c ∧ c ≤ 5000) (hG : PGo c P Q T W S a0 a) (hP : P ≤ 10) (hQ : Q ≤ 10) (hp : p + (k + 1) = Q) (hT : TOk (scB c a0 T W Q) (tgB c a0 Q T S) bl0 P Q (fun _ v => v) (p + 1) a) : ∃ a', M_pricedLayer (nI p) a b = okV a' b ∧ (∀ q, q ≠ 217 → a' q = a q) ∧ TOk (scB c a0 T W Q) (tgB c a0 Q T S) bl0 P Q (fun _ v => v) p a' := by
  have p2 : 2 ^ P ≤ 1024 := Nat.pow_le_pow_right (by decide) hP
  have tk : ∀ (A : zA), (∀ q, q ≠ 217 → A q = a q) → (∀ r, p + 1 ≤ r → ∀ u, u < 1024 → ∀ i, i ≤ 10 → A 217 (ixM r u i) = a 217 (ixM r u i)) → TOk (scB c a0 T W Q) (tgB c a0 Q T S) bl0 P Q (fun _ v => v) (p + 1) A := fun A h1 h2 r g1 g2 u g3 l g4 => by
    have : aiM l ≤ 10 := by unfold aiM; split <;> omega
    rw [h2 r g1 u (by omega) _ this]
    exact hT r g1 g2 u g3 l g4
  -- the entries of one set
  have inner : ∀ u, u < 2 ^ P → ∀ (A : zA), (∀ q, q ≠ 217 → A q = a q) → (∀ r, p + 1 ≤ r → ∀ u, u < 1024 → ∀ i, i ≤ 10 → A 217 (ixM r u i) = a 217 (ixM r u i)) → ∃ A', M_pricedLayer_14 (nI p) (nI u) (-1) A b = M_pricedLayer_2 (nI p) (nI (u + 1)) A' b ∧ (∀ q, q ≠ 217 → A' q = a q) ∧ (∀ r, p + 1 ≤ r → ∀ u, u < 1024 → ∀ i, i ≤ 10 → A' 217 (ixM r u i) = a 217 (ixM r u i)) ∧ (∀ u', u' < u → ∀ i, i ≤ 10 → A' 217 (ixM p u' i) = A 217 (ixM p u' i)) ∧ ∀ l, (l = 10 ∨ (l < P ∧ Nat.testBit u l = true)) → A' 217 (ixM p u (aiM l)) = kI (id (opV (scB c a0 T W Q) (tgB c a0 Q T S) bl0 P (k + 1) p u l)) := by
    intro u hu A hA1 hA2
    have loop : ∀ n i, i + n = P + 1 → ∀ (A : zA), (∀ q, q ≠ 217 → A q = a q) → (∀ r, p + 1 ≤ r → ∀ u, u < 1024 → ∀ i, i ≤ 10 → A 217 (ixM r u i) = a 217 (ixM r u i)) → ∃ A', M_pricedLayer_14 (nI p) (nI u) (nI i - 1) A b = M_pricedLayer_2 (nI p) (nI (u + 1)) A' b ∧ (∀ q, q ≠ 217 → A' q = a q) ∧ (∀ r, p + 1 ≤ r → ∀ u, u < 1024 → ∀ i, i ≤ 10 → A' 217 (ixM r u i) = a 217 (ixM r u i)) ∧ (∀ u', u' ≤ u → ∀ j, j ≤ 10 → (u' < u ∨ j < i) → A' 217 (ixM p u' j) = A 217 (ixM p u' j)) ∧ ∀ l, (l = 10 ∨ (l < P ∧ Nat.testBit u l = true)) → i ≤ aiM l → A' 217 (ixM p u (aiM l)) = kI (id (opV (scB c a0 T W Q) (tgB c a0 Q T S) bl0 P (k + 1) p u l)) := by
      intro n
      induction n with
      | zero =>
        intro i hi A h1 h2
        have : i = P + 1 := by omega
        subst this
        refine ⟨A, ?_, h1, h2, fun _ _ _ _ _ => rfl, fun l hl hi => ?_⟩
        · rw [q_M_pricedLayer_14, h1 194 (by decide), hG.1.1.2.1.1.2, show nI (P + 1) - 1 = nI P from nI_pred P, zcond_f (nI_nlt (Nat.le_refl _) (by omega)), nI_1]
        · unfold aiM at hi
          split at hi <;> omega
      | succ n ih =>
        intro i hi A h1 h2
        have lt : nI i - 1 < nI P := by
          by_cases cc : i = 0
          · subst cc
            rw [Int32.lt_iff_toInt_lt, show (nI 0 - 1).toInt = -1 from by decide, nI_toInt (by omega)]
            omega
          · rw [show nI i - 1 = nI (i - 1) from pk_sub (b := 1) (by omega)]
            exact nI_lt (by omega) (by omega)
        have nx : ∀ B : zA, M_pricedLayer_119 (nI p) (nI u) (nI i - 1) B b = M_pricedLayer_14 (nI p) (nI u) (nI (i + 1) - 1) B b := fun B => by
          rw [q_M_pricedLayer_119, Int32.sub_add_cancel, nI_pred]
        have gA : PGo c P Q T W S a0 A := PGo_f hG (fun q g1 _ => h1 q g1)
        -- written
        have wr : ∀ l, ((i = 0 ∧ l = 10) ∨ (1 ≤ i ∧ l = i - 1)) → (l = 10 ∨ Nat.testBit u l = true) → ∃ A', M_pricedLayer_37 (nI p) (nI u) (nI i - 1) A b = M_pricedLayer_2 (nI p) (nI (u + 1)) A' b ∧ (∀ q, q ≠ 217 → A' q = a q) ∧ (∀ r, p + 1 ≤ r → ∀ u, u < 1024 → ∀ i, i ≤ 10 → A' 217 (ixM r u i) = a 217 (ixM r u i)) ∧ (∀ u', u' ≤ u → ∀ j, j ≤ 10 → (u' < u ∨ j < i) → A' 217 (ixM p u' j) = A 217 (ixM p u' j)) ∧ ∀ l, (l = 10 ∨ (l < P ∧ Nat.testBit u l = true)) → i ≤ aiM l → A' 217 (ixM p u (aiM l)) = kI (id (opV (scB c a0 T W Q) (tgB c a0 Q T S) bl0 P (k + 1) p u l)) := by
          intro l hl hlu
          obtain ⟨B, hB0⟩ : ∃ B, B = zup A 217 (ixM p u i) (kI (id (opV (scB c a0 T W Q) (tgB c a0 Q T S) bl0 P (k + 1) p u l))) := ⟨_, rfl⟩
          obtain ⟨A', y1, y2, y3, y4, y5⟩ := ih (i + 1) (by omega) B (fun q hq => by rw [hB0, zup_row hq]; exact h1 q hq) (fun r g1 u' g2 i' g3 => by
            rw [hB0, zup_nj (by unfold ixM; omega)]
            exact h2 r g1 u' g2 i' g3)
          refine ⟨A', ?_, y2, y3, fun u' g1 j g2 g3 => ?_, fun l' g1 g2 => ?_⟩
          · rw [p_cell hc gA hP hQ hp hu (by omega) hl hlu (tk A h1 h2), ← hB0, nx]
            exact y1
          · rw [y4 u' g1 j g2 (by omega), hB0, zup_nj (by unfold ixM; omega)]
          · by_cases cc : aiM l' = i
            · have e : l' = l := by
                unfold aiM at cc
                split at cc <;> omega
              have ib : aiM l' ≤ 10 := by omega
              rw [y4 u (Nat.le_refl _) (aiM l') ib (.inr (by omega)), hB0, cc, zup_eq, e]
            · exact y5 l' g1 (by omega)
        rw [q_M_pricedLayer_14, h1 194 (by decide), hG.1.1.2.1.1.2, zcond_t lt]
        by_cases cc : i = 0
        · subst cc
          rw [zcond_t (show nI 0 - 1 < 0 by decide)]
          exact wr 10 (.inl ⟨rfl, rfl⟩) (.inl rfl)
        · have e1 : nI i - 1 = nI (i - 1) := pk_sub (b := 1) (by omega)
          have ep : ¬ (nI i - 1 < 0) := by rw [e1]; exact nI_pos (by omega)
          rw [zcond_f ep, show M_has (nI u) (nI i - 1) A b = okI (bI (Nat.testBit u (i - 1))) A b from by rw [e1, m_has _ (by omega), tbB (by omega)], zcI_ok, zc_b0]
          cases tb : Nat.testBit u (i - 1)
          · rw [cond_false, nx]
            obtain ⟨A', y1, y2, y3, y4, y5⟩ := ih (i + 1) (by omega) A h1 h2
            refine ⟨A', y1, y2, y3, fun u' g1 j g2 g3 => y4 u' g1 j g2 (by omega), fun l' g1 g2 => ?_⟩
            by_cases c2 : aiM l' = i
            · exfalso
              unfold aiM at c2
              split at c2
              · omega
              · rcases g1 with g1 | ⟨_, g1⟩
                · omega
                · rw [show i - 1 = l' by omega] at tb
                  exact absurd (tb.symm.trans g1) (by decide)
            · exact y5 l' g1 (by omega)
          · rw [cond_true]
            exact wr (i - 1) (.inr ⟨by omega, rfl⟩) (.inr tb)
    obtain ⟨A', y1, y2, y3, y4, y5⟩ := loop (P + 1) 0 (Nat.zero_add _) A hA1 hA2
    exact ⟨A', y1, y2, y3, fun u' g1 i g2 => y4 u' (by omega) i g2 (.inl g1), fun l hl => y5 l hl (Nat.zero_le _)⟩
  have outer : ∀ u, u ≤ 2 ^ P → ∃ A, M_pricedLayer_2 (nI p) 0 a b = M_pricedLayer_2 (nI p) (nI u) A b ∧ (∀ q, q ≠ 217 → A q = a q) ∧ (∀ r, p + 1 ≤ r → ∀ u, u < 1024 → ∀ i, i ≤ 10 → A 217 (ixM r u i) = a 217 (ixM r u i)) ∧ ∀ u', u' < u → ∀ l, (l = 10 ∨ (l < P ∧ Nat.testBit u' l = true)) → A 217 (ixM p u' (aiM l)) = kI (id (opV (scB c a0 T W Q) (tgB c a0 Q T S) bl0 P (k + 1) p u' l)) := by
    intro u
    induction u with
    | zero => intro _; exact ⟨a, rfl, fun _ _ => rfl, fun _ _ _ _ _ _ => rfl, fun u' h => absurd h (by omega)⟩
    | succ u ih =>
      intro hu
      obtain ⟨A, e1, e2, e3, e4⟩ := ih (by omega)
      obtain ⟨A', f1, f2, f3, f4, f5⟩ := inner u (by omega) A e2 e3
      refine ⟨A', ?_, f2, f3, fun u' g1 l g2 => ?_⟩
      · rw [e1, q_M_pricedLayer_2, e2 194 (by decide), hG.1.1.2.1.1.2, shl_n hP, zcond_t (nI_lt (by omega) (by omega))]
        exact f1
      · by_cases cc : u' = u
        · subst cc; exact f5 l g2
        · have : aiM l ≤ 10 := by unfold aiM; split <;> omega
          rw [f4 u' (by omega) _ this]
          exact e4 u' (by omega) l g2
  obtain ⟨A, e1, e2, e3, e4⟩ := outer (2 ^ P) (Nat.le_refl _)
  refine ⟨A, ?_, e2, fun r g1 g2 u g3 l g4 => ?_⟩
  · rw [q_M_pricedLayer, e1, q_M_pricedLayer_2, e2 194 (by decide), hG.1.1.2.1.1.2, shl_n hP, zcond_f (nI_nlt (Nat.le_refl _) (by omega))]
    exact okV_ret _ _
  · by_cases cc : r = p
    · subst cc
      rw [show Q - r = k + 1 by omega]
      exact e4 u g3 l g4
    · exact tk A e2 e3 r (by omega) g2 u g3 l g4
