/-! The class: mostParts as a whole. -/
theorem x_seek {P Q T W S n : Nat} {a : zA} {b : zB} (h : cfA P Q T W S a) (hG0 : GX Q (ALL P Q) (fR W S (a 8 3) (a 10) Q (ALL P Q)) a b) (hT : FTr a P Q T W S n b) (hn : n ≤ 3) : ∀ m d k, k + (m + 1) = n → m < d → ∀ c (s : Int) st A, (0 ≤ s ∧ s ≤ 50 * (k : Int)) → FXH A a → HTr a P Q T W S 0 n A → CHr P Q k c A → SSr n st A → ∃ A', R_seekChain d (nI k) (nI n) (kI s) A b = okV A' b ∧ FXH A' a ∧ HTr a P Q T W S 0 n A' ∧ CHr P Q k c A' ∧ SSr n (brC a P Q T W S (m + 1) k c s st) A' := by
  intro m
  induction m with
  | zero =>
    intro d k hk hd
    obtain ⟨d, rfl⟩ : ∃ d', d = d' + 1 := ⟨d - 1, by omega⟩
    exact x_seek1 h hG0 hT hn hk (.inl rfl)
  | succ m ih =>
    intro d k hk hd
    obtain ⟨d, rfl⟩ : ∃ d', d = d' + 1 := ⟨d - 1, by omega⟩
    exact x_seek1 h hG0 hT hn hk (.inr ⟨Nat.succ_pos m, ih d (k + 1) (by omega) (by omega)⟩)
theorem cfA_vw {P Q T W S : Nat} {a c : zA} (hv : vw P Q T W S a c) (hP : P ≤ 5) (hQ : Q ≤ 5) : cfA P Q T W S a := by
  obtain ⟨⟨-, -, -, g4, g5⟩, ⟨-, ⟨q1, -⟩, -, ⟨w1, -⟩, s1, -⟩, -, -, ⟨-, -, -, -, u5⟩, -⟩ := hv
  exact ⟨⟨hP, hQ, g4, g5⟩, q1, w1, s1, fun p hp => nI_10 (u5 p hp).2.1 (u5 p hp).2.2⟩
theorem x_mostP {P Q T W S n : Nat} {a c : zA} (hv : vw P Q T W S a c) (hP : P ≤ 5) (hQ : Q ≤ 5) (hn1 : 1 ≤ n) (hn : n ≤ 3) (b : zB) (hG : GX Q (ALL P Q) (fR W S (a 8 3) (a 10) Q (ALL P Q)) a b) (c0 d0 : Nat → Nat) : ∃ A' b', R_mostParts (nI n) a b = okI (kI (brC a P Q T W S n 0 c0 0 (-1, d0)).1) A' b' ∧ FXH A' a ∧ SSr n (brC a P Q T W S n 0 c0 0 (-1, d0)) A' := by
  have h := cfA_vw hv hP hQ
  have hN := all_120 hP hQ
  obtain ⟨y, y1, y2⟩ := x_ableF (b := b) hv hP hQ
  have l7 : ∀ m k b, k + m = n → GX Q (ALL P Q) (fR W S (a 8 3) (a 10) Q (ALL P Q)) a b → FTr a P Q T W S k b → ∃ b', R_mostParts_7 (nI n) y (nI k) a b = R_mostParts_29 (nI n) a b' ∧ GX Q (ALL P Q) (fR W S (a 8 3) (a 10) Q (ALL P Q)) a b' ∧ FTr a P Q T W S n b' := by
    intro m
    induction m with
    | zero =>
      intro k b e hG hT
      have : k = n := by omega
      subst this
      refine ⟨b, ?_, hG, hT⟩
      rw [q_R_mostParts_7, zcond_f (nI_nlt (Nat.le_refl _) (by omega))]
    | succ m ih =>
      intro k b e hG hT
      obtain ⟨b1, z1, z2, z3⟩ := x_fit hv hP hQ (show k < 3 by omega) b hG y2
      rw [q_R_mostParts_7, zcond_t (nI_lt (show k < n by omega) (by omega)), zcond_t (show nI k < 3 from nI_lt (b := 3) (by omega) (by decide)), z1, zcV_ok, nI_1]
      refine ih (k + 1) b1 (by omega) (GX_f hN hG (fun _ _ => rfl) (fun _ _ _ => rfl) (fun q hq => z3 q (by omega))) (fun k' hk' j hj => ?_)
      by_cases d : k' = k
      · rw [d]; exact z2 j hj
      · rw [hK_q (z3 (168 + k') (by omega))]
        exact hT k' (by omega) j hj
  obtain ⟨b1, u1, u2, u3⟩ := l7 n 0 b (Nat.zero_add _) hG (fun k hk => absurd hk (Nat.not_lt_zero _))
  have gx : ∀ A, FXH A a → GX Q (ALL P Q) (fR W S (a 8 3) (a 10) Q (ALL P Q)) A b1 := fun A hF => GX_f hN u2 hF.2 (fun q h1 h2 => hF.1 q (by omega) (by omega) (by omega) (by omega)) (fun _ _ => rfl)
  have l40 : ∀ k, k < n → ∀ x i A, i + x = (ALL P Q).length → FXH A a → HTr a P Q T W S (k + 1) n A → (∀ i', i' < i → A 46 (120 * k + i') = kI (hpC a P Q T W S (n - 1 - k) k i')) → ∃ A', R_mostParts_40 (nI n) (nI k) (nI i) A b1 = R_mostParts_33 (nI n) (nI k + (-1)) A' b1 ∧ FXH A' a ∧ HTr a P Q T W S k n A' := by
    intro k hk x
    induction x with
    | zero =>
      intro i A e hF hH hi
      have ei : i = (ALL P Q).length := by omega
      refine ⟨A, ?_, hF, fun k' e1 e2 i' hi' => ?_⟩
      · rw [q_R_mostParts_40, (gx A hF).1.1, zcond_f (nI_nlt (by omega) (by omega))]
      · by_cases d : k' = k
        · rw [d]; exact hi i' (by omega)
        · exact hH k' (by omega) e2 i' hi'
    | succ x ih =>
      intro i A e hF hH hi
      have hiN : i < (ALL P Q).length := by omega
      have k80 : ∀ v, R_mostParts_80 (nI n) (nI k) (nI i) (nI k * 120 + nI i) v A b1 = R_mostParts_40 (nI n) (nI k) (nI (i + 1)) (zup A 46 (120 * k + i) v) b1 := fun v => by
        rw [q_R_mostParts_80, show nI k * 120 + nI i = nI (120 * k + i) from (s_mul k 120 i).trans (by rw [Nat.mul_comm]), zin_nI (n := 360) (by omega) (by decide), cond_true, show (nI (120 * k + i)).toNatClampNeg = 120 * k + i from nI_clamp (by omega), nI_1]
      have step : R_mostParts_40 (nI n) (nI k) (nI i) A b1 = R_mostParts_40 (nI n) (nI k) (nI (i + 1)) (zup A 46 (120 * k + i) (kI (hpC a P Q T W S (n - 1 - k) k i))) b1 := by
        rw [q_R_mostParts_40, (gx A hF).1.1, zcond_t (nI_lt hiN (by omega)), k80]
        by_cases c1 : k = n - 1
        · rw [zcond_t (show nI k = nI n - 1 by rw [c1]; exact (pk_sub (b := 1) hn1).symm), show n - 1 - k = 0 by omega]
          rfl
        · have hh := x_hope (k := k) (m := n - 1 - (k + 1)) (i := i) h hF (gx A hF) u3 hn (by omega) hiN (fun j hj => hH (k + 1) (Nat.le_refl _) (by omega) j hj) (by omega)
          rw [show n - 1 - (k + 1) + 1 = n - 1 - k by omega] at hh
          rw [zcond_f (show ¬ nI k = nI n - 1 from fun z => by rw [show nI n - 1 = nI (n - 1) from pk_sub (b := 1) hn1] at z; exact c1 ((nI_eq (by omega) (by omega)).mp z)), nI_1, hh, zcI_ok, k80]
      rw [step]
      refine ih (i + 1) _ (by omega) ⟨fun q e1 e2 e3 e4 => by rw [zup_row e3]; exact hF.1 q e1 e2 e3 e4, fun j hj => by rw [zup_ne (by decide)]; exact hF.2 j hj⟩ (fun k' e1 e2 i' hi' => by rw [zup_nj (by omega)]; exact hH k' e1 e2 i' hi') (fun i' hi' => ?_)
      by_cases d : i' = i
      · rw [d, zup_eq]
      · rw [zup_nj (by omega)]; exact hi i' (by omega)
  have l33 : ∀ k A, k < n → FXH A a → HTr a P Q T W S (k + 1) n A → ∃ A', R_mostParts_33 (nI n) (nI k) A b1 = R_mostParts_33 (nI n) (-1) A' b1 ∧ FXH A' a ∧ HTr a P Q T W S 0 n A' := by
    intro k
    induction k with
    | zero =>
      intro A hk hF hH
      obtain ⟨A', z1, z2, z3⟩ := l40 0 hk (ALL P Q).length 0 A (Nat.zero_add _) hF hH (fun i' hi' => absurd hi' (Nat.not_lt_zero _))
      refine ⟨A', ?_, z2, z3⟩
      rw [q_R_mostParts_33, zcond_f (nI_pos (by omega)), show (0 : Int32) = nI 0 from rfl, z1]
      rfl
    | succ k ih =>
      intro A hk hF hH
      obtain ⟨A', z1, z2, z3⟩ := l40 (k + 1) hk (ALL P Q).length 0 A (Nat.zero_add _) hF hH (fun i' hi' => absurd hi' (Nat.not_lt_zero _))
      obtain ⟨A2, w1, w2, w3⟩ := ih A' (by omega) z2 z3
      refine ⟨A2, ?_, w2, w3⟩
      rw [q_R_mostParts_33, zcond_f (nI_pos (by omega)), show (0 : Int32) = nI 0 from rfl, z1, ← Int32.sub_eq_add_neg, nI_pred, w1]
  obtain ⟨A1, v1, v2, v3⟩ := l33 (n - 1) a (by omega) ⟨fun _ _ _ _ _ => rfl, fun _ _ => rfl⟩ (fun k' e1 e2 => absurd e2 (by omega))
  have en : n - 1 + 1 = n := by omega
  obtain ⟨A', w1, w2, -, -, w5⟩ := x_seek h u2 u3 hn (n - 1) 31 0 (by omega) (by omega) c0 0 (-1, d0) (zup A1 35 19 (-1)) ⟨by decide, by decide⟩ ⟨fun q e1 e2 e3 e4 => by rw [zup_row e1]; exact v2.1 q e1 e2 e3 e4, fun j hj => by rw [zup_nj hj]; exact v2.2 j hj⟩ (fun k' e1 e2 i' hi' => by rw [zup_ne (by decide)]; exact v3 k' e1 e2 i' hi') (fun q hq => absurd hq (Nat.not_lt_zero _)) ⟨zup_eq _ _ _ _, ⟨show (-1 : Int) ≤ -1 by decide, show (-1 : Int) ≤ 150 by decide⟩, fun z => absurd (show (0 : Int) ≤ -1 from z) (by decide)⟩
  rw [en] at w5
  refine ⟨A', b1, ?_, w2, w5⟩
  rw [q_R_mostParts, y1, zcI_ok, show (0 : Int32) = nI 0 from rfl, u1, q_R_mostParts_29, show nI n - 1 = nI (n - 1) from pk_sub (b := 1) hn1, v1, q_R_mostParts_33, zcond_t (show (-1 : Int32) < 0 by decide), show R_seekChain 31 0 (nI n) 0 (zup A1 35 19 (-1)) b1 = okV A' b1 from w1, zcV_ok, w5.1]
  exact okI_ret _ _ _
