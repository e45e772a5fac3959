/-! Fresh: both searches. -/
def FX (A A0 : zA) : Prop := (∀ q, q ≠ 27 → q ≠ 28 → q ≠ 34 → A q = A0 q) ∧ ∀ j, j ≠ 11 → A 27 j = A0 27 j
def RX (Q : Nat) (s : Int × (Nat → Int32)) (A : zA) : Prop := A 27 11 = kI s.1 ∧ (-1 ≤ s.1 ∧ s.1 ≤ 200000) ∧ (0 ≤ s.1 → ∀ q, q < Q → A 28 q = s.2 q)
theorem FX_p {A A0 : zA} (h : FX A A0) (p : Nat) (x : Int32) : FX (zup A 34 p x) A0 := ⟨fun q h1 h2 h3 => (zup_row h3).trans (h.1 q h1 h2 h3), fun j hj => (congrFun (zup_row (by decide)) j).trans (h.2 j hj)⟩
theorem RX_p {Q : Nat} {s : Int × (Nat → Int32)} {A : zA} (h : RX Q s A) (p : Nat) (x : Int32) : RX Q s (zup A 34 p x) := ⟨(zup_ne (by decide)).trans h.1, h.2.1, fun h0 q hq => (zup_ne (by decide)).trans (h.2.2 h0 q hq)⟩
def dfN (a : zA) (P Q T W S : Nat) : Nat → Nat → Nat → Nat → Int → (Nat → Int32) → Int × (Nat → Int32) → Int × (Nat → Int32) := dfO (scN 0 a T W Q) (tgN 0 a Q T S) P (wasB a Q T)
theorem x_leaf {P Q T W S d : Nat} {a A A0 c : zA} {b : zB} {v : Int} {t : Nat → Int32} {s : Int × (Nat → Int32)} (hv : vw P Q T W S a c) (hs : sameX A0 a) (hvb : 0 ≤ v ∧ v ≤ 100000) (hF : FX A A0) (hR : RX Q s A) (ht : ∀ q, q < Q → A 34 q = t q) : ∃ A', C_tryFrom_17 d (kI v) A b = okV A' b ∧ FX A' A0 ∧ RX Q (lfO (wasB a Q T) v t s) A' ∧ ∀ q, q < Q → A' 34 q = t q := by
  have hQ := hv.1.2.1
  have sA : sameX A a := fun q h1 h2 => (hF.1 q (by omega) (by omega) (by omega)).trans (hs q h1 h2)
  have vA := vw_s hv sA
  have k57 : ∀ A : zA, C_tryFrom_57 d A b = okV A b := fun A => by rw [q_C_tryFrom_57]; exact okV_ret _ _
  obtain ⟨r1, ⟨r2, r3⟩, r4⟩ := hR
  unfold lfO
  rw [q_C_tryFrom_17, r1]
  by_cases c1 : s.1 < v
  · rw [zcond_t ((kI_lt (by omega) (by omega) (by omega) (by omega)).mpr c1), decide_eq_true c1, Bool.true_and, x_was vA sA ht, zcI_ok, zc_b0, show Int32.toNatClampNeg 0 = 0 by decide, show Int32.toNatClampNeg 10 = 10 by decide]
    cases hw : wasB a Q T t
    · refine ⟨zcp (zup A 27 11 (kI v)) 34 0 28 0 10, k57 _, ⟨fun q h1 h2 h3 => ?_, fun j hj => ?_⟩, ⟨?_, ?_, fun _ q hq => ?_⟩, fun q hq => ?_⟩
      · exact (funext fun j => if_neg (fun z => h2 z.1)).trans ((zup_row h1).trans (hF.1 q h1 h2 h3))
      · exact (if_neg (fun z => absurd z.1 (by decide))).trans ((zup_nj hj).trans (hF.2 j hj))
      · exact (if_neg (fun z => absurd z.1 (by decide))).trans (zup_eq _ _ _ _)
      · show -1 ≤ v ∧ v ≤ 200000
        omega
      · refine (if_pos ⟨rfl, Nat.zero_le _, show q < 0 + 10 by omega⟩).trans ?_
        · show zup A 27 11 (kI v) 34 (0 + (q - 0)) = t q
          rw [Nat.zero_add, Nat.sub_zero, zup_ne (by decide)]
          exact ht q hq
      · exact (if_neg (fun z => absurd z.1 (by decide))).trans ((zup_ne (by decide)).trans (ht q hq))
    · exact ⟨A, k57 A, hF, ⟨r1, ⟨r2, r3⟩, r4⟩, ht⟩
  · rw [zcond_f (fun z => c1 ((kI_lt (by omega) (by omega) (by omega) (by omega)).mp z)), decide_eq_false c1, Bool.false_and, k57]
    exact ⟨A, rfl, hF, ⟨r1, ⟨r2, r3⟩, r4⟩, ht⟩
theorem x_try {P Q T W S : Nat} {a A0 c : zA} {b : zB} (hv : vw P Q T W S a c) (hs : sameX A0 a) (hL : SL (scN 0 a T W Q) (tgN 0 a Q T S) bl0 P Q A0) (hC : ∀ r, r ≤ Q → ∀ c, c ≤ 10 → A0 32 (11 * r + c) = kI (ceiV (scN 0 a T W Q) bl0 P (Q - r) r c)) : ∀ (k d p u l : Nat) (v : Int) (t : Nat → Int32) (s : Int × (Nat → Int32)) (A : zA), p + k = Q → k < d → u < 2 ^ P → (l < P ∨ l = 10) → (0 ≤ v ∧ v ≤ 2000 * p) → (∀ q, q < p → A 34 q = t q) → FX A A0 → RX Q s A → ∃ A', C_tryFrom d (nI p) (nI u) (nI l) (kI v) A b = okV A' b ∧ FX A' A0 ∧ RX Q (dfN a P Q T W S k p u l v t s) A' ∧ ∀ q, q < p → A' 34 q = t q := by
  intro k
  obtain ⟨g1, g2, g3, g4, g5⟩ := hv.1
  have hB : opB (scN 0 a T W Q) (tgN 0 a Q T S) bl0 := opB_P (pr := none) (fun c h => absurd h (by simp)) 0 a T W Q S
  have p2 : 2 ^ P ≤ 1024 := Nat.pow_le_pow_right (by decide) g1
  induction k with
  | zero =>
    intro d p u l v t s A hp hd hu hl hvb ht hF hR
    obtain ⟨d, rfl⟩ : ∃ d', d = d' + 1 := ⟨d - 1, by omega⟩
    have : p = Q := by omega
    subst this
    have e0 : C_tryFrom (d + 1) (nI p) (nI u) (nI l) (kI v) A b = C_tryFrom_17 d (kI v) A b := by
      rw [q_C_tryFrom, hF.1 2 (by decide) (by decide) (by decide), hL.2.1, zcond_f (nI_nlt (Nat.le_refl _) (by omega))]
    rw [e0]
    exact x_leaf hv hs (by omega) hF hR ht
  | succ k ih =>
    intro d p u l v t s A hp hd hu hl hvb ht hF hR
    obtain ⟨d, rfl⟩ : ∃ d', d = d' + 1 := ⟨d - 1, by omega⟩
    have pl := pop_le g1 hu
    have cb := ceiV_b hB (P := P) (k + 1) p (P - pop u)
    have cl := ceiV_le hB g1 (k + 1) p u l hu
    have c32 : A 32 (11 * p + (P - pop u)) = kI (ceiV (scN 0 a T W Q) bl0 P (k + 1) p (P - pop u)) := by
      rw [hF.1 32 (by decide) (by decide) (by decide), hC p (by omega) _ (by omega), show Q - p = k + 1 by omega]
    have i1 : nI p * 11 + nI (P - pop u) = nI (11 * p + (P - pop u)) := (s_mul p 11 _).trans (by rw [Nat.mul_comm])
    have k99 : ∀ A : zA, C_tryFrom_99 d A b = okV A b := fun A => by rw [q_C_tryFrom_99]; exact okV_ret _ _
    have lt : ((p : Nat) : Int) ≤ 10 := by omega
    have hk10 : ((k + 1 : Nat) : Int) ≤ 10 := by omega
    rw [q_C_tryFrom, hF.1 2 (by decide) (by decide) (by decide), hL.2.1, zcond_t (nI_lt (by omega) (by omega)), zcond_t (show nI p < 10 from nI_lt (b := 10) (by omega) (by decide)), x_pc, zcI_ok, popI (by omega), hL.1, show nI P - nI (pop u) = nI (P - pop u) from pk_sub pl, zcond_f (nI_pos (by omega)), i1, zin_nI (n := 121) (by omega) (by decide), cond_true, show (nI (11 * p + (P - pop u))).toNatClampNeg = 11 * p + (P - pop u) from nI_clamp (by omega), c32, kI_add, hR.1, k99, zin_nI (n := 10) (by omega) (by decide), cond_true]
    have rb := hR.2.1
    by_cases c1 : s.1 < v + ceiV (scN 0 a T W Q) bl0 P (k + 1) p (P - pop u)
    · rw [zcond_t ((kI_lt (by omega) (by omega) (by omega) (by omega)).mpr c1), show (nI p).toNatClampNeg = p from nI_clamp (by omega)]
      -- the people
      have loop : ∀ n w, w + n = P → ∀ s A, (∀ q, q < p → A 34 q = t q) → FX A A0 → RX Q s A → ∃ A', C_tryFrom_122 d (nI p) (nI u) (nI l) (kI v) (nI w) A b = okV A' b ∧ FX A' A0 ∧ RX Q (fF (fun w s => cond (Nat.testBit u w) s ((gnO (scN 0 a T W Q) (tgN 0 a Q T S) p l w).elim s (fun g => dfO (scN 0 a T W Q) (tgN 0 a Q T S) P (wasB a Q T) k (p + 1) (u ||| 2 ^ w) w (v + g) (upT t p (nI w)) s))) w n s) A' ∧ ∀ q, q < p → A' 34 q = t q := by
        intro n
        induction n with
        | zero =>
          intro w hw s A ht hF hR
          have : w = P := by omega
          subst this
          refine ⟨A, ?_, hF, hR, ht⟩
          rw [q_C_tryFrom_122, hF.1 2 (by decide) (by decide) (by decide), hL.1, zcond_f (nI_nlt (Nat.le_refl _) (by omega))]
          exact okV_ret _ _
        | succ n ihn =>
          intro w hw s A ht hF hR
          have hwP : w < P := by omega
          have lA : SL (scN 0 a T W Q) (tgN 0 a Q T S) bl0 P Q A := SL_f hL (fun q hq => hF.1 q (by omega) (by omega) (by omega))
          have nx : ∀ A : zA, C_tryFrom_193 d (nI p) (nI u) (nI l) (kI v) (nI w) A b = C_tryFrom_122 d (nI p) (nI u) (nI l) (kI v) (nI (w + 1)) A b := fun A => by rw [q_C_tryFrom_193, nI_1]
          have e122 : C_tryFrom_122 d (nI p) (nI u) (nI l) (kI v) (nI w) A b = cond (Nat.testBit u w) (C_tryFrom_156 d (nI p) (nI u) (nI l) (kI v) (nI w) (-1000000) A b) (C_tryFrom_156 d (nI p) (nI u) (nI l) (kI v) (nI w) (kI (encO (gnO (scN 0 a T W Q) (tgN 0 a Q T S) p l w))) A b) := by
            rw [q_C_tryFrom_122, lA.1, zcond_t (nI_lt (by omega) (by omega)), hB_test (by omega), zc_b0, tbB (by omega), x_gain hB lA g1 g2 (by omega) hwP hl, zcI_ok]
          rw [e122]
          show ∃ A', _ ∧ FX A' A0 ∧ RX Q (fF _ (w + 1) n (cond (Nat.testBit u w) s ((gnO (scN 0 a T W Q) (tgN 0 a Q T S) p l w).elim s (fun g => dfO (scN 0 a T W Q) (tgN 0 a Q T S) P (wasB a Q T) k (p + 1) (u ||| 2 ^ w) w (v + g) (upT t p (nI w)) s)))) A' ∧ _
          cases tb : Nat.testBit u w
          · rw [cond_false, cond_false]
            cases hg : gnO (scN 0 a T W Q) (tgN 0 a Q T S) p l w with
            | none =>
              rw [q_C_tryFrom_156, zcond_t (show kI (encO none) = -1000000 from kI_bar), nx]
              exact ihn (w + 1) (by omega) s A ht hF hR
            | some g =>
              have gv := gnN hg
              have gb := prz_b a p
              obtain ⟨A1, y1, y2, y3, y4⟩ := ih d (p + 1) (u ||| 2 ^ w) w (v + g) (upT t p (nI w)) s (zup A 34 p (nI w)) (by omega) (by omega) (or_lt hu hwP) (.inl hwP) (by omega) (fun q hq => by
                unfold upT
                by_cases cq : q = p
                · rw [cq, zup_eq, if_pos rfl]
                · rw [zup_nj cq, if_neg cq]
                  exact ht q (by omega)) (FX_p hF p _) (RX_p hR p _)
              rw [q_C_tryFrom_156, zcond_f (show ¬ kI (encO (some g)) = -1000000 from encO_bar (s := g) (by omega) (by omega)), zin_nI (n := 10) (by omega) (by decide), cond_true, show (nI p).toNatClampNeg = p from nI_clamp (by omega), nI_1, orB (by omega) (by omega), show kI v + kI (encO (some g)) = kI (v + g) from kI_add v g, y1, zcV_ok, nx]
              exact ihn (w + 1) (by omega) _ A1 (fun q hq => by
                rw [y4 q (by omega)]
                exact if_neg (by omega)) y2 y3
          · rw [cond_true, cond_true, q_C_tryFrom_156, zcond_t rfl, nx]
            exact ihn (w + 1) (by omega) s A ht hF hR
      obtain ⟨A1, y1, y2, y3, y4⟩ := ih d (p + 1) u 10 v (upT t p (-1)) s (zup A 34 p (-1)) (by omega) (by omega) hu (.inr rfl) (by omega) (fun q hq => by
        unfold upT
        by_cases cq : q = p
        · rw [cq, zup_eq, if_pos rfl]
        · rw [zup_nj cq, if_neg cq]
          exact ht q (by omega)) (FX_p hF p _) (RX_p hR p _)
      rw [nI_1, show (10 : Int32) = nI 10 from rfl, y1, zcV_ok]
      exact loop P 0 (Nat.zero_add _) _ A1 (fun q hq => by
        rw [y4 q (by omega)]
        exact if_neg (by omega)) y2 y3
    · rw [zcond_f (fun z => c1 ((kI_lt (by omega) (by omega) (by omega) (by omega)).mp z))]
      refine ⟨A, rfl, hF, ?_, ht⟩
      unfold dfN
      rw [dfO_dead (k + 1) p u l v t s (by omega)]
      exact hR
