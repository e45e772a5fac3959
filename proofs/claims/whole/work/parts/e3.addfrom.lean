/-! The class lists all fillings. -/
def RLn (Q : Nat) (l : List (Nat → Nat)) (A : zA) : Prop := A 35 18 = nI l.length ∧ ∀ i, i < l.length → ∀ q, q < Q → A 37 (5 * i + q) = nI (nd l i q)
def cuR (n p : Nat) (t : Nat → Nat) (A : zA) : Prop := n < 120 → ∀ q, q < p → A 37 (5 * n + q) = nI (t q)
def FA (A A0 : zA) : Prop := ∀ q, q ≠ 35 → q ≠ 37 → A q = A0 q
theorem nd_l {l r : List (Nat → Nat)} {i : Nat} (h : i < l.length) : nd (l ++ r) i = nd l i := by
  unfold nd
  rw [List.getD_eq_getElem?_getD, List.getD_eq_getElem?_getD, List.getElem?_append_left h]
theorem nd_e {l : List (Nat → Nat)} {t : Nat → Nat} : nd (l ++ [t]) l.length = t := by
  unfold nd
  rw [List.getD_eq_getElem?_getD, List.getElem?_append_right (Nat.le_refl _), Nat.sub_self]
  rfl
theorem x_addL {Q d : Nat} {l : List (Nat → Nat)} {t : Nat → Nat} {A A0 : zA} (b : zB) (hQ : Q ≤ 5) (hF : FA A A0) (hR : RLn Q l A) (hC : cuR l.length Q t A) (hl : l.length < 120) : ∃ A', R_addFrom_26 d A b = okV A' b ∧ FA A' A0 ∧ RLn Q (l ++ [t]) A' ∧ cuR (l.length + 1) Q t A' := by
  have k71 : ∀ A, R_addFrom_71 d A b = okV A b := fun A => by rw [q_R_addFrom_71]; exact okV_ret _ _
  obtain ⟨B, hB⟩ : ∃ B, B = zup A 35 18 (nI (l.length + 1)) := ⟨_, rfl⟩
  have b18 : B 35 18 = nI (l.length + 1) := by rw [hB]; exact zup_eq _ _ _ _
  have b37 : ∀ j, B 37 j = A 37 j := fun j => by rw [hB]; exact zup_ne (by decide)
  have bF : FA B A0 := fun q h1 h2 => by rw [hB, zup_row h1]; exact hF q h1 h2
  rw [q_R_addFrom_26, hR.1, nI_1, ← hB, b18, k71, k71]
  by_cases c : l.length + 1 < 120
  · have e1 : (nI (l.length + 1) - 1) * 5 = nI (5 * l.length) := by
      rw [show nI (l.length + 1) - 1 = nI l.length from (pk_sub (b := 1) (by omega)).trans (by rw [Nat.add_sub_cancel]), show (5 : Int32) = nI 5 from rfl, pk_mul, Nat.mul_comm]
    have e2 : nI (l.length + 1) * 5 = nI (5 * l.length + 5) := by
      rw [show (5 : Int32) = nI 5 from rfl, pk_mul]
      congr 1
      omega
    rw [zcond_t (show nI (l.length + 1) < 120 from nI_lt (b := 120) c (by decide)), e1, e2, show (nI (5 * l.length)).toNatClampNeg = 5 * l.length from nI_clamp (by omega), show (nI (5 * l.length + 5)).toNatClampNeg = 5 * l.length + 5 from nI_clamp (by omega), show (5 : Int32).toNatClampNeg = 5 from rfl, decide_eq_false (nI_pos (n := 5 * l.length) (by omega)), decide_eq_false (nI_pos (n := 5 * l.length + 5) (by omega)), decide_eq_true (show 5 * l.length + 5 ≤ 600 by omega), decide_eq_true (show 5 * l.length + 5 + 5 ≤ 600 by omega)]
    refine ⟨zcp B 37 (5 * l.length) 37 (5 * l.length + 5) 5, rfl, fun q h1 h2 => ?_, ⟨?_, fun i hi q hq => ?_⟩, fun _ q hq => ?_⟩
    · exact (funext fun j => if_neg (fun z => h2 z.1)).trans (bF q h1 h2)
    · rw [List.length_append]
      exact (if_neg (fun z => absurd z.1 (by decide))).trans b18
    · rw [List.length_append, List.length_cons, List.length_nil] at hi
      refine (if_neg (fun z => by omega)).trans ?_
      rw [b37]
      by_cases e : i = l.length
      · rw [e, nd_e]; exact hC hl q hq
      · rw [nd_l (by omega)]; exact hR.2 i (by omega) q hq
    · refine (if_pos ⟨rfl, by omega, by omega⟩).trans ?_
      rw [b37, show 5 * l.length + (5 * (l.length + 1) + q - (5 * l.length + 5)) = 5 * l.length + q by omega]
      exact hC hl q hq
  · rw [zcond_f (show ¬ nI (l.length + 1) < 120 from nI_nlt (b := 120) (by omega) (by omega))]
    refine ⟨B, rfl, bF, ⟨?_, fun i hi q hq => ?_⟩, fun z => absurd z c⟩
    · rw [List.length_append]; exact b18
    · rw [List.length_append, List.length_cons, List.length_nil] at hi
      rw [b37]
      by_cases e : i = l.length
      · rw [e, nd_e]; exact hC hl q hq
      · rw [nd_l (by omega)]; exact hR.2 i (by omega) q hq
def allT : Nat → Nat → Bool := fun _ _ => true
theorem x_addF {P Q : Nat} {A0 : zA} (b : zB) (hP : P ≤ 5) (hQ : Q ≤ 5) (h0 : A0 2 0 = nI P) (h1 : A0 2 1 = nI Q) : ∀ (k d p u : Nat) (t : Nat → Nat) (l : List (Nat → Nat)) (A : zA), p + k = Q → k < d → u < 2 ^ P → FA A A0 → RLn Q l A → cuR l.length p t A → l.length + (enN allT P k p u t).length ≤ 120 → ∃ A', R_addFrom d (nI p) (nI u) A b = okV A' b ∧ FA A' A0 ∧ RLn Q (l ++ enN allT P k p u t) A' ∧ cuR (l ++ enN allT P k p u t).length p t A' := by
  intro k
  have p2 : 2 ^ P ≤ 32 := Nat.pow_le_pow_right (by decide) hP
  induction k with
  | zero =>
    intro d p u t l A hp hd hu hF hR hC hl
    obtain ⟨d, rfl⟩ : ∃ d', d = d' + 1 := ⟨d - 1, by omega⟩
    have : p = Q := by omega
    subst this
    have hl2 : l.length + 1 ≤ 120 := hl
    obtain ⟨A', y1, y2, y3, y4⟩ := x_addL (d := d) b hQ hF hR hC (by omega)
    refine ⟨A', ?_, y2, y3, ?_⟩
    · rw [q_R_addFrom, hR.1, zcond_t (show nI l.length < 120 from nI_lt (b := 120) (by omega) (by decide)), hF 2 (by decide) (by decide), h1, zcond_f (nI_nlt (Nat.le_refl _) (by omega)), y1]
    · rw [List.length_append]; exact y4
  | succ k ih =>
    intro d p u t l A hp hd hu hF hR hC hl
    obtain ⟨d, rfl⟩ : ∃ d', d = d' + 1 := ⟨d - 1, by omega⟩
    have k134 : ∀ A, R_addFrom_134 d A b = okV A b := fun A => by rw [q_R_addFrom_134]; exact okV_ret _ _
    have loop : ∀ n w, w + n = P → ∀ l A, FA A A0 → RLn Q l A → cuR l.length p t A → l.length + (enL (fun w => cond (Nat.testBit u w || !allT w p) [] (enN allT P k (p + 1) (u ||| 2 ^ w) (updN t p w))) w n).length ≤ 120 → ∃ A', R_addFrom_74 d (nI p) (nI u) (nI w) A b = okV A' b ∧ FA A' A0 ∧ RLn Q (l ++ enL (fun w => cond (Nat.testBit u w || !allT w p) [] (enN allT P k (p + 1) (u ||| 2 ^ w) (updN t p w))) w n) A' ∧ cuR (l ++ enL (fun w => cond (Nat.testBit u w || !allT w p) [] (enN allT P k (p + 1) (u ||| 2 ^ w) (updN t p w))) w n).length p t A' := by
      intro n
      induction n with
      | zero =>
        intro w hw l A hF hR hC hl
        have : w = P := by omega
        subst this
        refine ⟨A, ?_, hF, ?_, ?_⟩
        · rw [q_R_addFrom_74, hF 2 (by decide) (by decide), h0, zcond_f (nI_nlt (Nat.le_refl _) (by omega)), k134]
        · unfold enL; rw [List.append_nil]; exact hR
        · unfold enL; rw [List.append_nil]; exact hC
      | succ n ihn =>
        intro w hw l A hF hR hC hl
        have hwP : w < P := by omega
        have ee : enL (fun w => cond (Nat.testBit u w || !allT w p) [] (enN allT P k (p + 1) (u ||| 2 ^ w) (updN t p w))) w (n + 1) = cond (Nat.testBit u w) [] (enN allT P k (p + 1) (u ||| 2 ^ w) (updN t p w)) ++ enL (fun w => cond (Nat.testBit u w || !allT w p) [] (enN allT P k (p + 1) (u ||| 2 ^ w) (updN t p w))) (w + 1) n := by
          show cond (Nat.testBit u w || false) _ _ ++ _ = _
          rw [Bool.or_false]
        rw [ee] at hl ⊢
        rw [List.length_append] at hl
        rw [q_R_addFrom_74, hF 2 (by decide) (by decide), h0, zcond_t (nI_lt hwP (by omega)), hR.1]
        by_cases c : l.length < 120
        · rw [zcond_t (show nI l.length < 120 from nI_lt (b := 120) c (by decide)), hB_test (by omega), zc_b0, tbB (by omega)]
          have nx : ∀ A, R_addFrom_128 d (nI p) (nI u) (nI w) A b = R_addFrom_74 d (nI p) (nI u) (nI (w + 1)) A b := fun A => by rw [q_R_addFrom_128, nI_1]
          cases tb : Nat.testBit u w
          · rw [tb, cond_false] at hl
            rw [cond_false, cond_false]
            have ei : nI l.length * 5 + nI p = nI (5 * l.length + p) := (s_mul l.length 5 p).trans (by rw [Nat.mul_comm])
            rw [ei, show zin (nI (5 * l.length + p)) 600 = true from zin_nI (by omega) (by decide), cond_true, show (nI (5 * l.length + p)).toNatClampNeg = 5 * l.length + p from nI_clamp (by omega), nI_1, orB (by omega) (by omega)]
            obtain ⟨B, hB⟩ : ∃ B, B = zup A 37 (5 * l.length + p) (nI w) := ⟨_, rfl⟩
            rw [← hB]
            obtain ⟨A1, y1, y2, y3, y4⟩ := ih d (p + 1) (u ||| 2 ^ w) (updN t p w) l B (by omega) (by omega) (or_lt hu hwP) (fun q e1 e2 => by rw [hB, zup_row e2]; exact hF q e1 e2) ⟨by rw [hB, zup_ne (by decide)]; exact hR.1, fun i hi q hq => by rw [hB, zup_nj (by omega)]; exact hR.2 i hi q hq⟩ (fun hn q hq => by
              unfold updN
              by_cases e : q = p
              · rw [hB, e, zup_eq, if_pos rfl]
              · rw [hB, zup_nj (by omega), if_neg e]; exact hC hn q (by omega)) (by omega)
            rw [y1, zcV_ok, nx]
            obtain ⟨A2, z1, z2, z3, z4⟩ := ihn (w + 1) (by omega) (l ++ enN allT P k (p + 1) (u ||| 2 ^ w) (updN t p w)) A1 y2 y3 (fun hn q hq => by
              rw [y4 hn q (by omega)]
              unfold updN
              rw [if_neg (by omega)]) (by rw [List.length_append]; omega)
            rw [List.append_assoc] at z3 z4
            exact ⟨A2, z1, z2, z3, z4⟩
          · rw [tb, cond_true, List.length_nil] at hl
            rw [cond_true, cond_true, List.nil_append, nx]
            exact ihn (w + 1) (by omega) l A hF hR hC (by omega)
        · rw [zcond_f (show ¬ nI l.length < 120 from nI_nlt (b := 120) (by omega) (by omega)), k134]
          have e0 : cond (Nat.testBit u w) [] (enN allT P k (p + 1) (u ||| 2 ^ w) (updN t p w)) ++ enL (fun w => cond (Nat.testBit u w || !allT w p) [] (enN allT P k (p + 1) (u ||| 2 ^ w) (updN t p w))) (w + 1) n = [] := List.eq_nil_of_length_eq_zero (by rw [List.length_append]; omega)
          rw [e0, List.append_nil]
          exact ⟨A, rfl, hF, hR, hC⟩
    rw [q_R_addFrom, hR.1]
    by_cases c : l.length < 120
    · rw [zcond_t (show nI l.length < 120 from nI_lt (b := 120) c (by decide)), hF 2 (by decide) (by decide), h1, zcond_t (nI_lt (show p < Q by omega) (by omega)), zcond_t (show nI p < 5 from nI_lt (b := 5) (by omega) (by decide))]
      exact loop P 0 (Nat.zero_add _) l A hF hR hC hl
    · rw [zcond_f (show ¬ nI l.length < 120 from nI_nlt (b := 120) (by omega) (by omega))]
      have e0 : enN allT P (k + 1) p u t = [] := List.eq_nil_of_length_eq_zero (by omega)
      rw [e0, List.append_nil]
      exact ⟨A, okV_ret _ _, hF, hR, hC⟩
/-- all of them -/
def ALL (P Q : Nat) : List (Nat → Nat) := enN allT P Q 0 0 (fun _ => 0)
theorem all_120 {P Q : Nat} (hP : P ≤ 5) (hQ : Q ≤ 5) : (ALL P Q).length ≤ 120 := en_120 hP hQ _
theorem x_addAll {P Q : Nat} {A0 : zA} (b : zB) (hP : P ≤ 5) (hQ : Q ≤ 5) (h0 : A0 2 0 = nI P) (h1 : A0 2 1 = nI Q) : ∃ A', R_addFrom 31 0 0 (zup A0 35 18 0) b = okV A' b ∧ FA A' A0 ∧ RLn Q (ALL P Q) A' := by
  obtain ⟨A', y1, y2, y3, -⟩ := x_addF b hP hQ h0 h1 Q 31 0 0 (fun _ => 0) [] (zup A0 35 18 0) (Nat.zero_add _) (by omega) (Nat.two_pow_pos P) (fun q e1 e2 => zup_row e1) ⟨zup_eq _ _ _ _, fun i hi => absurd hi (Nat.not_lt_zero i)⟩ (fun _ q hq => absurd hq (Nat.not_lt_zero q)) (by rw [List.length_nil, Nat.zero_add]; exact en_120 hP hQ _)
  rw [List.nil_append] at y3
  exact ⟨A', y1, y2, y3⟩
