/-! The class: the most parts. -/
theorem kI_l0 {x : Int} (h1 : -2000000000 ≤ x) (h2 : x ≤ 2000000000) : kI x < 0 ↔ x < 0 := kI_lt (y := 0) h1 h2 (by decide) (by decide)
theorem GX_f {Q : Nat} {l : List (Nat → Nat)} {R : Nat → Nat → Bool} {A A' : zA} {b b' : zB} (hl : l.length ≤ 120) (h : GX Q l R A b) (hA : ∀ j, j ≠ 19 → A' 35 j = A 35 j) (hA2 : ∀ q, 37 ≤ q → q ≤ 39 → A' q = A q) (hb : ∀ q, q < 168 → b' q = b q) : GX Q l R A' b' := by
  obtain ⟨⟨g1, g2⟩, g3, g4⟩ := h
  refine ⟨⟨?_, fun i hi q hq => ?_⟩, fun i hi => ?_, fun i hi j hj => ?_⟩
  · rw [hA 18 (by decide)]; exact g1
  · rw [hA2 37 (by decide) (by decide)]; exact g2 i hi q hq
  · rw [hA2 38 (by decide) (by decide), hA2 39 (by decide) (by decide)]; exact g3 i hi
  · rw [hK_q (hb (48 + i) (by omega))]; exact g4 i hi j hj
def FXH (A a : zA) : Prop := (∀ q, q ≠ 35 → q ≠ 36 → q ≠ 46 → q ≠ 47 → A q = a q) ∧ ∀ j, j ≠ 19 → A 35 j = a 35 j
def pbF (a : zA) (P Q i j : Nat) : Int := ((paN (VL (ALL P Q) i) (VL (ALL P Q) j) (loN a) Q : Nat) : Int)
def GNc (a : zA) (P Q T W S k : Nat) (c : Nat → Nat) (i : Nat) : Bool := fitN a P Q T W S k i && ((decide (k = 0) || fR W S (a 8 3) (a 10) Q (ALL P Q) (c (k - 1)) i) && (decide (k < 2) || twB W S (a 8 3) Q (VL (ALL P Q) (c (k - 2))) (VL (ALL P Q) i)))
def VNc (a : zA) (P Q k : Nat) (c : Nat → Nat) (i : Nat) : Int := if k = 0 then ((paN (a 16) (VL (ALL P Q) i) (loN a) Q : Nat) : Int) else pbF a P Q (c (k - 1)) i
def hpC (a : zA) (P Q T W S : Nat) : Nat → Nat → Nat → Int := hpN (ALL P Q).length (fitN a P Q T W S) (fR W S (a 8 3) (a 10) Q (ALL P Q)) (pbF a P Q)
def brC (a : zA) (P Q T W S : Nat) : Nat → Nat → (Nat → Nat) → Int → Int × (Nat → Nat) → Int × (Nat → Nat) := brN (ALL P Q).length (GNc a P Q T W S) (VNc a P Q)
theorem pb_b {a : zA} {P Q : Nat} (hQ : Q ≤ 5) (i j : Nat) : 0 ≤ pbF a P Q i j ∧ pbF a P Q i j ≤ 50 := by
  have := paN_le (Lw := VL (ALL P Q) i) (X := VL (ALL P Q) j) (lo := loN a) hQ
  unfold pbF
  omega
theorem vn_b {a : zA} {P Q k : Nat} {c : Nat → Nat} {i : Nat} (hQ : Q ≤ 5) : 0 ≤ VNc a P Q k c i ∧ VNc a P Q k c i ≤ 50 := by
  unfold VNc
  by_cases h : k = 0
  · rw [if_pos h]
    have := paN_le (Lw := a 16) (X := VL (ALL P Q) i) (lo := loN a) hQ
    omega
  · rw [if_neg h]
    exact pb_b hQ _ _
theorem gn_up {a : zA} {P Q T W S : Nat} (k : Nat) (c : Nat → Nat) (j : Nat) (h : GNc a P Q T W S (k + 1) c j = true) : fitN a P Q T W S (k + 1) j = true ∧ fR W S (a 8 3) (a 10) Q (ALL P Q) (c k) j = true := by
  unfold GNc at h
  rw [Bool.and_eq_true, Bool.and_eq_true, Bool.or_eq_true, decide_eq_true_iff] at h
  refine ⟨h.1, ?_⟩
  rcases h.2.1 with g | g
  · omega
  · exact g
theorem dead_C {a : zA} {P Q T W S : Nat} (hQ : Q ≤ 5) {m k : Nat} {c : Nat → Nat} {s : Int} {st : Int × (Nat → Nat)} (h : hpC a P Q T W S m k (c k) < 0 ∨ s + hpC a P Q T W S m k (c k) ≤ st.1) : brC a P Q T W S m (k + 1) c s st = st :=
  br_dead (pb_b hQ) gn_up (fun k c j => by
    unfold VNc
    rw [if_neg (Nat.succ_ne_zero k)]
    rfl) m k c s st h
/-- facts of the class's memory that stay -/
def cfA (P Q T W S : Nat) (a : zA) : Prop := (P ≤ 5 ∧ Q ≤ 5 ∧ W ≤ 9 ∧ S ≤ 9) ∧ a 2 1 = nI Q ∧ a 9 0 = nI W ∧ a 9 1 = nI S ∧ ∀ p, p < Q → a 7 p = nI (loN a p) ∧ loN a p ≤ 10
theorem cfA_h {P Q T W S : Nat} {A a : zA} (h : cfA P Q T W S a) (hF : FXH A a) : cfA P Q T W S A := by
  obtain ⟨h1, h2, h3, h4, h5⟩ := h
  refine ⟨h1, ?_, ?_, ?_, fun p hp => ?_⟩
  · rw [hF.1 2 (by decide) (by decide) (by decide) (by decide)]; exact h2
  · rw [hF.1 9 (by decide) (by decide) (by decide) (by decide)]; exact h3
  · rw [hF.1 9 (by decide) (by decide) (by decide) (by decide)]; exact h4
  · unfold loN
    rw [hF.1 7 (by decide) (by decide) (by decide) (by decide)]
    exact h5 p hp
def FTr (a : zA) (P Q T W S n : Nat) (b : zB) : Prop := ∀ k, k < n → ∀ j, j < 128 → hK b (168 + k) j = (decide (j < (ALL P Q).length) && fitN a P Q T W S k j)
theorem x_pb {P Q T W S i j : Nat} {R : Nat → Nat → Bool} {A a : zA} {b : zB} (h : cfA P Q T W S a) (hF : FXH A a) (hG : GX Q (ALL P Q) R A b) (hi : i < (ALL P Q).length) (hj : j < (ALL P Q).length) : R_partsBehind (nI i) (nI j) A b = okI (kI (pbF a P Q i j)) A b := by
  obtain ⟨⟨hP, hQ, -⟩, h2, -, -, h5⟩ := cfA_h h hF
  have hN := all_120 hP hQ
  have e : loN A = loN a := by
    funext p
    unfold loN
    rw [hF.1 7 (by decide) (by decide) (by decide) (by decide)]
  unfold pbF
  rw [kI_n, ← e]
  exact x_parts (l := ALL P Q) b hQ h2 h5 (fun q hq => hG.1.2 j hj q hq) (by omega) (.inr ⟨i, by omega, rfl, fun p hp => hG.1.2 i hi p hp⟩)
theorem x_hope {P Q T W S n m k i : Nat} {A a : zA} {b : zB} (h : cfA P Q T W S a) (hF : FXH A a) (hG : GX Q (ALL P Q) (fR W S (a 8 3) (a 10) Q (ALL P Q)) A b) (hT : FTr a P Q T W S n b) (hn : n ≤ 3) (hk : k + 1 < n) (hi : i < (ALL P Q).length) (hH : ∀ j, j < (ALL P Q).length → A 46 (120 * (k + 1) + j) = kI (hpC a P Q T W S m (k + 1) j)) (hm : m ≤ 3) : R_hopeBehind (nI i) (nI (k + 1)) A b = okI (kI (hpC a P Q T W S (m + 1) k i)) A b := by
  obtain ⟨⟨hP, hQ, -⟩, -⟩ := id h
  have hN := all_120 hP hQ
  have hb : ∀ j, -1 ≤ hpC a P Q T W S m (k + 1) j ∧ hpC a P Q T W S m (k + 1) j ≤ 50 * m := fun j => hp_b (pb_b hQ) m (k + 1) j
  have st : ∀ (v : Int) j, (-1 ≤ v ∧ v ≤ 200) → 0 ≤ j → j < (ALL P Q).length → R_hopeBehind_5 (nI i) (nI (k + 1)) (kI v) (nI j) A b = R_hopeBehind_5 (nI i) (nI (k + 1)) (kI (cond (decide (0 ≤ hpC a P Q T W S m (k + 1) j) && (fitN a P Q T W S (k + 1) j && fR W S (a 8 3) (a 10) Q (ALL P Q) i j)) (max v (hpC a P Q T W S m (k + 1) j + pbF a P Q i j)) v)) (nI (j + 1)) A b ∧ (-1 ≤ cond (decide (0 ≤ hpC a P Q T W S m (k + 1) j) && (fitN a P Q T W S (k + 1) j && fR W S (a 8 3) (a 10) Q (ALL P Q) i j)) (max v (hpC a P Q T W S m (k + 1) j + pbF a P Q i j)) v ∧ cond (decide (0 ≤ hpC a P Q T W S m (k + 1) j) && (fitN a P Q T W S (k + 1) j && fR W S (a 8 3) (a 10) Q (ALL P Q) i j)) (max v (hpC a P Q T W S m (k + 1) j + pbF a P Q i j)) v ≤ 200) := fun v j hv _ hj => by
    have b1 := hb j
    have b2 := pb_b (a := a) (P := P) hQ i j
    have nx : ∀ w, R_hopeBehind_76 (nI i) (nI (k + 1)) w (nI j) A b = R_hopeBehind_5 (nI i) (nI (k + 1)) w (nI (j + 1)) A b := fun w => by rw [q_R_hopeBehind_76, nI_1]
    refine ⟨?_, ?_⟩
    · rw [q_R_hopeBehind_5, hG.1.1, zcond_t (nI_lt hj (by omega)), show nI (k + 1) * 120 + nI j = nI (120 * (k + 1) + j) from (s_mul (k + 1) 120 j).trans (by rw [Nat.mul_comm]), zin_nI (n := 360) (by omega) (by decide), cond_true, show (nI (120 * (k + 1) + j)).toNatClampNeg = 120 * (k + 1) + j from nI_clamp (by omega), hH j hj, nx]
      by_cases c0 : hpC a P Q T W S m (k + 1) j < 0
      · rw [zcond_t ((kI_l0 (by omega) (by omega)).mpr c0), decide_eq_false (show ¬ 0 ≤ hpC a P Q T W S m (k + 1) j by omega)]
        rfl
      · rw [zcond_f (show ¬ kI (hpC a P Q T W S m (k + 1) j) < 0 from fun z => c0 ((kI_l0 (by omega) (by omega)).mp z)), decide_eq_true (show 0 ≤ hpC a P Q T W S m (k + 1) j by omega), zin_nI (n := 3) (by omega) (by decide), show (nI (k + 1)).toNatClampNeg = k + 1 from nI_clamp (by omega), kf_rs (by omega), kf_rg (by omega), kf_k (by omega), k_has (kf_k (by omega)) (by omega), zcI_ok, zc_b0, hT (k + 1) hk j (by omega), decide_eq_true hj, Bool.true_and, Bool.true_and, zin_nI (n := 120) (show i < 120 by omega) (by decide), show (nI i).toNatClampNeg = i from nI_clamp (by omega), kc_rs (by omega), kc_rg (by omega), kc_k (by omega), k_has (kc_k (by omega)) (by omega), zcI_ok, zc_b0, hG.2.2 i hi j (by omega), decide_eq_true hj, Bool.true_and, x_pb h hF hG hi hj, zcI_ok, kI_add, kI_max (by omega) (by omega) (by omega) (by omega), nx, nx]
        cases fitN a P Q T W S (k + 1) j <;> cases fR W S (a 8 3) (a 10) Q (ALL P Q) i j <;> rfl
    · cases (decide (0 ≤ hpC a P Q T W S m (k + 1) j) && (fitN a P Q T W S (k + 1) j && fR W S (a 8 3) (a 10) Q (ALL P Q) i j))
      · exact hv
      · show -1 ≤ max v (hpC a P Q T W S m (k + 1) j + pbF a P Q i j) ∧ max v (hpC a P Q T W S m (k + 1) j + pbF a P Q i j) ≤ 200
        omega
  have en : ∀ v : Int, (-1 ≤ v ∧ v ≤ 200) → R_hopeBehind_5 (nI i) (nI (k + 1)) (kI v) (nI (ALL P Q).length) A b = okI (kI v) A b := fun v _ => by
    rw [q_R_hopeBehind_5, hG.1.1, zcond_f (nI_nlt (Nat.le_refl _) (by omega))]
    exact okI_ret _ _ _
  rw [q_R_hopeBehind]
  exact (lpI (F := fun v j => R_hopeBehind_5 (nI i) (nI (k + 1)) (kI v) (nI j) A b) (K := fun v => okI (kI v) A b) (lo := 0) (n := (ALL P Q).length) (fun v => -1 ≤ v ∧ v ≤ 200) st en (ALL P Q).length (-1) 0 ⟨by decide, by decide⟩ (Nat.le_refl _) (Nat.zero_add _)).1
theorem x_follow {P Q T W S k i : Nat} {c : Nat → Nat} {A a : zA} {b : zB} (h : cfA P Q T W S a) (hF : FXH A a) (hG : GX Q (ALL P Q) (fR W S (a 8 3) (a 10) Q (ALL P Q)) A b) (hk : k < 3) (hi : i < (ALL P Q).length) (hc : ∀ q, q < k → A 47 q = nI (c q) ∧ c q < (ALL P Q).length) : R_followsChain (nI k) (nI i) A b = okI (bI ((decide (k = 0) || fR W S (a 8 3) (a 10) Q (ALL P Q) (c (k - 1)) i) && (decide (k < 2) || twB W S (a 8 3) Q (VL (ALL P Q) (c (k - 2))) (VL (ALL P Q) i)))) A b := by
  obtain ⟨⟨hP, hQ, hW9, hS9⟩, h2, h3, h4, h5⟩ := cfA_h h hF
  have hN := all_120 hP hQ
  have k52 : ∀ x : Bool, R_followsChain_52 (bI x) A b = okI (bI x) A b := fun x => by
    rw [q_R_followsChain_52]
    cases x
    · exact okI_ret _ _ _
    · exact okI_ret _ _ _
  have k47 : R_followsChain_47 A b = okI (bI true) A b := by rw [q_R_followsChain_47]; exact k52 true
  have e26 : R_followsChain_26 (nI k) (nI i) A b = okI (bI (decide (k < 2) || twB W S (a 8 3) Q (VL (ALL P Q) (c (k - 2))) (VL (ALL P Q) i))) A b := by
    rw [q_R_followsChain_26, k47]
    by_cases c0 : k < 2
    · rw [zcond_t (show nI k < 2 from nI_lt (b := 2) c0 (by decide)), decide_eq_true c0]
      rfl
    · obtain ⟨g1, g2⟩ := hc (k - 2) (by omega)
      rw [zcond_f (show ¬ nI k < 2 from nI_nlt (b := 2) (by omega) (by omega)), decide_eq_false c0, Bool.false_or, show nI k - 2 = nI (k - 2) from pk_sub (b := 2) (by omega), zin_nI (n := 3) (by omega) (by decide), cond_true, show (nI (k - 2)).toNatClampNeg = k - 2 from nI_clamp (by omega), g1, x_two hP hQ h2 h3 hW9 h4 hS9 hG g2 hi, zcI_ok, zc_b0, k47, show R_followsChain_52 0 A b = okI (bI false) A b from k52 false, hF.1 8 (by decide) (by decide) (by decide) (by decide)]
      cases twB W S (a 8 3) Q (VL (ALL P Q) (c (k - 2))) (VL (ALL P Q) i) <;> rfl
  rw [q_R_followsChain, e26]
  by_cases c0 : k = 0
  · rw [zcond_f (show ¬ (0 : Int32) < nI k from nI_nlt (a := 0) (by omega) (by omega)), decide_eq_true c0, Bool.true_or, Bool.true_and]
  · obtain ⟨g1, g2⟩ := hc (k - 1) (by omega)
    rw [zcond_t (show (0 : Int32) < nI k from nI_lt (a := 0) (by omega) (by omega)), decide_eq_false c0, Bool.false_or, show nI k - 1 = nI (k - 1) from pk_sub (b := 1) (by omega), zin_nI (n := 3) (by omega) (by decide), cond_true, show (nI (k - 1)).toNatClampNeg = k - 1 from nI_clamp (by omega), g1, zin_nI (n := 120) (by omega) (by decide), show (nI (c (k - 1))).toNatClampNeg = c (k - 1) from nI_clamp (by omega), kc_rs (by omega), kc_rg (by omega), kc_k (by omega), k_has (kc_k (by omega)) (by omega), zcI_ok, zc_b0, hG.2.2 (c (k - 1)) g2 i (by omega), decide_eq_true hi, Bool.true_and, e26, okI_ret]
    cases fR W S (a 8 3) (a 10) Q (ALL P Q) (c (k - 1)) i <;> rfl
def HTr (a : zA) (P Q T W S lo n : Nat) (A : zA) : Prop := ∀ k, lo ≤ k → k < n → ∀ i, i < (ALL P Q).length → A 46 (120 * k + i) = kI (hpC a P Q T W S (n - 1 - k) k i)
def SSr (n : Nat) (st : Int × (Nat → Nat)) (A : zA) : Prop := A 35 19 = kI st.1 ∧ (-1 ≤ st.1 ∧ st.1 ≤ 150) ∧ (0 ≤ st.1 → ∀ k, k < n → A 36 k = nI (st.2 k))
def CHr (P Q k : Nat) (c : Nat → Nat) (A : zA) : Prop := ∀ q, q < k → A 47 q = nI (c q) ∧ c q < (ALL P Q).length
theorem x_seek1 {P Q T W S n m k d : Nat} {a : zA} {b : zB} (h : cfA P Q T W S a) (hG0 : GX Q (ALL P Q) (fR W S (a 8 3) (a 10) Q (ALL P Q)) a b) (hT : FTr a P Q T W S n b) (hn : n ≤ 3) (hk : k + (m + 1) = n) (child : m = 0 ∨ (0 < m ∧ ∀ c (s : Int) st A, (0 ≤ s ∧ s ≤ 50 * ((k + 1 : Nat) : Int)) → FXH A a → HTr a P Q T W S 0 n A → CHr P Q (k + 1) c A → SSr n st A → ∃ A', R_seekChain d (nI (k + 1)) (nI n) (kI s) A b = okV A' b ∧ FXH A' a ∧ HTr a P Q T W S 0 n A' ∧ CHr P Q (k + 1) c A' ∧ SSr n (brC a P Q T W S m (k + 1) c s st) A')) (c : Nat → Nat) (s : Int) (st : Int × (Nat → Nat)) (A : zA) (hs : 0 ≤ s ∧ s ≤ 50 * (k : Int)) (hF : FXH A a) (hH : HTr a P Q T W S 0 n A) (hC : CHr P Q k c A) (hS : SSr n st A) : ∃ A', R_seekChain (d + 1) (nI k) (nI n) (kI s) A b = okV A' b ∧ FXH A' a ∧ HTr a P Q T W S 0 n A' ∧ CHr P Q k c A' ∧ SSr n (brC a P Q T W S (m + 1) k c s st) A' := by
  obtain ⟨⟨hP, hQ, -⟩, -⟩ := id h
  have hN := all_120 hP hQ
  have gx : ∀ A, FXH A a → GX Q (ALL P Q) (fR W S (a 8 3) (a 10) Q (ALL P Q)) A b := fun A hF => GX_f hN hG0 hF.2 (fun q h1 h2 => hF.1 q (by omega) (by omega) (by omega) (by omega)) (fun _ _ => rfl)
  have k158 : ∀ A, R_seekChain_158 d A b = okV A b := fun A => by rw [q_R_seekChain_158]; exact okV_ret _ _
  have hk3 : k < 3 := by omega
  have loop : ∀ x i st A, i + x = (ALL P Q).length → FXH A a → HTr a P Q T W S 0 n A → CHr P Q k c A → SSr n st A → ∃ A', R_seekChain_3 d (nI k) (nI n) (kI s) (nI i) A b = okV A' b ∧ FXH A' a ∧ HTr a P Q T W S 0 n A' ∧ CHr P Q k c A' ∧ SSr n (fF (fun i st => cond (GNc a P Q T W S k c i) (brC a P Q T W S m (k + 1) (updN c k i) (s + VNc a P Q k c i) st) st) i x st) A' := by
    intro x
    induction x with
    | zero =>
      intro i st A e hF hH hC hS
      refine ⟨A, ?_, hF, hH, hC, hS⟩
      rw [q_R_seekChain_3, (gx A hF).1.1, zcond_f (nI_nlt (by omega) (by omega)), k158]
    | succ x ih =>
      intro i st A e hF hH hC hS
      have hi : i < (ALL P Q).length := by omega
      have hG := gx A hF
      have nx : ∀ A, R_seekChain_152 d (nI k) (nI n) (kI s) (nI i) A b = R_seekChain_3 d (nI k) (nI n) (kI s) (nI (i + 1)) A b := fun A => by rw [q_R_seekChain_152, nI_1]
      have ui : updN c k i k = i := if_pos rfl
      have skip : cond (GNc a P Q T W S k c i) (brC a P Q T W S m (k + 1) (updN c k i) (s + VNc a P Q k c i) st) st = st → ∃ A', R_seekChain_3 d (nI k) (nI n) (kI s) (nI (i + 1)) A b = okV A' b ∧ FXH A' a ∧ HTr a P Q T W S 0 n A' ∧ CHr P Q k c A' ∧ SSr n (fF (fun i st => cond (GNc a P Q T W S k c i) (brC a P Q T W S m (k + 1) (updN c k i) (s + VNc a P Q k c i) st) st) (i + 1) x (cond (GNc a P Q T W S k c i) (brC a P Q T W S m (k + 1) (updN c k i) (s + VNc a P Q k c i) st) st)) A' := fun e1 => by
        rw [e1]
        exact ih (i + 1) st A (by omega) hF hH hC hS
      have eh : A 46 (120 * k + i) = kI (hpC a P Q T W S m k i) := by
        rw [hH k (Nat.zero_le _) (by omega) i hi, show n - 1 - k = m by omega]
      have bh := hp_b (n := (ALL P Q).length) (fit := fitN a P Q T W S) (nx := fR W S (a 8 3) (a 10) Q (ALL P Q)) (pb_b (a := a) (P := P) hQ) m k i
      have bh' : -1 ≤ hpC a P Q T W S m k i ∧ hpC a P Q T W S m k i ≤ 50 * (m : Int) := bh
      have bv := vn_b (a := a) (P := P) (k := k) (c := c) (i := i) hQ
      have bs := hS.2.1
      show ∃ A', _ ∧ FXH A' a ∧ HTr a P Q T W S 0 n A' ∧ CHr P Q k c A' ∧ SSr n (fF (fun i st => cond (GNc a P Q T W S k c i) (brC a P Q T W S m (k + 1) (updN c k i) (s + VNc a P Q k c i) st) st) (i + 1) x (cond (GNc a P Q T W S k c i) (brC a P Q T W S m (k + 1) (updN c k i) (s + VNc a P Q k c i) st) st)) A'
      rw [q_R_seekChain_3, hG.1.1, zcond_t (nI_lt hi (by omega)), zcond_t (show nI k < 3 from nI_lt (b := 3) hk3 (by decide)), show nI k * 120 + nI i = nI (120 * k + i) from (s_mul k 120 i).trans (by rw [Nat.mul_comm]), zin_nI (n := 360) (by omega) (by decide), cond_true, show (nI (120 * k + i)).toNatClampNeg = 120 * k + i from nI_clamp (by omega), eh, nx]
      by_cases c0 : hpC a P Q T W S m k i < 0
      · rw [zcond_t ((kI_l0 (by omega) (by omega)).mpr c0)]
        refine skip ?_
        rw [dead_C hQ (by rw [ui]; exact .inl c0)]
        cases GNc a P Q T W S k c i <;> rfl
      · rw [zcond_f (show ¬ kI (hpC a P Q T W S m k i) < 0 from fun z => c0 ((kI_l0 (by omega) (by omega)).mp z)), zin_nI (n := 3) hk3 (by decide), show (nI k).toNatClampNeg = k from nI_clamp (by omega), kf_rs hk3, kf_rg hk3, kf_k hk3, k_has (kf_k hk3) (by omega), zcI_ok, zc_b0, hT k (by omega) i (by omega), decide_eq_true hi, Bool.true_and, x_follow h hF hG hk3 hi hC, zcI_ok, zc_b0, nx]
        have gn : GNc a P Q T W S k c i = (fitN a P Q T W S k i && ((decide (k = 0) || fR W S (a 8 3) (a 10) Q (ALL P Q) (c (k - 1)) i) && (decide (k < 2) || twB W S (a 8 3) Q (VL (ALL P Q) (c (k - 2))) (VL (ALL P Q) i)))) := rfl
        cases f1 : fitN a P Q T W S k i
        · exact skip (by rw [gn, f1]; rfl)
        · cases f2 : (decide (k = 0) || fR W S (a 8 3) (a 10) Q (ALL P Q) (c (k - 1)) i) && (decide (k < 2) || twB W S (a 8 3) Q (VL (ALL P Q) (c (k - 2))) (VL (ALL P Q) i))
          · exact skip (by rw [gn, f1, f2]; rfl)
          · have gt : GNc a P Q T W S k c i = true := by rw [gn, f1, f2]; rfl
            have key : ∀ last, R_partsBehind last (nI i) A b = okI (kI (VNc a P Q k c i)) A b → ∃ A', R_seekChain_81 d (nI k) (nI n) (kI s) (nI i) (kI (hpC a P Q T W S m k i)) (kI s) last A b = okV A' b ∧ FXH A' a ∧ HTr a P Q T W S 0 n A' ∧ CHr P Q k c A' ∧ SSr n (fF (fun i st => cond (GNc a P Q T W S k c i) (brC a P Q T W S m (k + 1) (updN c k i) (s + VNc a P Q k c i) st) st) (i + 1) x (cond (GNc a P Q T W S k c i) (brC a P Q T W S m (k + 1) (updN c k i) (s + VNc a P Q k c i) st) st)) A' := fun last hl => by
              rw [q_R_seekChain_81, hl, zcI_ok, hS.1, kI_add, kI_add]
              by_cases c2 : st.1 < s + VNc a P Q k c i + hpC a P Q T W S m k i
              · rw [zcond_t ((kI_lt (by omega) (by omega) (by omega) (by omega)).mpr c2), zin_nI (n := 3) hk3 (by decide), cond_true, show (nI k).toNatClampNeg = k from nI_clamp (by omega)]
                have hC' : CHr P Q (k + 1) (updN c k i) (zup A 47 k (nI i)) := fun q hq => by
                  unfold updN
                  by_cases c3 : q = k
                  · rw [c3, zup_eq, if_pos rfl]; exact ⟨rfl, hi⟩
                  · rw [zup_nj c3, if_neg c3]; exact hC q (by omega)
                have back : ∀ A', CHr P Q (k + 1) (updN c k i) A' → CHr P Q k c A' := fun A' hA q hq => by
                  have := hA q (by omega)
                  unfold updN at this
                  rw [if_neg (show ¬ q = k by omega)] at this
                  exact this
                rw [gt, cond_true]
                rcases child with c3 | ⟨m0, ch⟩
                · subst c3
                  have en : n = k + 1 := by omega
                  have eb : brC a P Q T W S 0 (k + 1) (updN c k i) (s + VNc a P Q k c i) st = (s + VNc a P Q k c i, updN c k i) := by
                    have e0 : hpC a P Q T W S 0 k i = 0 := rfl
                    rw [e0] at c2
                    unfold brC brN
                    rw [decide_eq_true (show st.1 < s + VNc a P Q k c i by omega)]
                    rfl
                  rw [eb]
                  obtain ⟨B, hB⟩ : ∃ B, B = zcp (zup (zup A 47 k (nI i)) 35 19 (kI (s + VNc a P Q k c i))) 47 0 36 0 n := ⟨_, rfl⟩
                  have b35 : ∀ j, B 35 j = zup A 35 19 (kI (s + VNc a P Q k c i)) 35 j := fun j => by
                    rw [hB]
                    refine (if_neg (fun z => absurd z.1 (by decide))).trans ?_
                    by_cases c4 : j = 19
                    · rw [c4, zup_eq, zup_eq]
                    · rw [zup_nj c4, zup_nj c4, zup_ne (by decide)]
                  have bq : ∀ q, q ≠ 35 → q ≠ 36 → q ≠ 47 → B q = A q := fun q e1 e2 e3 => by
                    rw [hB]
                    exact (funext fun j => if_neg (fun z => e2 z.1)).trans ((zup_row e1).trans (zup_row e3))
                  have b47 : ∀ j, B 47 j = zup A 47 k (nI i) 47 j := fun j => by
                    rw [hB]
                    exact (if_neg (fun z => absurd z.1 (by decide))).trans (zup_ne (by decide))
                  have b36 : ∀ q, q < n → B 36 q = nI (updN c k i q) := fun q hq => by
                    rw [hB]
                    refine (if_pos ⟨rfl, Nat.zero_le _, by omega⟩).trans ?_
                    rw [Nat.zero_add, Nat.sub_zero, zup_ne (by decide)]
                    exact (hC' q (by omega)).1
                  have ec : cond (decide (nI k = nI n - 1)) (cond (!(decide ((0 : Int32) < 0)) && (!(decide ((0 : Int32) < 0)) && (!(decide (nI n < 0)) && (decide ((0 : Int32).toNatClampNeg + (nI n).toNatClampNeg ≤ 3) && decide ((0 : Int32).toNatClampNeg + (nI n).toNatClampNeg ≤ 3))))) (R_seekChain_152 d (nI k) (nI n) (kI s) (nI i) (zcp (zup (zup A 47 k (nI i)) 35 19 (kI (s + VNc a P Q k c i))) 47 (0 : Int32).toNatClampNeg 36 (0 : Int32).toNatClampNeg (nI n).toNatClampNeg) b) none) (zcV (R_seekChain d (nI k + 1) (nI n) (kI (s + VNc a P Q k c i)) (zup A 47 k (nI i)) b) (fun a2 b2 => R_seekChain_152 d (nI k) (nI n) (kI s) (nI i) a2 b2)) = R_seekChain_3 d (nI k) (nI n) (kI s) (nI (i + 1)) B b := by
                    rw [zcond_t (show nI k = nI n - 1 by rw [en]; exact ((pk_sub (b := 1) (by omega)).trans (by rw [Nat.add_sub_cancel])).symm), show (nI n).toNatClampNeg = n from nI_clamp (by omega), show (0 : Int32).toNatClampNeg = 0 from rfl, decide_eq_true (show 0 + n ≤ 3 by omega), decide_eq_false (nI_pos (n := n) (by omega)), ← hB, nx]
                    rfl
                  refine (show ∃ A', _ = okV A' b ∧ _ from ?_)
                  rw [ec]
                  refine ih (i + 1) (s + VNc a P Q k c i, updN c k i) B (by omega) ⟨fun q e1 e2 e3 e4 => by rw [bq q e1 e2 e4]; exact hF.1 q e1 e2 e3 e4, fun j hj => by rw [b35, zup_nj hj]; exact hF.2 j hj⟩ (fun k' e1 e2 i' hi' => by rw [bq 46 (by decide) (by decide) (by decide)]; exact hH k' e1 e2 i' hi') (back B (fun q hq => by rw [b47]; exact hC' q hq)) ⟨by rw [b35, zup_eq], ?_, fun _ q hq => b36 q hq⟩
                  show -1 ≤ s + VNc a P Q k c i ∧ s + VNc a P Q k c i ≤ 150
                  omega
                · obtain ⟨A2, y1, y2, y3, y4, y5⟩ := ch (updN c k i) (s + VNc a P Q k c i) st (zup A 47 k (nI i)) (by omega) ⟨fun q e1 e2 e3 e4 => by rw [zup_row e4]; exact hF.1 q e1 e2 e3 e4, fun j hj => by rw [zup_ne (by decide)]; exact hF.2 j hj⟩ (fun k' e1 e2 i' hi' => by rw [zup_ne (by decide)]; exact hH k' e1 e2 i' hi') hC' ⟨by rw [zup_ne (by decide)]; exact hS.1, hS.2.1, fun g q hq => by rw [zup_ne (by decide)]; exact hS.2.2 g q hq⟩
                  rw [zcond_f (show ¬ nI k = nI n - 1 from fun z => by rw [show nI n - 1 = nI (n - 1) from pk_sub (b := 1) (by omega)] at z; have := (nI_eq (by omega) (by omega)).mp z; omega), nI_1, y1, zcV_ok, nx]
                  exact ih (i + 1) _ A2 (by omega) y2 y3 (back A2 y4) y5
              · rw [zcond_f (fun z => c2 ((kI_lt (by omega) (by omega) (by omega) (by omega)).mp z)), nx]
                refine skip ?_
                rw [dead_C hQ (by rw [ui]; exact .inr (by omega))]
                cases GNc a P Q T W S k c i <;> rfl
            simp only [Bool.and_self, cond_true]
            by_cases c1 : k = 0
            · rw [zcond_t (show nI k = 0 by rw [c1]; rfl)]
              refine key (-1) ?_
              have e16 := hF.1 16 (by decide) (by decide) (by decide) (by decide)
              have e7 := hF.1 7 (by decide) (by decide) (by decide) (by decide)
              have el : loN A = loN a := by
                funext p
                unfold loN
                rw [e7]
              obtain ⟨-, h2, -, -, h5⟩ := cfA_h h hF
              have := x_parts (l := ALL P Q) (Lw := a 16) (x := -1) b hQ h2 h5 (fun q hq => hG.1.2 i hi q hq) (by omega) (.inl ⟨rfl, fun p _ => by rw [e16]⟩)
              rw [this, el]
              unfold VNc
              rw [if_pos c1, kI_n]
            · obtain ⟨g1, g2⟩ := hC (k - 1) (by omega)
              rw [zcond_f (show ¬ nI k = 0 from fun z => c1 ((nI_eq (b := 0) (by omega) (by decide)).mp z)), show nI k - 1 = nI (k - 1) from pk_sub (b := 1) (by omega), zin_nI (n := 3) (show k - 1 < 3 by omega) (by decide), show (nI (k - 1)).toNatClampNeg = k - 1 from nI_clamp (by omega), g1]
              refine key (nI (c (k - 1))) ?_
              rw [x_pb h hF hG g2 hi]
              unfold VNc
              rw [if_neg c1]
  rw [q_R_seekChain]
  exact loop (ALL P Q).length 0 st A (Nat.zero_add _) hF hH hC hS
