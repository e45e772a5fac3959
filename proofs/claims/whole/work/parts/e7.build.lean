/-! The class builds what may follow what. -/
def VL (l : List (Nat → Nat)) (i q : Nat) : Int32 := nI (nd l i q)
theorem all_per {P Q i : Nat} (hP : P ≤ 5) (h : i < (ALL P Q).length) : perF Q (VL (ALL P Q) i) := fun q hq => by
  have : nd (ALL P Q) i q < P := enN_lt Q 0 0 _ (nd_mem h) q (Nat.zero_le _) (by omega)
  exact ⟨nd (ALL P Q) i q, by omega, rfl⟩
def perL (Q : Nat) (l : List (Nat → Nat)) : Prop := ∀ i, i < l.length → perF Q (VL l i)
def FB (A A0 : zA) : Prop := ∀ q, q ≠ 35 → q ≠ 37 → q ≠ 38 → q ≠ 39 → A q = A0 q
def bitL (Q n : Nat) (l : List (Nat → Nat)) (A : zA) : Prop := ∀ i, i < n → pB (A 38 i) (atF Q (VL l i)) ∧ pB (A 39 i) (neF Q (VL l i))
def GX (Q : Nat) (l : List (Nat → Nat)) (R : Nat → Nat → Bool) (A : zA) (b : zB) : Prop := RLn Q l A ∧ bitL Q l.length l A ∧ ∀ i, i < l.length → ∀ j, j < 128 → hK b (48 + i) j = (decide (j < l.length) && R i j)
theorem x_build1 {Q : Nat} {l : List (Nat → Nat)} {A0 : zA} (b : zB) (hQ : Q ≤ 5) (hl : l.length ≤ 120) (hp : perL Q l) (hq : A0 2 1 = nI Q) : ∀ k i A, i + k = l.length → FB A A0 → RLn Q l A → bitL Q i l A → ∃ A', R_build_13 (nI i) A b = R_build_51 0 A' b ∧ FB A' A0 ∧ RLn Q l A' ∧ bitL Q l.length l A' := by
  intro k
  induction k with
  | zero =>
    intro i A e hF hR hB
    have : i = l.length := by omega
    subst this
    refine ⟨A, ?_, hF, hR, hB⟩
    rw [q_R_build_13, hR.1, zcond_f (nI_nlt (Nat.le_refl _) (by omega))]
  | succ k ih =>
    intro i A e hF hR hB
    have hi : i < l.length := by omega
    have hA : ∀ q, q < Q → A 37 (5 * i + q) = VL l i q := fun q h => hR.2 i hi q h
    obtain ⟨y, y1, y2⟩ := x_placesOf (b := b) hQ ((congrFun (hF 2 (by decide) (by decide) (by decide) (by decide)) 1).trans hq) (show i < 120 by omega) (hp i hi) hA
    obtain ⟨B, hB'⟩ : ∃ B, B = zup A 38 i y := ⟨_, rfl⟩
    obtain ⟨z, z1, z2⟩ := x_pairsOf (a := B) (b := b) hQ (by rw [hB', zup_ne (by decide)]; exact (congrFun (hF 2 (by decide) (by decide) (by decide) (by decide)) 1).trans hq) (show i < 120 by omega) (hp i hi) (fun q h => by rw [hB', zup_ne (by decide)]; exact hA q h)
    obtain ⟨A', w1, w2⟩ := ih (i + 1) (zup B 39 i z) (by omega) (fun q e1 e2 e3 e4 => by rw [zup_row e4, hB', zup_row e3]; exact hF q e1 e2 e3 e4) ⟨by rw [zup_ne (by decide), hB', zup_ne (by decide)]; exact hR.1, fun j hj q h => by rw [zup_ne (by decide), hB', zup_ne (by decide)]; exact hR.2 j hj q h⟩ (fun j hj => by
      by_cases c : j = i
      · subst c
        rw [zup_ne (by decide), hB', zup_eq, ← hB', zup_eq]
        exact ⟨y2, z2⟩
      · rw [zup_ne (by decide), hB', zup_nj c, ← hB', zup_nj c, hB', zup_ne (by decide)]
        exact hB j (by omega))
    refine ⟨A', ?_, w2⟩
    rw [q_R_build_13, hR.1, zcond_t (nI_lt hi (by omega)), y1, zcI_ok, zin_nI (n := 120) (by omega) (by decide), cond_true, show (nI i).toNatClampNeg = i from nI_clamp (by omega), ← hB', z1, zcI_ok, cond_true, nI_1, w1]
theorem x_build2 {Q W S i : Nat} {l : List (Nat → Nat)} {R : Nat → Nat → Bool} {A : zA} {y : Int32} (hQ : Q ≤ 5) (hl : l.length ≤ 120) (hp : perL Q l) (hS : A 9 1 = nI S) (h9 : S ≤ 9) (hR : RLn Q l A) (hB : bitL Q l.length l A) (hi : i < l.length) (hy : pB y (beF W (A 8 3) (A 10) Q (VL l i))) (hr : ∀ j, j < l.length → R i j = folB W S (A 8 3) (A 10) Q (VL l i) (VL l j)) : ∀ k j b, j + k = l.length → (∀ m, m < 128 → hK b (48 + i) m = (decide (m < j) && R i m)) → ∃ b', R_build_76 (nI i) y (nI j) A b = R_build_51 (nI (i + 1)) A b' ∧ (∀ m, m < 128 → hK b' (48 + i) m = (decide (m < l.length) && R i m)) ∧ ∀ q, q ≠ 48 + i → b' q = b q := by
  intro k
  induction k with
  | zero =>
    intro j b e h
    have : j = l.length := by omega
    subst this
    refine ⟨b, ?_, h, fun _ _ => rfl⟩
    rw [q_R_build_76, hR.1, zcond_f (nI_nlt (Nat.le_refl _) (by omega)), nI_1]
  | succ k ih =>
    intro j b e h
    have hj : j < l.length := by omega
    have zi : zin (nI i) 120 = true := zin_nI (by omega) (by decide)
    have zj : zin (nI j) 120 = true := zin_nI (by omega) (by decide)
    have ci : (nI i).toNatClampNeg = i := nI_clamp (by omega)
    have cj : (nI j).toNatClampNeg = j := nI_clamp (by omega)
    have nx : ∀ b, R_build_145 (nI i) y (nI j) A b = R_build_76 (nI i) y (nI (j + 1)) A b := fun b => by rw [q_R_build_145, nI_1]
    have e1 : R_build_76 (nI i) y (nI j) A b = R_build_117 (nI i) y (nI j) (bI (decide (0 < S) && metP Q (VL l i) (VL l j))) A b := by
      rw [q_R_build_76, hR.1, zcond_t (nI_lt hj (by omega)), show zin 1 2 = true from rfl, cond_true, show (1 : Int32).toNatClampNeg = 1 from rfl, hS, zi, zj, cond_true, cond_true, ci, cj, q_R_build_116, met_bits hQ (hp j hj) (hB i hi).2 (hB j hj).2]
      by_cases c : 0 < S
      · rw [zcond_t (show (0 : Int32) < nI S from nI_lt (a := 0) c (by omega)), decide_eq_true c, Bool.true_and]
        cases metP Q (VL l i) (VL l j) <;> rfl
      · rw [zcond_f (show ¬ (0 : Int32) < nI S from nI_nlt (a := 0) (by omega) (by omega)), decide_eq_false c]
        rfl
    have e2 : R_build_117 (nI i) y (nI j) (bI (decide (0 < S) && metP Q (VL l i) (VL l j))) A b = cond (R i j) (R_build_76 (nI i) y (nI (j + 1)) A (addK b (48 + i) j)) (R_build_76 (nI i) y (nI (j + 1)) A b) := by
      rw [q_R_build_117, zj, cond_true, cj, hit_bits hQ (hp j hj) hy (hB j hj).1, zc_b0, zi, ci, kc_rs (by omega), kc_rg (by omega), kc_k (by omega), k_add (kc_k (by omega)) (by omega), zcV_ok, nx, nx, hr j hj]
      unfold folB
      cases aF (hitB W (A 8 3) (A 10) Q (VL l i) (VL l j)) 0 Q <;> cases decide (0 < S) && metP Q (VL l i) (VL l j) <;> rfl
    rw [e1, e2]
    cases c : R i j
    · refine ih (j + 1) b (by omega) (fun m hm => ?_)
      rw [h m hm]
      by_cases d : m = j
      · rw [d, c, Bool.and_false, Bool.and_false]
      · congr 1
        rw [Bool.eq_iff_iff, decide_eq_true_iff, decide_eq_true_iff]
        omega
    · obtain ⟨b', y1, y2, y3⟩ := ih (j + 1) (addK b (48 + i) j) (by omega) (fun m hm => by
        rw [hK_add (by omega) hm, h m hm]
        by_cases d : m = j
        · rw [d, c, decide_eq_true rfl, decide_eq_true (Nat.lt_succ_self j), Bool.or_true]; rfl
        · rw [decide_eq_false d, Bool.or_false]
          congr 1
          rw [Bool.eq_iff_iff, decide_eq_true_iff, decide_eq_true_iff]
          omega)
      exact ⟨b', y1, y2, fun q hq => (y3 q hq).trans (addK_q hq)⟩
theorem x_build3 {Q W S : Nat} {l : List (Nat → Nat)} {R : Nat → Nat → Bool} {A : zA} (hQ : Q ≤ 5) (hl : l.length ≤ 120) (hp : perL Q l) (hq : A 2 1 = nI Q) (hW : A 9 0 = nI W) (hW9 : W ≤ 9) (hS : A 9 1 = nI S) (h9 : S ≤ 9) (hR : RLn Q l A) (hB : bitL Q l.length l A) (hr : ∀ i j, R i j = folB W S (A 8 3) (A 10) Q (VL l i) (VL l j)) : ∀ k i b, i + k = l.length → (∀ i', i' < i → ∀ m, m < 128 → hK b (48 + i') m = (decide (m < l.length) && R i' m)) → ∃ b', R_build_51 (nI i) A b = okV A b' ∧ ∀ i', i' < l.length → ∀ m, m < 128 → hK b' (48 + i') m = (decide (m < l.length) && R i' m) := by
  intro k
  induction k with
  | zero =>
    intro i b e h
    have : i = l.length := by omega
    subst this
    refine ⟨b, ?_, h⟩
    rw [q_R_build_51, hR.1, zcond_f (nI_nlt (Nat.le_refl _) (by omega))]
    exact okV_ret _ _
  | succ k ih =>
    intro i b e h
    have hi : i < l.length := by omega
    obtain ⟨y, y1, y2⟩ := x_barred (b := b) hQ hq hW hW9 (show i < 120 by omega) (hp i hi) (fun q h => hR.2 i hi q h)
    obtain ⟨c1, c2⟩ := k_clear (kc_k (n := i) (by omega)) A b
    obtain ⟨b1, hb1⟩ : ∃ b1, b1 = zupB (zupB b (48 + i) 0 0) (48 + i) 1 0 := ⟨_, rfl⟩
    rw [← hb1] at c1 c2
    obtain ⟨b2, z1, z2, z3⟩ := x_build2 (R := R) hQ hl hp hS h9 hR hB hi y2 (fun j _ => hr i j) l.length 0 b1 (Nat.zero_add _) (fun m hm => by rw [c2 m]; rfl)
    obtain ⟨b', w1, w2⟩ := ih (i + 1) b2 (by omega) (fun i' hi' m hm => by
      by_cases d : i' = i
      · rw [d]; exact z2 m hm
      · have qb : b2 (48 + i') = b (48 + i') := (z3 (48 + i') (by omega)).trans (by
          rw [hb1]
          funext j
          unfold zupB
          rw [if_neg (fun z => by omega), if_neg (fun z => by omega)])
        rw [hK_q qb]
        exact h i' (by omega) m hm)
    refine ⟨b', ?_, w2⟩
    rw [q_R_build_51, hR.1, zcond_t (nI_lt hi (by omega)), y1, zcI_ok, zin_nI (n := 120) (by omega) (by decide), show (nI i).toNatClampNeg = i from nI_clamp (by omega), kc_rs (by omega), kc_rg (by omega), kc_k (by omega), show ∀ x y : zR, cond (true && true) (cond (cond true true false) x y) y = x from fun _ _ => rfl, c1, zcV_ok, show (0 : Int32) = nI 0 from rfl, z1]
    exact w1
theorem x_build {P Q W S : Nat} {A0 : zA} (b : zB) (hP : P ≤ 5) (hQ : Q ≤ 5) (h0 : A0 2 0 = nI P) (h1 : A0 2 1 = nI Q) (hW : A0 9 0 = nI W) (hW9 : W ≤ 9) (hS : A0 9 1 = nI S) (h9 : S ≤ 9) : ∃ A' b', R_build A0 b = okV A' b' ∧ FB A' A0 ∧ GX Q (ALL P Q) (fun i j => folB W S (A0 8 3) (A0 10) Q (VL (ALL P Q) i) (VL (ALL P Q) j)) A' b' := by
  obtain ⟨A1, a1, a2, a3⟩ := x_addAll b hP hQ h0 h1
  have hl := all_120 hP hQ
  have hp : perL Q (ALL P Q) := fun i hi => all_per hP hi
  obtain ⟨A2, b1, b2, b3, b4⟩ := x_build1 (A0 := A0) b hQ hl hp h1 (ALL P Q).length 0 A1 (Nat.zero_add _) (fun q e1 e2 _ _ => a2 q e1 e2) a3 (fun i hi => absurd hi (Nat.not_lt_zero i))
  have r9 : A2 9 = A0 9 := b2 9 (by decide) (by decide) (by decide) (by decide)
  have r8 : A2 8 = A0 8 := b2 8 (by decide) (by decide) (by decide) (by decide)
  have r10 : A2 10 = A0 10 := b2 10 (by decide) (by decide) (by decide) (by decide)
  have r2 : A2 2 = A0 2 := b2 2 (by decide) (by decide) (by decide) (by decide)
  obtain ⟨b', c1, c2⟩ := x_build3 (W := W) (S := S) (A := A2) (R := fun i j => folB W S (A0 8 3) (A0 10) Q (VL (ALL P Q) i) (VL (ALL P Q) j)) hQ hl hp (by rw [r2]; exact h1) (by rw [r9]; exact hW) hW9 (by rw [r9]; exact hS) h9 b3 b4 (fun i j => by rw [r8, r10]) (ALL P Q).length 0 b (Nat.zero_add _) (fun i hi => absurd hi (Nat.not_lt_zero i))
  refine ⟨A2, b', ?_, b2, b3, b4, c2⟩
  rw [q_R_build, a1, zcV_ok, show (0 : Int32) = nI 0 from rfl, b1]
  exact c1
/-- who can, as bits -/
theorem x_ableB {P Q T W S : Nat} {a c : zA} {b : zB} (hv : vw P Q T W S a c) (hP : P ≤ 5) (hQ : Q ≤ 5) : ∃ y, R_ableBits a b = okI y a b ∧ pB y (fun q w => (decide (q < Q) && decide (w < P)) && yAble a w q) := by
  obtain ⟨-, ⟨⟨p1, -⟩, ⟨q1, -⟩, -⟩, -⟩ := id hv
  have k50 : ∀ p w v u, R_ableBits_50 (nI p) (nI w) v u a b = R_ableBits_17 (v ||| u) (nI p) (nI (w + 1)) a b := fun p w v u => by rw [q_R_ableBits_50, nI_1]
  have l1 : ∀ p, p < Q → ∀ k w v F, w + k = P → pB v F → ∃ y, R_ableBits_17 v (nI p) (nI w) a b = R_ableBits_4 y (nI (p + 1)) a b ∧ pB y (fun q' w' => F q' w' || ((decide (q' = p) && decide (w ≤ w' ∧ w' < P)) && yAble a w' p)) := by
    intro p hp k
    induction k with
    | zero =>
      intro w v F e hF
      refine ⟨v, ?_, pB_c hF (fun q' w' _ _ => ?_)⟩
      · rw [q_R_ableBits_17, p1, zcond_f (nI_nlt (by omega) (by omega)), nI_1]
      · rw [decide_eq_false (show ¬ (w ≤ w' ∧ w' < P) by omega), Bool.and_false, Bool.false_and, Bool.or_false]
    | succ k ih =>
      intro w v F e hF
      rw [q_R_ableBits_17, p1, zcond_t (nI_lt (show w < P by omega) (by omega)), v_ableW hv (show w < P by omega) hp, zcI_ok, zc_b0, k50]
      cases c : yAble a w p
      · obtain ⟨y, y1, y2⟩ := ih (w + 1) (v ||| 0) _ (by omega) (pB_or hF pB_0)
        refine ⟨y, y1, pB_c y2 (fun q' w' _ _ => ?_)⟩
        show ((F q' w' || false) || _) = _
        rw [Bool.or_false]
        congr 1
        by_cases d : w' = w
        · rw [d, c, Bool.and_false, Bool.and_false]
        · congr 2
          rw [Bool.eq_iff_iff, decide_eq_true_iff, decide_eq_true_iff]
          omega
      · obtain ⟨u, z1, z2⟩ := x_place (x := nI w) (p := p) (.inr ⟨w, by omega, rfl⟩) (by omega) a b
        obtain ⟨y, y1, y2⟩ := ih (w + 1) (v ||| u) _ (by omega) (pB_or hF z2)
        refine ⟨y, ?_, pB_c y2 (fun q' w' h1 h2 => ?_)⟩
        · rw [cond_true, z1, zcI_ok, k50]; exact y1
        · show ((F q' w' || plF (nI w) p q' w') || _) = _
          rw [Bool.or_assoc]
          congr 1
          unfold plF
          rw [Bool.eq_iff_iff]
          simp only [Bool.and_eq_true, Bool.or_eq_true, decide_eq_true_iff]
          rw [nI_eq (by omega) (by omega)]
          constructor
          · rintro (⟨g1, g2⟩ | ⟨⟨g1, g2, g3⟩, g4⟩)
            · exact ⟨⟨g1, by omega, by omega⟩, by rw [← g2]; exact c⟩
            · exact ⟨⟨g1, by omega, g3⟩, g4⟩
          · rintro ⟨⟨g1, g2, g3⟩, g4⟩
            by_cases d : w' = w
            · exact .inl ⟨g1, d.symm⟩
            · exact .inr ⟨⟨g1, by omega, g3⟩, g4⟩
  have l2 : ∀ k p v F, p + k = Q → pB v F → ∃ y, R_ableBits_4 v (nI p) a b = okI y a b ∧ pB y (fun q' w' => F q' w' || ((decide (p ≤ q' ∧ q' < Q) && decide (w' < P)) && yAble a w' q')) := by
    intro k
    induction k with
    | zero =>
      intro p v F e hF
      refine ⟨v, ?_, pB_c hF (fun q' w' _ _ => ?_)⟩
      · rw [q_R_ableBits_4, q1, zcond_f (nI_nlt (by omega) (by omega))]
        exact okI_ret _ _ _
      · rw [decide_eq_false (show ¬ (p ≤ q' ∧ q' < Q) by omega), Bool.false_and, Bool.false_and, Bool.or_false]
    | succ k ih =>
      intro p v F e hF
      obtain ⟨u, z1, z2⟩ := l1 p (by omega) P 0 v F (Nat.zero_add _) hF
      obtain ⟨y, y1, y2⟩ := ih (p + 1) u _ (by omega) z2
      refine ⟨y, ?_, pB_c y2 (fun q' w' h1 h2 => ?_)⟩
      · rw [q_R_ableBits_4, q1, zcond_t (nI_lt (show p < Q by omega) (by omega)), show (0 : Int32) = nI 0 from rfl, z1, y1]
      · show ((F q' w' || _) || _) = _
        rw [Bool.or_assoc]
        congr 1
        rw [Bool.eq_iff_iff]
        simp only [Bool.and_eq_true, Bool.or_eq_true, decide_eq_true_iff]
        constructor
        · rintro (⟨⟨g1, g2, g3⟩, g4⟩ | ⟨⟨⟨g1, g2⟩, g3⟩, g4⟩)
          · exact ⟨⟨⟨by omega, by omega⟩, g3⟩, by rw [g1]; exact g4⟩
          · exact ⟨⟨⟨by omega, g2⟩, g3⟩, g4⟩
        · rintro ⟨⟨⟨g1, g2⟩, g3⟩, g4⟩
          by_cases d : q' = p
          · exact .inl ⟨⟨d, Nat.zero_le _, g3⟩, by rw [← d]; exact g4⟩
          · exact .inr ⟨⟨⟨by omega, g2⟩, g3⟩, g4⟩
  obtain ⟨y, y1, y2⟩ := l2 Q 0 0 _ (Nat.zero_add _) pB_0
  refine ⟨y, by rw [q_R_ableBits]; exact y1, pB_c y2 (fun q w _ _ => ?_)⟩
  show (false || _) = _
  rw [Bool.false_or]
  congr 2
  rw [Bool.eq_iff_iff, decide_eq_true_iff, decide_eq_true_iff]
  omega
/-- those in use -/
theorem x_useBy {Q : Nat} {l : List (Nat → Nat)} {A : zA} {x : Int32} {G : Nat → Nat → Bool} {f : Nat → Nat → Bool} (b : zB) (hl : l.length ≤ 120) (hQ : Q ≤ 5) (hp : ∀ i, i < l.length → ∀ q, q < Q → nd l i q < 5) (h18 : A 35 18 = nI l.length) (hB : bitL Q l.length l A) (hx : pB x G) (hf : ∀ q w, q < Q → w < 5 → G q w = f w q) : ∃ b', R_useBy x A b = okV A b' ∧ (∀ n, n < 128 → hK b' 41 n = (decide (n < l.length) && okN f 0 Q (nd l n))) ∧ ∀ q, q ≠ 41 → b' q = b q := by
  have nx : ∀ i b, R_useBy_38 x (nI i) A b = R_useBy_9 x (nI (i + 1)) A b := fun i b => by rw [q_R_useBy_38, nI_1]
  have tst : ∀ i, i < l.length → decide ((A 38 i) &&& (x ^^^ (-1)) = 0) = okN f 0 Q (nd l i) := fun i hi => by
    rw [Bool.eq_iff_iff, decide_eq_true_iff, pB_sub (hB i hi).1 hx]
    unfold okN
    rw [Bool.not_eq_true']
    constructor
    · intro h
      refine Bool.eq_false_iff.mpr fun z => ?_
      obtain ⟨q, _, hq, g⟩ := (aF_i _ _).mp z
      have hw := hp i hi q (by omega)
      have := h q (nd l i q) (by omega) hw (by
        unfold atF
        rw [decide_eq_true (show q < Q by omega), Bool.true_and, decide_eq_true_iff]
        rfl)
      rw [hf q _ (by omega) hw] at this
      rw [this] at g
      exact absurd g (by decide)
    · intro h q w h1 h2 h3
      unfold atF at h3
      rw [Bool.and_eq_true, decide_eq_true_iff, decide_eq_true_iff] at h3
      have hw := hp i hi q h3.1
      have e : nd l i q = w := (nI_eq (by omega) (by omega)).mp h3.2
      rw [hf q w h3.1 h2]
      cases c : f w q
      · have : aF (fun q => !f (nd l i q) q) 0 Q = true := (aF_i _ _).mpr ⟨q, Nat.zero_le _, by omega, by rw [e, c]; rfl⟩
        rw [h] at this
        exact absurd this (by decide)
      · rfl
  have loop : ∀ k i b, i + k = l.length → (∀ n, n < 128 → hK b 41 n = (decide (n < i) && okN f 0 Q (nd l n))) → ∃ b', R_useBy_9 x (nI i) A b = okV A b' ∧ (∀ n, n < 128 → hK b' 41 n = (decide (n < l.length) && okN f 0 Q (nd l n))) ∧ ∀ q, q ≠ 41 → b' q = b q := by
    intro k
    induction k with
    | zero =>
      intro i b e h
      have : i = l.length := by omega
      subst this
      refine ⟨b, ?_, h, fun _ _ => rfl⟩
      rw [q_R_useBy_9, h18, zcond_f (nI_nlt (Nat.le_refl _) (by omega))]
      exact okV_ret _ _
    | succ k ih =>
      intro i b e h
      have hi : i < l.length := by omega
      rw [q_R_useBy_9, h18, zcond_t (nI_lt hi (by omega)), zin_nI (n := 120) (by omega) (by decide), cond_true, show (nI i).toNatClampNeg = i from nI_clamp (by omega), tst i hi, k_add kc_41 (by omega), zcV_ok, nx, nx]
      cases c : okN f 0 Q (nd l i)
      · refine ih (i + 1) b (by omega) (fun n hn => ?_)
        rw [h n hn]
        by_cases d : n = i
        · rw [d, c, Bool.and_false, Bool.and_false]
        · congr 1
          rw [Bool.eq_iff_iff, decide_eq_true_iff, decide_eq_true_iff]
          omega
      · obtain ⟨b', y1, y2, y3⟩ := ih (i + 1) (addK b 41 i) (by omega) (fun n hn => by
          rw [hK_add (by omega) hn, h n hn]
          by_cases d : n = i
          · rw [d, c, decide_eq_true rfl, decide_eq_true (Nat.lt_succ_self i), Bool.or_true]; rfl
          · rw [decide_eq_false d, Bool.or_false]
            congr 1
            rw [Bool.eq_iff_iff, decide_eq_true_iff, decide_eq_true_iff]
            omega)
        exact ⟨b', y1, y2, fun q hq => (y3 q hq).trans (addK_q hq)⟩
  obtain ⟨c1, c2⟩ := k_clear kc_41 A b
  obtain ⟨b1, hb1⟩ : ∃ b1, b1 = zupB (zupB b 41 0 0) 41 1 0 := ⟨_, rfl⟩
  rw [← hb1] at c1 c2
  obtain ⟨b', y1, y2, y3⟩ := loop l.length 0 b1 (Nat.zero_add _) (fun n hn => by rw [c2 n]; rfl)
  refine ⟨b', ?_, y2, fun q hq => (y3 q hq).trans ?_⟩
  · rw [q_R_useBy, c1, zcV_ok]; exact y1
  · rw [hb1]
    funext j
    unfold zupB
    rw [if_neg (fun z => by omega), if_neg (fun z => by omega)]
