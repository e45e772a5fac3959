/-! Which filling may follow which: by bits, and post by post. -/
def atF (Q : Nat) (V : Nat → Int32) (q w : Nat) : Bool := decide (q < Q) && decide (V q = nI w)
def neF (Q : Nat) (V : Nat → Int32) (q w : Nat) : Bool := aF (fun p => prF (V (p - 1)) (V p) q w) 1 (Q - 1)
def beF (W : Nat) (F : Int32) (N : Nat → Int32) (Q : Nat) (V : Nat → Int32) (q w : Nat) : Bool := aF (fun p => baF W F N Q (V p) p q w) 0 Q
def hitB (W : Nat) (F : Int32) (N : Nat → Int32) (Q : Nat) (V X : Nat → Int32) (q : Nat) : Bool := ((decide (0 < W) && !hB F q) && decide (V q = X q)) || aF (fun p => decide (V p = X q) && hB (N p) q) 0 Q
def satB (Q : Nat) (V : Nat → Int32) (x y : Int32) : Bool := aF (fun r => (decide (V (r - 1) = x) && decide (V r = y)) || (decide (V (r - 1) = y) && decide (V r = x))) 1 (Q - 1)
def metP (Q : Nat) (V X : Nat → Int32) : Bool := aF (fun p => satB Q V (X (p - 1)) (X p)) 1 (Q - 1)
def folB (W S : Nat) (F : Int32) (N : Nat → Int32) (Q : Nat) (V X : Nat → Int32) : Bool := !aF (hitB W F N Q V X) 0 Q && !(decide (0 < S) && metP Q V X)
def perF (Q : Nat) (X : Nat → Int32) : Prop := ∀ q, q < Q → ∃ w, w < 5 ∧ X q = nI w
theorem nI_5 {u w : Nat} (hu : u < 5) (hw : w < 5) : nI u = nI w ↔ u = w := nI_eq (by omega) (by omega)
theorem hit_bits {W Q : Nat} {F : Int32} {N V X : Nat → Int32} {y x : Int32} (hQ : Q ≤ 5) (hX : perF Q X) (hy : pB y (beF W F N Q V)) (hx : pB x (atF Q X)) : decide (y &&& x = 0) = !aF (hitB W F N Q V X) 0 Q := by
  have e := pB_and hy hx
  cases h : aF (hitB W F N Q V X) 0 Q
  · refine decide_eq_true (e.mpr fun q w h1 h2 h3 => Bool.eq_false_iff.mpr fun h4 => ?_)
    unfold atF at h4
    rw [Bool.and_eq_true, decide_eq_true_iff, decide_eq_true_iff] at h4
    obtain ⟨p, _, hp, g⟩ := (aF_i _ _).mp h3
    have : aF (hitB W F N Q V X) 0 Q = true := (aF_i _ _).mpr ⟨q, Nat.zero_le _, by omega, by
      unfold baF at g
      unfold hitB
      simp only [Bool.and_eq_true, Bool.or_eq_true, decide_eq_true_iff] at g ⊢
      obtain ⟨g1, g2⟩ := g
      rcases g2 with ⟨g2, g3⟩ | ⟨_, g3⟩
      · exact .inl ⟨by rw [g2]; exact g3, by rw [g2, g1, ← g2]; exact h4.2.symm⟩
      · exact .inr ((aF_i _ _).mpr ⟨p, Nat.zero_le _, hp, by rw [g3, Bool.and_true, decide_eq_true_iff, g1]; exact h4.2.symm⟩)⟩
    rw [h] at this
    exact absurd this (by decide)
  · refine decide_eq_false fun z => ?_
    obtain ⟨q, _, hq, g⟩ := (aF_i _ _).mp h
    obtain ⟨w, hw, ew⟩ := hX q (by omega)
    have h1 : atF Q X q w = true := by
      unfold atF
      rw [decide_eq_true (show q < Q by omega), decide_eq_true ew]; rfl
    have h2 : beF W F N Q V q w = true := by
      unfold hitB at g
      rw [Bool.or_eq_true] at g
      rcases g with g | g
      · rw [Bool.and_eq_true, decide_eq_true_iff] at g
        refine (aF_i _ _).mpr ⟨q, Nat.zero_le _, by omega, ?_⟩
        unfold baF
        rw [g.1, decide_eq_true (g.2.trans ew), decide_eq_true rfl]; rfl
      · obtain ⟨p, _, hp, g⟩ := (aF_i _ _).mp g
        rw [Bool.and_eq_true, decide_eq_true_iff] at g
        refine (aF_i _ _).mpr ⟨p, Nat.zero_le _, hp, ?_⟩
        unfold baF
        rw [g.2, decide_eq_true (g.1.trans ew), decide_eq_true (show q < Q by omega), Bool.true_and, Bool.true_and, Bool.or_true]
    have := e.mp z q w (by omega) hw h2
    rw [h1] at this
    exact absurd this (by decide)
theorem met_bits {Q : Nat} {V X : Nat → Int32} {y x : Int32} (hQ : Q ≤ 5) (hX : perF Q X) (hy : pB y (neF Q V)) (hx : pB x (neF Q X)) : decide (y &&& x = 0) = !metP Q V X := by
  have e := pB_and hy hx
  cases h : metP Q V X
  · refine decide_eq_true (e.mpr fun q w h1 h2 h3 => Bool.eq_false_iff.mpr fun h4 => ?_)
    obtain ⟨r, r1, r2, g⟩ := (aF_i _ _).mp h3
    obtain ⟨p, p1, p2, f⟩ := (aF_i _ _).mp h4
    have : metP Q V X = true := (aF_i _ _).mpr ⟨p, p1, p2, (aF_i _ _).mpr ⟨r, r1, r2, by
      unfold prF at g f
      rw [Bool.and_eq_true, Bool.or_eq_true, Bool.and_eq_true, Bool.and_eq_true, decide_eq_true_iff, decide_eq_true_iff, decide_eq_true_iff, decide_eq_true_iff, decide_eq_true_iff] at g f
      rw [Bool.or_eq_true, Bool.and_eq_true, Bool.and_eq_true, decide_eq_true_iff, decide_eq_true_iff, decide_eq_true_iff, decide_eq_true_iff]
      rcases g.2 with ⟨g1, g2⟩ | ⟨g1, g2⟩
      · rcases f.2 with ⟨f1, f2⟩ | ⟨f1, f2⟩
        · exact .inl ⟨g1.trans f1.symm, g2.trans f2.symm⟩
        · exact .inr ⟨g1.trans f2.symm, g2.trans f1.symm⟩
      · rcases f.2 with ⟨f1, f2⟩ | ⟨f1, f2⟩
        · exact .inr ⟨g1.trans f2.symm, g2.trans f1.symm⟩
        · exact .inl ⟨g1.trans f1.symm, g2.trans f2.symm⟩⟩⟩
    rw [h] at this
    exact absurd this (by decide)
  · refine decide_eq_false fun z => ?_
    obtain ⟨p, p1, p2, g⟩ := (aF_i _ _).mp h
    obtain ⟨r, r1, r2, g⟩ := (aF_i _ _).mp g
    obtain ⟨u, hu, eu⟩ := hX (p - 1) (by omega)
    obtain ⟨w, hw, ew⟩ := hX p (by omega)
    have pr : ∀ a c : Nat, a < 5 → c < 5 → (prF (nI a) (nI c) (min u w) (max u w) = true ↔ (a = u ∧ c = w) ∨ (a = w ∧ c = u)) := fun a c ha hc => by
      unfold prF
      rw [Bool.and_eq_true, Bool.or_eq_true, Bool.and_eq_true, Bool.and_eq_true, decide_eq_true_iff, decide_eq_true_iff, decide_eq_true_iff, decide_eq_true_iff, decide_eq_true_iff, nI_5 ha (by omega), nI_5 hc (by omega), nI_5 ha (by omega), nI_5 hc (by omega)]
      omega
    have h1 : neF Q X (min u w) (max u w) = true := (aF_i _ _).mpr ⟨p, p1, p2, by rw [eu, ew]; exact (pr u w hu hw).mpr (.inl ⟨rfl, rfl⟩)⟩
    have h2 : neF Q V (min u w) (max u w) = true := (aF_i _ _).mpr ⟨r, r1, r2, by
      rw [Bool.or_eq_true, Bool.and_eq_true, Bool.and_eq_true, decide_eq_true_iff, decide_eq_true_iff, decide_eq_true_iff, decide_eq_true_iff, eu, ew] at g
      rcases g with ⟨g1, g2⟩ | ⟨g1, g2⟩
      · rw [g1, g2]; exact (pr u w hu hw).mpr (.inl ⟨rfl, rfl⟩)
      · rw [g1, g2]; exact (pr w u hw hu).mpr (.inr ⟨rfl, rfl⟩)⟩
    have := e.mp z (min u w) (max u w) (by omega) (by omega) h2
    rw [h1] at this
    exact absurd this (by decide)
/-- one post after the other -/
def folP (W S : Nat) (F : Int32) (N : Nat → Int32) (Q : Nat) (V X : Nat → Int32) (p : Nat) : Bool := hitB W F N Q V X p || ((decide (0 < p) && decide (0 < S)) && satB Q V (X (p - 1)) (X p))
theorem fol_p {W S : Nat} {F : Int32} {N : Nat → Int32} {Q : Nat} {V X : Nat → Int32} : (!aF (folP W S F N Q V X) 0 Q) = folB W S F N Q V X := by
  unfold folB
  rw [← Bool.not_or]
  congr 1
  rw [Bool.eq_iff_iff, Bool.or_eq_true, Bool.and_eq_true, decide_eq_true_iff, aF_i, aF_i]
  constructor
  · rintro ⟨p, h1, h2, h3⟩
    unfold folP at h3
    rw [Bool.or_eq_true, Bool.and_eq_true, Bool.and_eq_true, decide_eq_true_iff, decide_eq_true_iff] at h3
    rcases h3 with h3 | ⟨⟨h3, h4⟩, h5⟩
    · exact .inl ⟨p, h1, h2, h3⟩
    · exact .inr ⟨h4, (aF_i _ _).mpr ⟨p, by omega, by omega, h5⟩⟩
  · rintro (⟨p, h1, h2, h3⟩ | ⟨h4, h5⟩)
    · exact ⟨p, h1, h2, by unfold folP; rw [h3]; rfl⟩
    · obtain ⟨p, h1, h2, h3⟩ := (aF_i _ _).mp h5
      exact ⟨p, by omega, by omega, by unfold folP; rw [h3, decide_eq_true h4, decide_eq_true (show 0 < p by omega), Bool.true_and, Bool.true_and, Bool.or_true]⟩
/-! The class's bits of a node. -/
theorem x_one {n p : Nat} (hn : n < 120) (hp : p < 5) (a : zA) (b : zB) : R_oneAt (nI n) (nI p) a b = okI (a 37 (5 * n + p)) a b := by
  rw [q_R_oneAt, zcond_f (nI_pos (by omega)), zcond_t (show nI n < 120 from nI_lt (b := 120) hn (by decide)), zcond_f (nI_pos (by omega)), zcond_t (show nI p < 5 from nI_lt (b := 5) hp (by decide)), show nI n * 5 + nI p = nI (5 * n + p) from (s_mul n 5 p).trans (by rw [Nat.mul_comm]), zin_nI (by omega) (by decide), cond_true, show (nI (5 * n + p)).toNatClampNeg = 5 * n + p from nI_clamp (by omega)]
  exact okI_ret _ _ _
theorem x_placesOf {Q n : Nat} {V : Nat → Int32} {a : zA} {b : zB} (hQ : Q ≤ 5) (hq : a 2 1 = nI Q) (hn : n < 120) (hV : perF Q V) (hA : ∀ q, q < Q → a 37 (5 * n + q) = V q) : ∃ y, R_placesOf (nI n) a b = okI y a b ∧ pB y (atF Q V) := by
  have loop : ∀ k p v F, p + k = Q → pB v F → ∃ y, R_placesOf_4 (nI n) v (nI p) a b = okI y a b ∧ pB y (fun q w => F q w || aF (fun p => plF (V p) p q w) p k) := by
    intro k
    induction k with
    | zero =>
      intro p v F e hF
      refine ⟨v, ?_, pB_c hF (fun q w _ _ => (Bool.or_false _).symm)⟩
      rw [q_R_placesOf_4, hq, zcond_f (nI_nlt (by omega) (by omega))]
      exact okI_ret _ _ _
    | succ k ih =>
      intro p v F e hF
      obtain ⟨w, hw, ew⟩ := hV p (by omega)
      obtain ⟨u, z1, z2⟩ := x_place (x := V p) (p := p) (.inr ⟨w, hw, ew⟩) (by omega) a b
      obtain ⟨y, y1, y2⟩ := ih (p + 1) (v ||| u) _ (by omega) (pB_or hF z2)
      refine ⟨y, ?_, pB_c y2 (fun q w _ _ => Bool.or_assoc _ _ _)⟩
      rw [q_R_placesOf_4, hq, zcond_t (nI_lt (show p < Q by omega) (by omega)), x_one hn (by omega), zcI_ok, hA p (by omega), z1, zcI_ok, nI_1, y1]
  obtain ⟨y, y1, y2⟩ := loop Q 0 0 _ (Nat.zero_add _) pB_0
  refine ⟨y, by rw [q_R_placesOf]; exact y1, pB_c y2 (fun q w h1 h2 => ?_)⟩
  rw [Bool.false_or]
  refine Bool.eq_iff_iff.mpr ((aF_i _ _).trans ?_)
  unfold atF plF
  rw [Bool.and_eq_true, decide_eq_true_iff, decide_eq_true_iff]
  constructor
  · rintro ⟨p, _, h4, h5⟩
    rw [Bool.and_eq_true, decide_eq_true_iff, decide_eq_true_iff] at h5
    exact ⟨by omega, by rw [h5.1]; exact h5.2⟩
  · rintro ⟨h4, h5⟩
    exact ⟨q, Nat.zero_le _, by omega, by rw [decide_eq_true rfl, decide_eq_true h5]; rfl⟩
theorem x_pairsOf {Q n : Nat} {V : Nat → Int32} {a : zA} {b : zB} (hQ : Q ≤ 5) (hq : a 2 1 = nI Q) (hn : n < 120) (hV : perF Q V) (hA : ∀ q, q < Q → a 37 (5 * n + q) = V q) : ∃ y, R_pairsOf (nI n) a b = okI y a b ∧ pB y (neF Q V) := by
  have loop : ∀ k p v F, 1 ≤ p → (p + k = Q ∨ (k = 0 ∧ Q ≤ p)) → p ≤ 5 → pB v F → ∃ y, R_pairsOf_4 (nI n) v (nI p) a b = okI y a b ∧ pB y (fun q w => F q w || aF (fun p => prF (V (p - 1)) (V p) q w) p k) := by
    intro k
    induction k with
    | zero =>
      intro p v F hp e e5 hF
      refine ⟨v, ?_, pB_c hF (fun q w _ _ => (Bool.or_false _).symm)⟩
      rw [q_R_pairsOf_4, hq, zcond_f (nI_nlt (by omega) (by omega))]
      exact okI_ret _ _ _
    | succ k ih =>
      intro p v F hp e e5 hF
      obtain ⟨w, hw, ew⟩ := hV p (by omega)
      obtain ⟨w', hw', ew'⟩ := hV (p - 1) (by omega)
      obtain ⟨u, z1, z2⟩ := x_pair (x := V (p - 1)) (y := V p) (.inr ⟨w', hw', ew'⟩) (.inr ⟨w, hw, ew⟩) a b
      obtain ⟨y, y1, y2⟩ := ih (p + 1) (v ||| u) _ (by omega) (by omega) (by omega) (pB_or hF z2)
      refine ⟨y, ?_, pB_c y2 (fun q w _ _ => Bool.or_assoc _ _ _)⟩
      rw [q_R_pairsOf_4, hq, zcond_t (nI_lt (show p < Q by omega) (by omega)), show nI p - 1 = nI (p - 1) from pk_sub (b := 1) hp, x_one hn (by omega), zcI_ok, x_one hn (by omega), zcI_ok, hA p (by omega), hA (p - 1) (by omega), z1, zcI_ok, nI_1, y1]
  obtain ⟨y, y1, y2⟩ := loop (Q - 1) 1 0 _ (Nat.le_refl _) (by omega) (by decide) pB_0
  refine ⟨y, by rw [q_R_pairsOf]; exact y1, pB_c y2 (fun q w h1 h2 => ?_)⟩
  rw [Bool.false_or]
  rfl
theorem x_barred {Q W n : Nat} {V : Nat → Int32} {a : zA} {b : zB} (hQ : Q ≤ 5) (hq : a 2 1 = nI Q) (hW : a 9 0 = nI W) (h9 : W ≤ 9) (hn : n < 120) (hV : perF Q V) (hA : ∀ q, q < Q → a 37 (5 * n + q) = V q) : ∃ y, R_barredBehind (nI n) a b = okI y a b ∧ pB y (beF W (a 8 3) (a 10) Q V) := by
  have loop : ∀ k p v F, p + k = Q → pB v F → ∃ y, R_barredBehind_4 (nI n) v (nI p) a b = okI y a b ∧ pB y (fun q w => F q w || aF (fun p => baF W (a 8 3) (a 10) Q (V p) p q w) p k) := by
    intro k
    induction k with
    | zero =>
      intro p v F e hF
      refine ⟨v, ?_, pB_c hF (fun q w _ _ => (Bool.or_false _).symm)⟩
      rw [q_R_barredBehind_4, hq, zcond_f (nI_nlt (by omega) (by omega))]
      exact okI_ret _ _ _
    | succ k ih =>
      intro p v F e hF
      obtain ⟨w, hw, ew⟩ := hV p (by omega)
      obtain ⟨u, z1, z2⟩ := x_barTo (b := b) (x := V p) (p := p) hQ hq hW h9 (.inr ⟨w, hw, ew⟩) (by omega)
      obtain ⟨y, y1, y2⟩ := ih (p + 1) (v ||| u) _ (by omega) (pB_or hF z2)
      refine ⟨y, ?_, pB_c y2 (fun q w _ _ => Bool.or_assoc _ _ _)⟩
      rw [q_R_barredBehind_4, hq, zcond_t (nI_lt (show p < Q by omega) (by omega)), x_one hn (by omega), zcI_ok, hA p (by omega), z1, zcI_ok, nI_1, y1]
  obtain ⟨y, y1, y2⟩ := loop Q 0 0 _ (Nat.zero_add _) pB_0
  exact ⟨y, by rw [q_R_barredBehind]; exact y1, pB_c y2 (fun q w h1 h2 => Bool.false_or _)⟩
