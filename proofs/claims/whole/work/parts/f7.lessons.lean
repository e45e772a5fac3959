/-! Lessons: what one does; the class. -/
noncomputable def gmax (n : Nat) (R : Nat → Nat → Bool) (U : Nat → Bool) (i : Nat) : Bool := cB (∃ V : Nat → Bool, (∀ i, i < n → V i = true → U i = true) ∧ clN n R V ∧ V i = true)
theorem gf_max (n : Nat) (R : Nat → Nat → Bool) (U : Nat → Bool) : GF n R U (gmax n R U) := by
  refine ⟨fun i hi h => ?_, fun i hi h => ?_, fun V h1 h2 i hi h => cB_t ⟨V, h1, h2, h⟩⟩
  · obtain ⟨V, h1, -, h3⟩ := cB_i.mp h
    exact h1 i hi h3
  · obtain ⟨V, h1, h2, h3⟩ := cB_i.mp h
    obtain ⟨j, j1, j2, j3⟩ := h2 i hi h3
    exact ⟨j, j1, j2, cB_t ⟨V, h1, h2, j3⟩⟩
theorem gf_cnt {n : Nat} {R : Nat → Nat → Bool} {U U1 U2 : Nat → Bool} (h : GF n R U U1) (g : GF n R U U2) : cnt U1 n = cnt U2 n :=
  Nat.le_antisymm (cnt_sub n (g.2.2 U1 h.1 h.2.1)) (cnt_sub n (h.2.2 U2 g.1 g.2.1))
/-- whether one can go on for ever -/
noncomputable def dB (P Q : Nat) (R : Nat → Nat → Bool) (f : Nat → Nat → Bool) : Bool := decide (0 < cnt (gmax (ALL P Q).length R (okU P Q f)) (ALL P Q).length)
theorem okN_c {f g : Nat → Nat → Bool} {Q : Nat} {s : Nat → Nat} (h : ∀ w q, q < Q → f w q = g w q) : okN f 0 Q s = okN g 0 Q s := by
  unfold okN
  congr 1
  exact aF_congr Q 0 (fun q _ hq => by rw [h _ q (by omega)])
theorem dB_c {P Q : Nat} {R : Nat → Nat → Bool} {f g : Nat → Nat → Bool} (h : ∀ w q, q < Q → f w q = g w q) : dB P Q R f = dB P Q R g := by
  unfold dB
  have : okU P Q f = okU P Q g := funext fun n => okN_c h
  rw [this]
theorem x_lastB {P Q : Nat} {R : Nat → Nat → Bool} {A : zA} {b : zB} {x : Int32} {f : Nat → Nat → Bool} (hP : P ≤ 5) (hQ : Q ≤ 5) (hG : GX Q (ALL P Q) R A b) (hx : pB x (fun q w => decide (q < Q) && f w q)) : ∃ b' v, R_lasting x A b = okI v A b' ∧ decide (0 < v) = dB P Q R f ∧ GX Q (ALL P Q) R A b' := by
  obtain ⟨b', U', y1, y2, y3⟩ := x_lasting hP hQ rfl hG hx
  refine ⟨b', _, y1, ?_, y3⟩
  have hN := all_120 hP hQ
  have c := cnt_le U' (ALL P Q).length
  unfold dB
  rw [gf_cnt (gf_max _ R (okU P Q f)) y2, Bool.eq_iff_iff, decide_eq_true_iff, decide_eq_true_iff]
  exact nI_ltI (a := 0) (by decide) (by omega)
/-- able by one lesson more -/
def lsF (a : zA) (f : Nat → Nat → Bool) (k w p : Nat) : Bool := f w p || (decide (w = k / 6) && decide (a 4 p = nI (k % 6)))
/-- whether a lesson opens a place -/
def adB (a : zA) (Q : Nat) (f : Nat → Nat → Bool) (k : Nat) : Bool := aF (fun p => decide (a 4 p = nI (k % 6)) && !f (k / 6) p) 0 Q
theorem ad_no {a : zA} {Q : Nat} {f : Nat → Nat → Bool} {k : Nat} (h : adB a Q f k = false) : ∀ w q, q < Q → lsF a f k w q = f w q := fun w q hq => by
  unfold lsF
  by_cases c : w = k / 6 ∧ a 4 q = nI (k % 6)
  · cases d : f w q
    · have : adB a Q f k = true := (aF_i _ _).mpr ⟨q, Nat.zero_le _, by omega, by rw [← c.1, d, decide_eq_true c.2]; rfl⟩
      rw [h] at this
      exact absurd this (by decide)
    · rfl
  · rw [show (decide (w = k / 6) && decide (a 4 q = nI (k % 6))) = false from Bool.eq_false_iff.mpr fun z => by
      rw [Bool.and_eq_true, decide_eq_true_iff, decide_eq_true_iff] at z
      exact c z, Bool.or_false]
theorem ls_c {a : zA} {f g : Nat → Nat → Bool} {k Q : Nat} (h : ∀ w q, q < Q → f w q = g w q) : ∀ w q, q < Q → lsF a f k w q = lsF a g k w q := fun w q hq => by
  unfold lsF
  rw [h w q hq]
def leF (a : zA) (Q k q w : Nat) : Bool := decide (q < Q) && (decide (a 4 q = nI (k % 6)) && decide (w = k / 6))
theorem x_lesson {Q k : Nat} {A : zA} (b : zB) (hQ : Q ≤ 5) (hq : A 2 1 = nI Q) (hk : k < 30) : ∃ y, R_lessonBits (nI k) A b = okI y A b ∧ pB y (leF A Q k) := by
  have d6 : decide ((6 : Int32) = 0) = false := by decide
  have kd : nI k / 6 = nI (k / 6) := pk_div (d := 6) (by omega) (by decide) (by decide)
  have kr : nI k - nI k / 6 * 6 = nI (k % 6) := pk_rem (d := 6) (by omega) (by decide) (by decide)
  have nx : ∀ v p, R_lessonBits_42 (nI k) v (nI p) A b = R_lessonBits_4 (nI k) v (nI (p + 1)) A b := fun v p => by rw [q_R_lessonBits_42, nI_1]
  have loop : ∀ m p v F, p + m = Q → pB v F → ∃ y, R_lessonBits_4 (nI k) v (nI p) A b = okI y A b ∧ pB y (fun q w => F q w || (decide (p ≤ q ∧ q < Q) && (decide (A 4 q = nI (k % 6)) && decide (w = k / 6)))) := by
    intro m
    induction m with
    | zero =>
      intro p v F e h
      refine ⟨v, ?_, pB_c h (fun q w _ _ => ?_)⟩
      · rw [q_R_lessonBits_4, hq, zcond_f (nI_nlt (by omega) (by omega))]
        exact okI_ret _ _ _
      · rw [decide_eq_false (show ¬ (p ≤ q ∧ q < Q) by omega), Bool.false_and, Bool.or_false]
    | succ m ih =>
      intro p v F e h
      rw [q_R_lessonBits_4, hq, zcond_t (nI_lt (show p < Q by omega) (by omega)), zin_nI (n := 10) (by omega) (by decide), cond_true, d6, cond_false, cond_false, kr, kd, show (nI p).toNatClampNeg = p from nI_clamp (by omega), nx]
      by_cases c : A 4 p = nI (k % 6)
      · obtain ⟨u, z1, z2⟩ := x_place (x := nI (k / 6)) (p := p) (.inr ⟨k / 6, by omega, rfl⟩) (by omega) A b
        obtain ⟨y, y1, y2⟩ := ih (p + 1) (v ||| u) _ (by omega) (pB_or h z2)
        refine ⟨y, ?_, pB_c y2 (fun q w hq5 hw => ?_)⟩
        · rw [zcond_t c, z1, zcI_ok, nx, y1]
        · show ((F q w || plF (nI (k / 6)) p q w) || _) = _
          rw [Bool.or_assoc]
          congr 1
          unfold plF
          rw [Bool.eq_iff_iff]
          simp only [Bool.and_eq_true, Bool.or_eq_true, decide_eq_true_iff]
          rw [nI_eq (by omega) (by omega)]
          constructor
          · rintro (⟨g1, g2⟩ | ⟨⟨g1, g2⟩, g3, g4⟩)
            · exact ⟨⟨by omega, by omega⟩, by rw [g1]; exact c, g2.symm⟩
            · exact ⟨⟨by omega, g2⟩, g3, g4⟩
          · rintro ⟨⟨g1, g2⟩, g3, g4⟩
            by_cases d : q = p
            · exact .inl ⟨d, g4.symm⟩
            · exact .inr ⟨⟨by omega, g2⟩, g3, g4⟩
      · obtain ⟨y, y1, y2⟩ := ih (p + 1) v F (by omega) h
        refine ⟨y, ?_, pB_c y2 (fun q w hq5 hw => ?_)⟩
        · rw [zcond_f c, y1]
        · congr 1
          by_cases d : q = p
          · rw [d, decide_eq_false c, Bool.false_and, Bool.and_false, Bool.and_false]
          · congr 1
            rw [Bool.eq_iff_iff, decide_eq_true_iff, decide_eq_true_iff]
            omega
  obtain ⟨y, y1, y2⟩ := loop Q 0 0 _ (Nat.zero_add _) pB_0
  refine ⟨y, by rw [q_R_lessonBits]; exact y1, pB_c y2 (fun q w _ _ => ?_)⟩
  show (false || _) = _
  rw [Bool.false_or, show decide (0 ≤ q ∧ q < Q) = decide (q < Q) by rw [Bool.eq_iff_iff, decide_eq_true_iff, decide_eq_true_iff]; omega]
  rfl
theorem pB_andn {v v' : Int32} {F F' : Nat → Nat → Bool} (h : pB v F) (h' : pB v' F') : pB (v &&& (v' ^^^ (-1))) (fun q w => F q w && !F' q w) := ⟨fun q w h1 h2 => by rw [hB_and, hB_xor1 _ (by omega), h.1 q w h1 h2, h'.1 q w h1 h2], fun i h1 h2 => by rw [hB_and, h.2 i h1 h2]; rfl⟩
theorem pB_orE {v v' : Int32} {F F' : Nat → Nat → Bool} (h : pB v F) (h' : pB v' F') : (v ||| v' = v) ↔ ∀ q w, q < 5 → w < 5 → F' q w = true → F q w = true := by
  constructor
  · intro e q w h1 h2 h3
    have g := hB_or v v' (5 * q + w)
    rw [e, h.1 q w h1 h2, h'.1 q w h1 h2, h3, Bool.or_true] at g
    exact g
  · intro e
    refine hB_ext fun i hi => ?_
    rw [hB_or]
    by_cases c : i < 25
    · obtain ⟨q, w, h1, h2, rfl⟩ := i25 c
      rw [h.1 q w h1 h2, h'.1 q w h1 h2]
      cases g : F' q w
      · exact Bool.or_false _
      · rw [e q w h1 h2 g]; rfl
    · rw [h'.2 i (by omega) hi, Bool.or_false]
theorem le_ad {a : zA} {Q k : Nat} {f : Nat → Nat → Bool} (hQ : Q ≤ 5) (hk : k < 30) : (∀ q w, q < 5 → w < 5 → leF a Q k q w = true → (decide (q < Q) && f w q) = true) ↔ adB a Q f k = false := by
  constructor
  · intro h
    refine Bool.eq_false_iff.mpr fun z => ?_
    obtain ⟨p, _, hp, g⟩ := (aF_i _ _).mp z
    rw [Bool.and_eq_true, decide_eq_true_iff] at g
    have := h p (k / 6) (by omega) (by omega) (by
      unfold leF
      rw [decide_eq_true (show p < Q by omega), decide_eq_true g.1, decide_eq_true rfl]; rfl)
    rw [Bool.and_eq_true] at this
    rw [this.2] at g
    exact absurd g.2 (by decide)
  · intro h q w h1 h2 h3
    unfold leF at h3
    rw [Bool.and_eq_true, Bool.and_eq_true, decide_eq_true_iff, decide_eq_true_iff, decide_eq_true_iff] at h3
    rw [decide_eq_true h3.1, Bool.true_and]
    cases c : f w q
    · have : adB a Q f k = true := (aF_i _ _).mpr ⟨q, Nat.zero_le _, by omega, by rw [decide_eq_true h3.2.1, ← h3.2.2, c]; rfl⟩
      rw [h] at this
      exact absurd this (by decide)
    · rfl
theorem pB_ls {a : zA} {Q k : Nat} {f : Nat → Nat → Bool} {v y : Int32} (hv : pB v (fun q w => decide (q < Q) && f w q)) (hy : pB y (leF a Q k)) : pB (v ||| y) (fun q w => decide (q < Q) && lsF a f k w q) := pB_c (pB_or hv hy) (fun q w _ _ => by
  unfold leF lsF
  cases decide (q < Q) <;> cases f w q <;> cases decide (w = k / 6) <;> cases decide (a 4 q = nI (k % 6)) <;> rfl)
theorem pB_ls2 {a : zA} {Q k : Nat} {f : Nat → Nat → Bool} {v y : Int32} (hv : pB v (fun q w => decide (q < Q) && f w q)) (hy : pB y (leF a Q k)) : pB (v ||| (y &&& (v ^^^ (-1)))) (fun q w => decide (q < Q) && lsF a f k w q) := pB_c (pB_or hv (pB_andn hy hv)) (fun q w _ _ => by
  unfold leF lsF
  cases decide (q < Q) <;> cases f w q <;> cases decide (w = k / 6) <;> cases decide (a 4 q = nI (k % 6)) <;> rfl)
/-- the first that -/
def fiN (g : Nat → Bool) : Nat → Nat → Option Nat
  | 0, _ => none
  | k + 1, i => cond (g i) (some i) (fiN g k (i + 1))
theorem fi_c {g h : Nat → Bool} : ∀ k i, (∀ j, i ≤ j → j < i + k → g j = h j) → fiN g k i = fiN h k i
  | 0, _, _ => rfl
  | k + 1, i, e => by
    unfold fiN
    rw [e i (Nat.le_refl _) (by omega), fi_c k (i + 1) (fun j h1 h2 => e j (by omega) (by omega))]
theorem fi_none {g : Nat → Bool} : ∀ k i, (∀ j, i ≤ j → j < i + k → g j = false) → fiN g k i = none
  | 0, _, _ => rfl
  | k + 1, i, e => by
    unfold fiN
    rw [e i (Nat.le_refl _) (by omega), fi_none k (i + 1) (fun j h1 h2 => e j (by omega) (by omega))]
    rfl
theorem fi_no {g : Nat → Bool} : ∀ k i, fiN g k i = none → ∀ j, i ≤ j → j < i + k → g j = false
  | 0, _, _, j, h1, h2 => absurd h2 (by omega)
  | k + 1, i, h, j, h1, h2 => by
    unfold fiN at h
    cases c : g i
    · rw [c] at h
      by_cases d : j = i
      · rw [d]; exact c
      · exact fi_no k (i + 1) h j (by omega) (by omega)
    · rw [c] at h
      exact absurd h (by simp)
theorem fi_some {g : Nat → Bool} : ∀ k i j, fiN g k i = some j → i ≤ j ∧ j < i + k ∧ g j = true
  | 0, _, _, h => absurd h (by simp [fiN])
  | k + 1, i, j, h => by
    unfold fiN at h
    cases c : g i
    · rw [c] at h
      obtain ⟨h1, h2, h3⟩ := fi_some k (i + 1) j h
      exact ⟨by omega, by omega, h3⟩
    · rw [c] at h
      have : i = j := Option.some.inj h
      subst this
      exact ⟨Nat.le_refl _, by omega, c⟩
noncomputable def c1B (a : zA) (P Q : Nat) (R : Nat → Nat → Bool) (f : Nat → Nat → Bool) (k : Nat) : Bool := adB a Q f k && dB P Q R (lsF a f k)
theorem x_addsUp {P Q k : Nat} {R : Nat → Nat → Bool} {A : zA} {x : Int32} {f : Nat → Nat → Bool} (hP : P ≤ 5) (hQ : Q ≤ 5) (hq : A 2 1 = nI Q) (hk : k < 6 * P) (hx : pB x (fun q w => decide (q < Q) && f w q)) (b : zB) (hG : GX Q (ALL P Q) R A b) : (∃ m b', fiN (c1B A P Q R (lsF A f k)) (6 * P - (k + 1)) (k + 1) = some m ∧ R_addsUp (nI k) (nI (6 * P)) x A b = okI 1 (zup A 35 1 (nI m)) b') ∨ (fiN (c1B A P Q R (lsF A f k)) (6 * P - (k + 1)) (k + 1) = none ∧ ∃ b', R_addsUp (nI k) (nI (6 * P)) x A b = okI 0 A b' ∧ GX Q (ALL P Q) R A b') := by
  obtain ⟨y, y1, y2⟩ := x_lesson b hQ hq (show k < 30 by omega)
  have hx2 := pB_ls hx y2
  have nx : ∀ m b, R_addsUp_55 (nI (6 * P)) (x ||| y) (nI m) A b = R_addsUp_14 (nI (6 * P)) (x ||| y) (nI (m + 1)) A b := fun m b => by rw [q_R_addsUp_55, nI_1]
  have loop : ∀ n m b, m + n = 6 * P → GX Q (ALL P Q) R A b → (∃ m' b', fiN (c1B A P Q R (lsF A f k)) n m = some m' ∧ R_addsUp_14 (nI (6 * P)) (x ||| y) (nI m) A b = okI 1 (zup A 35 1 (nI m')) b') ∨ (fiN (c1B A P Q R (lsF A f k)) n m = none ∧ ∃ b', R_addsUp_14 (nI (6 * P)) (x ||| y) (nI m) A b = okI 0 A b' ∧ GX Q (ALL P Q) R A b') := by
    intro n
    induction n with
    | zero =>
      intro m b e hG
      refine .inr ⟨rfl, b, ?_, hG⟩
      rw [q_R_addsUp_14, zcond_f (nI_nlt (by omega) (by omega))]
      exact okI_ret _ _ _
    | succ n ih =>
      intro m b e hG
      obtain ⟨u, u1, u2⟩ := x_lesson b hQ hq (show m < 30 by omega)
      have el : decide ((x ||| y) ||| u = (x ||| y)) = !adB A Q (lsF A f k) m := by
        rw [Bool.eq_iff_iff, decide_eq_true_iff, pB_orE hx2 u2, le_ad hQ (by omega), Bool.not_eq_true']
      rw [q_R_addsUp_14, zcond_t (nI_lt (show m < 6 * P by omega) (by omega)), u1, zcI_ok, el, nx]
      unfold fiN
      cases c : adB A Q (lsF A f k) m
      · rw [show c1B A P Q R (lsF A f k) m = false by unfold c1B; rw [c]; rfl]
        exact ih (m + 1) b (by omega) hG
      · obtain ⟨b1, v, v1, v2, v3⟩ := x_lastB hP hQ hG (pB_ls hx2 u2)
        rw [show c1B A P Q R (lsF A f k) m = dB P Q R (lsF A (lsF A f k) m) by unfold c1B; rw [c]; rfl, Bool.not_true, cond_false, v1, zcI_ok, v2, nx]
        cases d : dB P Q R (lsF A (lsF A f k) m)
        · exact ih (m + 1) b1 (by omega) v3
        · exact .inl ⟨m, b1, rfl, okI_ret _ _ _⟩
  rw [q_R_addsUp, y1, zcI_ok, nI_1]
  exact loop (6 * P - (k + 1)) (k + 1) b (by omega) hG
noncomputable def c2B (a : zA) (P Q : Nat) (R : Nat → Nat → Bool) (f : Nat → Nat → Bool) (k : Nat) : Bool := adB a Q f k && (fiN (c1B a P Q R (lsF a f k)) (6 * P - (k + 1)) (k + 1)).isSome
theorem x_fewest {P Q T W S : Nat} {R : Nat → Nat → Bool} {A c : zA} (hv : vw P Q T W S A c) (hP : P ≤ 5) (hQ : Q ≤ 5) (b : zB) (hG : GX Q (ALL P Q) R A b) : (dB P Q R (fAb P A) = true ∧ ∃ b', R_fewestLessons A b = okI 0 A b') ∨ (dB P Q R (fAb P A) = false ∧ ((∃ k b', fiN (c1B A P Q R (fAb P A)) (6 * P) 0 = some k ∧ R_fewestLessons A b = okI 1 (zup A 35 0 (nI k)) b') ∨ (fiN (c1B A P Q R (fAb P A)) (6 * P) 0 = none ∧ ((∃ k m b', fiN (c2B A P Q R (fAb P A)) (6 * P) 0 = some k ∧ fiN (c1B A P Q R (lsF A (fAb P A) k)) (6 * P - (k + 1)) (k + 1) = some m ∧ R_fewestLessons A b = okI 2 (zup (zup A 35 1 (nI m)) 35 0 (nI k)) b') ∨ (fiN (c2B A P Q R (fAb P A)) (6 * P) 0 = none ∧ ∃ b', R_fewestLessons A b = okI (-1) A b'))))) := by
  obtain ⟨-, ⟨⟨p1, -⟩, ⟨q1, -⟩, -⟩, -⟩ := id hv
  obtain ⟨x, x1, x2⟩ := x_ableF (b := b) hv hP hQ
  obtain ⟨f, ef⟩ : ∃ f, f = fAb P A := ⟨_, rfl⟩
  rw [← ef] at x2 ⊢
  obtain ⟨b1, v, v1, v2, v3⟩ := x_lastB hP hQ hG x2
  have n67 : ∀ k b, R_fewestLessons_67 x (nI (6 * P)) (nI k) A b = R_fewestLessons_28 x (nI (6 * P)) (nI (k + 1)) A b := fun k b => by rw [q_R_fewestLessons_67, nI_1]
  have n109 : ∀ k b, R_fewestLessons_109 x (nI (6 * P)) (nI k) A b = R_fewestLessons_75 x (nI (6 * P)) (nI (k + 1)) A b := fun k b => by rw [q_R_fewestLessons_109, nI_1]
  have two : ∀ n k b, k + n = 6 * P → GX Q (ALL P Q) R A b → (∃ k' m b', fiN (c2B A P Q R f) n k = some k' ∧ fiN (c1B A P Q R (lsF A f k')) (6 * P - (k' + 1)) (k' + 1) = some m ∧ R_fewestLessons_75 x (nI (6 * P)) (nI k) A b = okI 2 (zup (zup A 35 1 (nI m)) 35 0 (nI k')) b') ∨ (fiN (c2B A P Q R f) n k = none ∧ ∃ b', R_fewestLessons_75 x (nI (6 * P)) (nI k) A b = okI (-1) A b') := by
    intro n
    induction n with
    | zero =>
      intro k b e hG
      refine .inr ⟨rfl, b, ?_⟩
      rw [q_R_fewestLessons_75, zcond_f (nI_nlt (by omega) (by omega))]
      exact okI_ret _ _ _
    | succ n ih =>
      intro k b e hG
      obtain ⟨u, u1, u2⟩ := x_lesson b hQ q1 (show k < 30 by omega)
      have el : decide (u &&& (x ^^^ (-1)) = 0) = !adB A Q f k := by
        rw [Bool.eq_iff_iff, decide_eq_true_iff, pB_sub u2 x2, le_ad hQ (by omega), Bool.not_eq_true']
      rw [q_R_fewestLessons_75, zcond_t (nI_lt (show k < 6 * P by omega) (by omega)), u1, zcI_ok, el, n109]
      rw [show fiN (c2B A P Q R f) (n + 1) k = cond (c2B A P Q R f k) (some k) (fiN (c2B A P Q R f) n (k + 1)) from rfl]
      cases c : adB A Q f k
      · rw [show c2B A P Q R f k = false by unfold c2B; rw [c]; rfl]
        exact ih (k + 1) b (by omega) hG
      · rw [Bool.not_true, cond_false]
        rcases x_addsUp (k := k) hP hQ q1 (by omega) x2 b hG with ⟨m, b', w1, w2⟩ | ⟨w1, b', w2, w3⟩
        · rw [show c2B A P Q R f k = true by unfold c2B; rw [c, w1]; rfl, w2, zcI_ok, zcond_f (show ¬ (1 : Int32) = 0 by decide)]
          exact .inl ⟨k, m, b', rfl, w1, okI_ret _ _ _⟩
        · rw [show c2B A P Q R f k = false by unfold c2B; rw [c, w1]; rfl, w2, zcI_ok, zcond_t rfl, n109]
          exact ih (k + 1) b' (by omega) w3
  have one : ∀ n k b, k + n = 6 * P → GX Q (ALL P Q) R A b → (∃ k' b', fiN (c1B A P Q R f) n k = some k' ∧ R_fewestLessons_28 x (nI (6 * P)) (nI k) A b = okI 1 (zup A 35 0 (nI k')) b') ∨ (fiN (c1B A P Q R f) n k = none ∧ ∃ b', R_fewestLessons_28 x (nI (6 * P)) (nI k) A b = R_fewestLessons_75 x (nI (6 * P)) 0 A b' ∧ GX Q (ALL P Q) R A b') := by
    intro n
    induction n with
    | zero =>
      intro k b e hG
      refine .inr ⟨rfl, b, ?_, hG⟩
      rw [q_R_fewestLessons_28, zcond_f (nI_nlt (by omega) (by omega))]
    | succ n ih =>
      intro k b e hG
      obtain ⟨u, u1, u2⟩ := x_lesson b hQ q1 (show k < 30 by omega)
      have el : decide (u &&& (x ^^^ (-1)) = 0) = !adB A Q f k := by
        rw [Bool.eq_iff_iff, decide_eq_true_iff, pB_sub u2 x2, le_ad hQ (by omega), Bool.not_eq_true']
      rw [q_R_fewestLessons_28, zcond_t (nI_lt (show k < 6 * P by omega) (by omega)), u1, zcI_ok, el, n67]
      unfold fiN
      cases c : adB A Q f k
      · rw [show c1B A P Q R f k = false by unfold c1B; rw [c]; rfl]
        exact ih (k + 1) b (by omega) hG
      · obtain ⟨b1, v, w1, w2, w3⟩ := x_lastB hP hQ hG (pB_ls2 x2 u2)
        rw [show c1B A P Q R f k = dB P Q R (lsF A f k) by unfold c1B; rw [c]; rfl, Bool.not_true, cond_false, w1, zcI_ok, w2, n67]
        cases d : dB P Q R (lsF A f k)
        · exact ih (k + 1) b1 (by omega) w3
        · exact .inl ⟨k, b1, rfl, okI_ret _ _ _⟩
  have e0 : R_fewestLessons A b = cond (dB P Q R f) (okI 0 A b1) (R_fewestLessons_28 x (nI (6 * P)) 0 A b1) := by
    rw [q_R_fewestLessons, x1, zcI_ok, v1, zcI_ok, v2, p1, show nI P * 6 = nI (6 * P) from (pk_mul P 6).trans (by rw [Nat.mul_comm])]
    rfl
  cases c0 : dB P Q R f
  · rw [e0, c0, cond_false]
    refine .inr ⟨rfl, ?_⟩
    rcases one (6 * P) 0 b1 (Nat.zero_add _) v3 with ⟨k, b', w1, w2⟩ | ⟨w1, b', w2, w3⟩
    · exact .inl ⟨k, b', w1, w2⟩
    · refine .inr ⟨w1, ?_⟩
      rw [show R_fewestLessons_28 x (nI (6 * P)) 0 A b1 = _ from w2]
      exact two (6 * P) 0 b' (Nat.zero_add _) w3
  · rw [e0, c0]
    exact .inl ⟨rfl, b1, rfl⟩
