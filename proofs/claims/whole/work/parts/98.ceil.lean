/-! Whole numbers with a sign; the class's gains and ceilings. -/
def kI (z : Int) : Int32 := Int32.ofInt z
theorem kI_n (n : Nat) : kI (n : Int) = nI n := Int32.toBitVec_inj.mp (BitVec.ofInt_natCast 32 n)
theorem kI_add (x y : Int) : kI x + kI y = kI (x + y) := (Int32.ofInt_add x y).symm
theorem kI_sub (x y : Int) : kI x - kI y = kI (x - y) := (Int32.ofInt_sub x y).symm
theorem kI_toInt {z : Int} (h1 : -2000000000 ≤ z) (h2 : z ≤ 2000000000) : (kI z).toInt = z := Int32.toInt_ofInt_of_le (by omega) (by omega)
theorem kI_lt {x y : Int} (h1 : -2000000000 ≤ x) (h2 : x ≤ 2000000000) (h3 : -2000000000 ≤ y) (h4 : y ≤ 2000000000) : kI x < kI y ↔ x < y := by
  rw [Int32.lt_iff_toInt_lt, kI_toInt h1 h2, kI_toInt h3 h4]
theorem kI_eq {x y : Int} (h1 : -2000000000 ≤ x) (h2 : x ≤ 2000000000) (h3 : -2000000000 ≤ y) (h4 : y ≤ 2000000000) : kI x = kI y ↔ x = y := by
  rw [← Int32.toInt_inj, kI_toInt h1 h2, kI_toInt h3 h4]
theorem kI_max {x y : Int} (h1 : -2000000000 ≤ x) (h2 : x ≤ 2000000000) (h3 : -2000000000 ≤ y) (h4 : y ≤ 2000000000) : (if kI x < kI y then kI y else kI x) = kI (max x y) := by
  by_cases c : x < y
  · rw [if_pos ((kI_lt h1 h2 h3 h4).mpr c), Int.max_eq_right (by omega)]
  · rw [if_neg (fun z => c ((kI_lt h1 h2 h3 h4).mp z)), Int.max_eq_left (by omega)]
def encO (o : Option Int) : Int := o.elim (-1000000) id
theorem kI_bar : kI (-1000000) = -1000000 := by decide
theorem kI_0 : kI 0 = 0 := rfl
theorem topS_b {sc tg : Nat → Nat → Option Int} {bl : Nat → Int} (h : opB sc tg bl) (P p : Nat) : 0 ≤ topS sc bl P p ∧ topS sc bl P p ≤ 16161 := by
  have hb := h.2.2 p
  refine ⟨Int.le_trans hb.1 (fF_mono (fun w m => Int.le_max_left _ _) P 0 (bl p)), ?_⟩
  rcases fF_ex (f := fun w m => max m ((sc p w).elim (-1000000) id)) (X := fun x => x ≤ 16161) (fun w m => by
    show max m ((sc p w).elim (-1000000) id) = m ∨ max m ((sc p w).elim (-1000000) id) ≤ 16161
    have : (sc p w).elim (-1000000) id ≤ 16161 := by
      cases hs : sc p w with
      | none => show (-1000000 : Int) ≤ 16161; decide
      | some s => exact (h.1 p w s hs).2
    by_cases c : (sc p w).elim (-1000000) id ≤ m
    · exact .inl (Int.max_eq_left c)
    · exact .inr (by rw [Int.max_eq_right (by omega)]; exact this)) P 0 (bl p) with e | e
  · show fF _ 0 P (bl p) ≤ 16161
    rw [e]; omega
  · exact e
theorem ceiV_b {sc tg : Nat → Nat → Option Int} {bl : Nat → Int} (h : opB sc tg bl) {P : Nat} : ∀ k p c, 0 ≤ ceiV sc bl P k p c ∧ ceiV sc bl P k p c ≤ 16161 * k
  | 0, _, _ => ⟨Int.le_refl _, Int.le_refl _⟩
  | k + 1, p, c => by
    have ih := ceiV_b h (P := P) k
    have hb := h.2.2 p
    have ht := topS_b h P p
    have i1 := ih (p + 1) c
    have i2 := ih (p + 1) (c - 1)
    unfold ceiV
    refine ⟨Int.le_trans (by omega) (Int.le_max_left _ _), Int.max_le.mpr ⟨by omega, ?_⟩⟩
    cases decide (c = 0)
    · show topS sc bl P p + ceiV sc bl P k (p + 1) (c - 1) ≤ _
      omega
    · show bl p + ceiV sc bl P k (p + 1) c ≤ _
      omega
/-- what lies in the class's tables -/
def SL (sc tg : Nat → Nat → Option Int) (bl : Nat → Int) (P Q : Nat) (a : zA) : Prop := a 2 0 = nI P ∧ a 2 1 = nI Q ∧ (∀ p w, p < Q → w < P → a 29 (10 * p + w) = kI (encO (sc p w))) ∧ (∀ l w, l < P → w < P → a 30 (10 * l + w) = kI (encO (tg l w))) ∧ ∀ p, p < Q → a 31 p = kI (bl p)
theorem SL_f {sc tg : Nat → Nat → Option Int} {bl : Nat → Int} {P Q : Nat} {a a' : zA} (h : SL sc tg bl P Q a) (e : ∀ q, q = 2 ∨ (29 ≤ q ∧ q ≤ 31) → a' q = a q) : SL sc tg bl P Q a' := by
  unfold SL
  rw [e 2 (by omega), e 29 (by omega), e 30 (by omega), e 31 (by omega)]
  exact h
theorem x_gain {sc tg : Nat → Nat → Option Int} {bl : Nat → Int} {P Q p w l : Nat} {a : zA} {b : zB} (hB : opB sc tg bl) (h : SL sc tg bl P Q a) (hP : P ≤ 10) (hQ : Q ≤ 10) (hp : p < Q) (hw : w < P) (hl : l < P ∨ l = 10) : C_gain (nI p) (nI w) (nI l) a b = okI (kI (encO (gnO sc tg p l w))) a b := by
  obtain ⟨-, -, h1, h2, -⟩ := h
  have i1 : nI p * 10 + nI w = nI (10 * p + w) := (s_mul p 10 w).trans (by rw [Nat.mul_comm])
  have i2 : nI l * 10 + nI w = nI (10 * l + w) := (s_mul l 10 w).trans (by rw [Nat.mul_comm])
  have e1 := h1 p w hp hw
  have k30 : ∀ v, C_gain_30 v a b = okI v a b := fun v => by rw [q_C_gain_30]; exact okI_ret _ _ _
  have k63 : ∀ v, C_gain_63 v a b = okI v a b := fun v => by rw [q_C_gain_63]; exact okI_ret _ _ _
  rw [q_C_gain, i1, i2, zin_nI (n := 100) (by omega) (by decide), cond_true, show (nI (10 * p + w)).toNatClampNeg = 10 * p + w from nI_clamp (by omega), e1, k30, k63]
  unfold gnO encO
  cases hs : sc p w with
  | none =>
    rw [zcond_t (show kI ((none : Option Int).elim (-1000000) id) = -1000000 from kI_bar)]
    rfl
  | some s =>
    have hb := hB.1 p w s hs
    rw [zcond_f (show ¬ kI ((some s).elim (-1000000) id) = -1000000 from fun z => by
      have := (kI_eq (x := s) (y := -1000000) (by omega) (by omega) (by decide) (by decide)).mp (z.trans kI_bar.symm)
      omega), zcond_f (nI_pos (by omega))]
    rcases hl with hl | hl
    · rw [zcond_t (show nI l < 10 from nI_lt (b := 10) (by omega) (by decide)), zin_nI (n := 100) (by omega) (by decide), cond_true, show (nI (10 * l + w)).toNatClampNeg = 10 * l + w from nI_clamp (by omega), h2 l w hl hw, k63]
      show _ = okI (kI (Option.elim (cond (decide (l < 10)) ((tg l w).elim none (fun t => some (s + t))) (some s)) (-1000000) id)) a b
      rw [decide_eq_true (show l < 10 by omega)]
      unfold encO
      cases ht : tg l w with
      | none =>
        rw [zcond_t (show kI ((none : Option Int).elim (-1000000) id) = -1000000 from kI_bar), ← kI_bar]
        rfl
      | some t =>
        have hc := hB.2.1 l w t ht
        rw [zcond_f (show ¬ kI ((some t).elim (-1000000) id) = -1000000 from fun z => by
          have := (kI_eq (x := t) (y := -1000000) (by omega) (by omega) (by decide) (by decide)).mp (z.trans kI_bar.symm)
          omega)]
        exact congrArg (fun v => okI v a b) (kI_add s t)
    · subst hl
      rw [zcond_f (show ¬ nI 10 < 10 from by decide)]
      rfl
theorem x_raise {sc tg : Nat → Nat → Option Int} {bl : Nat → Int} {P Q : Nat} {a : zA} {b : zB} (hB : opB sc tg bl) (h : SL sc tg bl P Q a) (hP : P ≤ 10) (hQ : Q ≤ 10) : ∃ a', C_raiseCeiling a b = okV a' b ∧ (∀ q, q ≠ 32 → a' q = a q) ∧ ∀ r, r ≤ Q → ∀ c, c ≤ 10 → a' 32 (11 * r + c) = kI (ceiV sc bl P (Q - r) r c) := by
  have z0 : C_raiseCeiling a b = C_raiseCeiling_42 (nI Q - 1) (zfo a 32 (11 * Q) 11 (fun _ => 0)) b := by
    have hs : ∀ i, i < 11 → C_raiseCeiling_2 (nI i) (zfo a 32 (11 * Q) i (fun _ => 0)) b = C_raiseCeiling_2 (nI (i + 1)) (zfo a 32 (11 * Q) (i + 1) (fun _ => 0)) b := by
      intro i hi
      have i1 : nI Q * 11 + nI i = nI (11 * Q + i) := (s_mul Q 11 i).trans (by rw [Nat.mul_comm])
      rw [q_C_raiseCeiling_2, show zfo a 32 (11 * Q) i (fun _ => 0) 2 1 = nI Q from (congrFun (zfo_q (by decide)) 1).trans h.2.1, i1, zcond_f (show ¬ (10 : Int32) < nI i from nI_nlt (a := 10) (by omega) (by decide)), zin_nI (n := 121) (by omega) (by decide), cond_true, show (nI (11 * Q + i)).toNatClampNeg = 11 * Q + i from nI_clamp (by omega), nI_1, ← zfo_s]
    have e := lpC (F := fun i => C_raiseCeiling_2 (nI i) (zfo a 32 (11 * Q) i (fun _ => 0)) b) hs 11 0 rfl
    rw [zfo_0] at e
    rw [q_C_raiseCeiling]
    refine Eq.trans e ?_
    rw [q_C_raiseCeiling_2, zcond_t (show (10 : Int32) < nI 11 by decide), show zfo a 32 (11 * Q) 11 (fun _ => 0) 2 1 = nI Q from (congrFun (zfo_q (by decide)) 1).trans h.2.1]
  have go : ∀ k p, p + k = Q → ∃ a', C_raiseCeiling a b = C_raiseCeiling_42 (nI p - 1) a' b ∧ (∀ q, q ≠ 32 → a' q = a q) ∧ ∀ r, p ≤ r → r ≤ Q → ∀ c, c ≤ 10 → a' 32 (11 * r + c) = kI (ceiV sc bl P (Q - r) r c) := by
    intro k
    induction k with
    | zero =>
      intro p hp
      have : p = Q := by omega
      subst this
      refine ⟨_, z0, fun q hq => zfo_q hq, fun r h1 h2 c hc => ?_⟩
      have : r = p := by omega
      subst this
      rw [zfo_j (by omega), Nat.sub_self]
      rfl
    | succ k ih =>
      intro p hp
      obtain ⟨A, e1, e2, e3⟩ := ih (p + 1) (by omega)
      have hA : SL sc tg bl P Q A := SL_f h (fun q hq => e2 q (by omega))
      obtain ⟨s1, s2, s3, s4, s5⟩ := id hA
      have hb := hB.2.2 p
      have ht := topS_b hB P p
      have z42 : C_raiseCeiling_42 (nI (p + 1) - 1) A b = C_raiseCeiling_90 (nI p) (kI (topS sc bl P p)) 0 A b := by
        have hs : ∀ (x : Int) w, 0 ≤ w → w < P → C_raiseCeiling_55 (nI p) (kI x) (nI w) A b = C_raiseCeiling_55 (nI p) (if kI x < kI (encO (sc p w)) then kI (encO (sc p w)) else kI x) (nI (w + 1)) A b := by
          intro x w _ hw
          have i1 : nI p * 10 + nI w = nI (10 * p + w) := (s_mul p 10 w).trans (by rw [Nat.mul_comm])
          rw [q_C_raiseCeiling_55, s1, zcond_t (nI_lt hw (by omega)), i1, zin_nI (n := 100) (by omega) (by decide), cond_true, show (nI (10 * p + w)).toNatClampNeg = 10 * p + w from nI_clamp (by omega), s3 p w (by omega) hw, nI_1]
        have main : ∀ n w (x : Int), w + n = P → -1000000 ≤ x → x ≤ 16161 → C_raiseCeiling_55 (nI p) (kI x) (nI w) A b = C_raiseCeiling_90 (nI p) (kI (fF (fun w m => max m (encO (sc p w))) w n x)) 0 A b := by
          intro n
          induction n with
          | zero =>
            intro w x hw _ _
            have : w = P := by omega
            subst this
            rw [q_C_raiseCeiling_55, s1, zcond_f (nI_nlt (Nat.le_refl _) (by omega))]
            rfl
          | succ n ih2 =>
            intro w x hw h1 h2
            have hb2 : -1000000 ≤ encO (sc p w) ∧ encO (sc p w) ≤ 16161 := by
              unfold encO
              cases hs : sc p w with
              | none => exact ⟨Int.le_refl _, by show (-1000000 : Int) ≤ 16161; decide⟩
              | some s => have := hB.1 p w s hs; show -1000000 ≤ s ∧ s ≤ 16161; omega
            rw [hs x w (Nat.zero_le _) (by omega), kI_max (by omega) (by omega) (by omega) (by omega), ih2 (w + 1) _ (by omega) (Int.le_trans h1 (Int.le_max_left _ _)) (Int.max_le.mpr ⟨h2, hb2.2⟩)]
            rfl
        rw [q_C_raiseCeiling_42, nI_pred, zcond_f (nI_pos (by omega)), zin_nI (n := 10) (by omega) (by decide), cond_true, show (nI p).toNatClampNeg = p from nI_clamp (by omega), s5 p (by omega)]
        exact main P 0 (bl p) (Nat.zero_add _) (by omega) (by omega)
      obtain ⟨g, hg⟩ : ∃ g : Nat → Int32, g = fun c => kI (ceiV sc bl P (Q - p) p c) := ⟨_, rfl⟩
      have ek : Q - p = (Q - (p + 1)) + 1 := by omega
      have hs : ∀ c, c < 11 → C_raiseCeiling_90 (nI p) (kI (topS sc bl P p)) (nI c) (zfo A 32 (11 * p) c g) b = C_raiseCeiling_90 (nI p) (kI (topS sc bl P p)) (nI (c + 1)) (zfo A 32 (11 * p) (c + 1) g) b := by
        intro c hc
        have i1 : (nI p + 1) * 11 + nI c = nI (11 * (p + 1) + c) := by rw [nI_1]; exact (s_mul (p + 1) 11 c).trans (by rw [Nat.mul_comm])
        have i2 : nI p * 11 + nI c = nI (11 * p + c) := (s_mul p 11 c).trans (by rw [Nat.mul_comm])
        have r1 : zfo A 32 (11 * p) c g 32 (11 * (p + 1) + c) = kI (ceiV sc bl P (Q - (p + 1)) (p + 1) c) := by rw [zfo_o (by omega)]; exact e3 (p + 1) (Nat.le_refl _) (by omega) c (by omega)
        have r0 : zfo A 32 (11 * p) c g 31 p = kI (bl p) := (congrFun (zfo_q (by decide)) p).trans (s5 p (by omega))
        have b1 := ceiV_b hB (P := P) (Q - (p + 1)) (p + 1) c
        have b2 := ceiV_b hB (P := P) (Q - (p + 1)) (p + 1) (c - 1)
        have hk : ((Q - (p + 1) : Nat) : Int) ≤ 10 := by omega
        have k144 : ∀ y : Int, y = cond (decide (c = 0)) (bl p + ceiV sc bl P (Q - (p + 1)) (p + 1) c) (topS sc bl P p + ceiV sc bl P (Q - (p + 1)) (p + 1) (c - 1)) → C_raiseCeiling_144 (nI p) (kI (topS sc bl P p)) (nI c) (kI (bl p + ceiV sc bl P (Q - (p + 1)) (p + 1) c)) (kI y) (zfo A 32 (11 * p) c g) b = C_raiseCeiling_90 (nI p) (kI (topS sc bl P p)) (nI (c + 1)) (zfo A 32 (11 * p) (c + 1) g) b := by
          intro y hy
          have hyb : 0 ≤ y ∧ y ≤ 200000 := by
            rw [hy]
            cases decide (c = 0)
            · show 0 ≤ topS sc bl P p + _ ∧ topS sc bl P p + _ ≤ 200000
              omega
            · show 0 ≤ bl p + _ ∧ bl p + _ ≤ 200000
              omega
          rw [q_C_raiseCeiling_144, i2, zin_nI (n := 121) (by omega) (by decide), cond_true, show (nI (11 * p + c)).toNatClampNeg = 11 * p + c from nI_clamp (by omega), kI_max (by omega) (by omega) (by omega) (by omega), nI_1, ← zfo_s]
          have : g c = kI (max (bl p + ceiV sc bl P (Q - (p + 1)) (p + 1) c) y) := by
            rw [hg, hy]
            show kI (ceiV sc bl P (Q - p) p c) = _
            rw [ek]
            rfl
          rw [this]
        rw [q_C_raiseCeiling_90, zcond_f (show ¬ (10 : Int32) < nI c from nI_nlt (a := 10) (by omega) (by decide)), i1, zin_nI (n := 10) (by omega) (by decide), cond_true, zin_nI (n := 121) (by omega) (by decide), cond_true, show (nI p).toNatClampNeg = p from nI_clamp (by omega), show (nI (11 * (p + 1) + c)).toNatClampNeg = 11 * (p + 1) + c from nI_clamp (by omega), r0, r1, kI_add]
        by_cases c0 : c = 0
        · rw [zcond_t (show nI c = 0 by rw [c0]; rfl)]
          exact k144 _ (by rw [decide_eq_true c0]; rfl)
        · have r2 : zfo A 32 (11 * p) c g 32 (11 * (p + 1) + (c - 1)) = kI (ceiV sc bl P (Q - (p + 1)) (p + 1) (c - 1)) := by rw [zfo_o (by omega)]; exact e3 (p + 1) (Nat.le_refl _) (by omega) (c - 1) (by omega)
          have i3 : nI (11 * (p + 1) + c) - 1 = nI (11 * (p + 1) + (c - 1)) := (pk_sub (b := 1) (by omega)).trans (by rw [show 11 * (p + 1) + c - 1 = 11 * (p + 1) + (c - 1) by omega])
          rw [zcond_f (show ¬ nI c = 0 from fun z => c0 ((nI_eq (by omega) (by decide)).mp (show nI c = nI 0 from z))), i3, zin_nI (n := 121) (by omega) (by decide), cond_true, show (nI (11 * (p + 1) + (c - 1))).toNatClampNeg = 11 * (p + 1) + (c - 1) from nI_clamp (by omega), r2, kI_add]
          exact k144 _ (by rw [decide_eq_false c0]; rfl)
      have e := lpC (F := fun c => C_raiseCeiling_90 (nI p) (kI (topS sc bl P p)) (nI c) (zfo A 32 (11 * p) c g) b) hs 11 0 rfl
      rw [zfo_0] at e
      refine ⟨zfo A 32 (11 * p) 11 g, ?_, fun q hq => (zfo_q hq).trans (e2 q hq), fun r h1 h2 c hc => ?_⟩
      · rw [e1, z42]
        refine Eq.trans e ?_
        rw [q_C_raiseCeiling_90, zcond_t (show (10 : Int32) < nI 11 by decide), Int32.sub_eq_add_neg]
      · by_cases c0 : r = p
        · subst c0
          rw [zfo_j (by omega), hg]
        · rw [zfo_o (by omega)]
          exact e3 r (by omega) h2 c hc
  obtain ⟨a', e1, e2, e3⟩ := go Q 0 (Nat.zero_add _)
  refine ⟨a', ?_, e2, fun r hr c hc => e3 r (Nat.zero_le _) hr c hc⟩
  rw [e1, q_C_raiseCeiling_42, zcond_t (show nI 0 - 1 < 0 by decide)]
  exact okV_ret _ _
