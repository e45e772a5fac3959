/-! The reference's best filling. -/
/-- what the choices bring, one after the other -/
def sumO (sc tg : Nat → Nat → Option Int) (bl : Nat → Int) (P : Nat) (wM : Nat → Option Nat → Int) : Nat → Nat → Nat → Nat → Int
  | 0, _, _, _ => 0
  | k + 1, p, u, l => wM p (chO sc tg bl P k p u l) + sumO sc tg bl P wM k (p + 1) (usO u (chO sc tg bl P k p u l)) (laO (chO sc tg bl P k p u l))
theorem m_pick {sc tg : Nat → Nat → Option Int} {bl : Nat → Int} {P Q k p u l : Nat} {hM wM : Nat → Option Nat → Int} {f : Nat → Int → Int} {D : Nat → Int → Prop} {a : zA} {b : zB} {v4 : Int32} (hS : simO sc tg bl P Q hM f D) (hG : MGo sc tg P Q hM wM a) (hP : P ≤ 10) (hQ : Q ≤ 10) (hp : p + (k + 1) = Q) (hu : u < 2 ^ P) (hl : l = 10 ∨ (l < P ∧ Nat.testBit u l = true)) (hT : TOk sc tg bl P Q f p a) {x3 : Int32} (hx3 : x3 + 1 = nI (aiM l)) (hx4 : (x3 < 0 ↔ l = 10) ∧ (l ≠ 10 → x3 = nI l)) : M_bests_91 (nI u) x3 v4 (nI p) a b = M_bests_232 (nI u) v4 (nI p) (encW (chO sc tg bl P k p u l)) a b := by
  have p2 : 2 ^ P ≤ 1024 := Nat.pow_le_pow_right (by decide) hP
  have hu2 : u < 1024 := by omega
  have hl2 : l = 10 ∨ l < P := by omega
  have hkq : Q - (p + 1) = k := by omega
  have hkq1 : Q - p = k + 1 := by omega
  have hD := simO_D hS
  have ai : aiM l ≤ 10 := by unfold aiM; split <;> omega
  have hx1 : (-1 : Int32) + 1 = nI 0 := by decide
  obtain ⟨gn, -⟩ := hG.2.2 a (fun _ _ _ => rfl) p none b (by omega) (.inl rfl)
  have T0 := hT p (Nat.le_refl _) (by omega) u hu l hl
  rw [hkq1] at T0
  have T1 := hT (p + 1) (by omega) (by omega) u hu 10 (.inl rfl)
  rw [hkq, show aiM 10 = 0 from rfl] at T1
  have sb := hS.2.1 k p _ hp (hD k (p + 1) u 10 (by omega))
  have d0 := hD (k + 1) p u l hp
  have b0 := hS.2.2.2.2 (k + 1) _ d0
  have b1 := hS.2.2.2.2 (k + 1) _ sb.1
  have i0 := ixM_lt (p := p) (u := u) (i := aiM l) (by omega) hu2 ai
  have i1 := ixM_lt (p := p + 1) (u := u) (i := 0) (by omega) hu2 (by omega)
  have e91 : M_bests_91 (nI u) x3 v4 (nI p) a b = cond (decide (bl p + opV sc tg bl P k (p + 1) u 10 = opV sc tg bl P (k + 1) p u l)) (M_bests_232 (nI u) v4 (nI p) (-1) a b) (M_bests_149 (nI u) x3 v4 (nI p) (kI (f (k + 1) (opV sc tg bl P (k + 1) p u l))) 0 a b) := by
    rw [q_M_bests_91, hG.1.2, zcond_t (nI_lt (by omega) (by omega)), m_index (by omega) hu2 ai hx3, zcI_ok, zin_nI (n := 123904) i0 (by decide), cond_true, show M_gain (nI p) (-1) a b = okI (kI (hM p none)) a b from gn, zcI_ok, nI_1, m_index (by omega) hu2 (by omega) hx1, zcI_ok, zin_nI (n := 123904) i1 (by decide), cond_true, show (nI (ixM p u (aiM l))).toNatClampNeg = ixM p u (aiM l) from nI_clamp (by omega), show (nI (ixM (p + 1) u 0)).toNatClampNeg = ixM (p + 1) u 0 from nI_clamp (by omega), T0, T1, kI_add, ← sb.2]
    by_cases c : bl p + opV sc tg bl P k (p + 1) u 10 = opV sc tg bl P (k + 1) p u l
    · rw [decide_eq_true c, zcond_t (by rw [c])]
      rfl
    · rw [decide_eq_false c, zcond_f (fun z => c ((simO_eq hS sb.1 d0).mp ((kI_eq (by omega) (by omega) (by omega) (by omega)).mp z)))]
      rfl
  rw [e91]
  unfold chO
  by_cases c : bl p + opV sc tg bl P k (p + 1) u 10 = opV sc tg bl P (k + 1) p u l
  · rw [decide_eq_true c]
    rfl
  · rw [decide_eq_false c, cond_false, cond_false]
    -- one by one
    have step : ∀ w, w < P → M_bests_149 (nI u) x3 v4 (nI p) (kI (f (k + 1) (opV sc tg bl P (k + 1) p u l))) (nI w) a b = cond (okW sc tg bl P k p u l w) (M_bests_232 (nI u) v4 (nI p) (nI w) a b) (M_bests_149 (nI u) x3 v4 (nI p) (kI (f (k + 1) (opV sc tg bl P (k + 1) p u l))) (nI (w + 1)) a b) := by
      intro w hw
      have nx : M_bests_226 (nI u) x3 v4 (nI p) (kI (f (k + 1) (opV sc tg bl P (k + 1) p u l))) (nI w) a b = M_bests_149 (nI u) x3 v4 (nI p) (kI (f (k + 1) (opV sc tg bl P (k + 1) p u l))) (nI (w + 1)) a b := by rw [q_M_bests_226, nI_1]
      have e149 : M_bests_149 (nI u) x3 v4 (nI p) (kI (f (k + 1) (opV sc tg bl P (k + 1) p u l))) (nI w) a b = cond (Nat.testBit u w) (M_bests_149 (nI u) x3 v4 (nI p) (kI (f (k + 1) (opV sc tg bl P (k + 1) p u l))) (nI (w + 1)) a b) (cond (gnO sc tg p l w).isSome (M_bests_191 (nI u) x3 v4 (nI p) (kI (f (k + 1) (opV sc tg bl P (k + 1) p u l))) (nI w) a b) (M_bests_149 (nI u) x3 v4 (nI p) (kI (f (k + 1) (opV sc tg bl P (k + 1) p u l))) (nI (w + 1)) a b)) := by
        rw [q_M_bests_149, zin_nI (n := 10) (by omega) (by decide), cond_true, show (nI p).toNatClampNeg = p from nI_clamp (by omega), m_has _ (by omega), zcI_ok, zc_b0, m_has _ (by omega), zcI_ok, zc_b0, tbB (by omega), nx]
        cases tb : Nat.testBit u w
        case true => cases hB (a 218 p) w <;> rfl
        have may := hG.2.1 p l w (by omega) hw hl2 (fun z => by
          rcases hl with h | ⟨_, h⟩
          · omega
          · rw [z, tb] at h; exact absurd h (by decide))
        rw [← may]
        by_cases h2 : l = 10
        · rw [zcond_t (hx4.1.mpr h2), decide_eq_true h2, Bool.true_or, Bool.and_true]
          cases hB (a 218 p) w <;> rfl
        · have e1 := hx4.2 h2
          have e2 : zcI (M_has (a 219 x3.toNatClampNeg) (nI w) a b) (fun y3 a3 b3 => cond (decide (y3 = 0)) (M_bests_226 (nI u) x3 v4 (nI p) (kI (f (k + 1) (opV sc tg bl P (k + 1) p u l))) (nI w) a3 b3) (M_bests_191 (nI u) x3 v4 (nI p) (kI (f (k + 1) (opV sc tg bl P (k + 1) p u l))) (nI w) a3 b3)) = cond (hB (a 219 l) w) (M_bests_191 (nI u) x3 v4 (nI p) (kI (f (k + 1) (opV sc tg bl P (k + 1) p u l))) (nI w) a b) (M_bests_149 (nI u) x3 v4 (nI p) (kI (f (k + 1) (opV sc tg bl P (k + 1) p u l))) (nI (w + 1)) a b) := by
            rw [show x3.toNatClampNeg = l from by rw [e1]; exact nI_clamp (by omega), m_has _ (by omega), zcI_ok, zc_b0, nx]
          rw [zcond_f (fun z => h2 (hx4.1.mp z)), show zin x3 10 = true from by rw [e1]; exact zin_nI (by omega) (by decide), cond_true, e2, decide_eq_false h2, Bool.false_or]
          cases hB (a 218 p) w <;> cases hB (a 219 l) w <;> rfl
      rw [e149]
      unfold okW
      cases tb : Nat.testBit u w
      · cases hg : gnO sc tg p l w with
        | none => rfl
        | some g =>
          have hu3 := or_lt hu hw
          have so := hS.2.2.1 k p w l g _ hp hw hg (hD k (p + 1) (u ||| 2 ^ w) w (by omega))
          obtain ⟨gn2, _⟩ := hG.2.2 a (fun _ _ _ => rfl) p (some w) b (by omega) (.inr ⟨w, hw, rfl⟩)
          have T2 := hT (p + 1) (by omega) (by omega) (u ||| 2 ^ w) hu3 w (.inr ⟨hw, by rw [tb_or, decide_eq_true rfl, Bool.or_true]⟩)
          rw [hkq, show aiM w = w + 1 from if_neg (by omega)] at T2
          have ilt := ixM_lt (p := p + 1) (u := u ||| 2 ^ w) (i := w + 1) (by omega) (by omega) (by omega)
          have b2 := hS.2.2.2.2 (k + 1) _ so.1
          show M_bests_191 _ _ _ _ _ (nI w) a b = cond (!false && decide (g + opV sc tg bl P k (p + 1) (u ||| 2 ^ w) w = opV sc tg bl P (k + 1) p u l)) _ _
          rw [q_M_bests_191, show M_gain (nI p) (nI w) a b = okI (kI (hM p (some w))) a b from gn2, zcI_ok, nI_1, orB hu2 (by omega), m_index (i := w + 1) (by omega) (by omega) (by omega) (nI_1 w), zcI_ok, zin_nI (n := 123904) ilt (by decide), cond_true, show (nI (ixM (p + 1) (u ||| 2 ^ w) (w + 1))).toNatClampNeg = ixM (p + 1) (u ||| 2 ^ w) (w + 1) from nI_clamp (by omega), T2, kI_add, ← so.2, nx]
          by_cases c3 : g + opV sc tg bl P k (p + 1) (u ||| 2 ^ w) w = opV sc tg bl P (k + 1) p u l
          · rw [decide_eq_true c3, zcond_t (by rw [c3])]
            rfl
          · rw [decide_eq_false c3, zcond_f (fun z => c3 ((simO_eq hS so.1 d0).mp ((kI_eq (by omega) (by omega) (by omega) (by omega)).mp z)))]
            rfl
      · rfl
    have ex : ∃ w, oF (fun w => cond (okW sc tg bl P k p u l w) (some w) none) 0 P = some w := by
      cases h : oF (fun w => cond (okW sc tg bl P k p u l w) (some w) none) 0 P with
      | some w => exact ⟨w, rfl⟩
      | none =>
        exfalso
        rcases opV_x (sc := sc) (tg := tg) (bl := bl) (P := P) (k := k) (p := p) (u := u) (l := l) with e | ⟨w, g, h1, h2, h3, e⟩
        · exact c e.symm
        · have := oF_none P 0 h w (Nat.zero_le _) (by omega)
          have hk : okW sc tg bl P k p u l w = true := by
            unfold okW
            rw [h2, h3, e]
            show (!false && decide (_ = _)) = true
            rw [decide_eq_true rfl]
            rfl
          rw [hk] at this
          exact absurd this (by simp)
    have run : ∀ n i, i + n = P → ∀ w, oF (fun w => cond (okW sc tg bl P k p u l w) (some w) none) i n = some w → M_bests_149 (nI u) x3 v4 (nI p) (kI (f (k + 1) (opV sc tg bl P (k + 1) p u l))) (nI i) a b = M_bests_232 (nI u) v4 (nI p) (nI w) a b := by
      intro n
      induction n with
      | zero => intro i _ w h; exact absurd h (by simp [oF])
      | succ n ih =>
        intro i hi w h
        have h : (cond (okW sc tg bl P k p u l i) (some i) none).elim (oF (fun w => cond (okW sc tg bl P k p u l w) (some w) none) (i + 1) n) some = some w := h
        rw [step i (by omega)]
        cases hk : okW sc tg bl P k p u l i
        · rw [hk] at h
          exact ih (i + 1) (by omega) w h
        · rw [hk] at h
          rw [cond_true, Option.some.inj h]
    obtain ⟨w, hw⟩ := ex
    rw [hw]
    exact run P 0 (Nat.zero_add _) w hw
theorem m_bestsG {sc tg : Nat → Nat → Option Int} {bl : Nat → Int} {P Q : Nat} {hM wM : Nat → Option Nat → Int} {f : Nat → Int → Int} {D : Nat → Int → Prop} {a : zA} {b : zB} (hS : simO sc tg bl P Q hM f D) (hG : MGo sc tg P Q hM wM a) (hP : P ≤ 10) (hQ : Q ≤ 10) : ∃ a', M_bests_11 0 a b = okI (kI (sumO sc tg bl P wM Q 0 0 10)) a' b ∧ (∀ q, q ≠ 217 → q ≠ 220 → a' q = a q) ∧ ∀ q, q < Q → a' 220 q = encW (filO sc tg bl P Q 0 0 10 q) := by
  have p2 : 2 ^ P ≤ 1024 := Nat.pow_le_pow_right (by decide) hP
  have tok : ∀ (A B : zA), (∀ q, q ≠ 220 → B q = A q) → ∀ p, TOk sc tg bl P Q f p A → TOk sc tg bl P Q f p B := fun A B h p hA => by
    unfold TOk
    rw [h 217 (by decide)]
    exact hA
  -- the base
  have h11 : ∃ A, M_bests_11 0 a b = M_bests_66 (nI Q - 1) A b ∧ (∀ q, q ≠ 217 → A q = a q) ∧ TOk sc tg bl P Q f Q A := by
    have inner : ∀ u, u < 2 ^ P → ∀ A : zA, (∀ q, q ≠ 217 → A q = a q) → ∃ A', M_bests_23 (nI u) (-1) A b = M_bests_11 (nI (u + 1)) A' b ∧ (∀ q, q ≠ 217 → A' q = a q) ∧ (∀ j, ¬ (∃ i, i ≤ P ∧ j = ixM Q u i) → A' 217 j = A 217 j) ∧ ∀ i, i ≤ P → A' 217 (ixM Q u i) = 0 := by
      intro u hu
      have loop : ∀ n i, i + n = P + 1 → ∀ A : zA, (∀ q, q ≠ 217 → A q = a q) → ∃ A', M_bests_23 (nI u) (nI i - 1) A b = M_bests_11 (nI (u + 1)) A' b ∧ (∀ q, q ≠ 217 → A' q = a q) ∧ (∀ j, ¬ (∃ i', i ≤ i' ∧ i' ≤ P ∧ j = ixM Q u i') → A' 217 j = A 217 j) ∧ ∀ i', i ≤ i' → i' ≤ P → A' 217 (ixM Q u i') = 0 := by
        intro n
        induction n with
        | zero =>
          intro i hi A h1
          have : i = P + 1 := by omega
          subst this
          refine ⟨A, ?_, h1, fun _ _ => rfl, fun i' g1 g2 => absurd g2 (by omega)⟩
          rw [q_M_bests_23, h1 194 (by decide), hG.1.1, show nI (P + 1) - 1 = nI P from nI_pred P, zcond_f (nI_nlt (Nat.le_refl _) (by omega)), nI_1]
        | succ n ih =>
          intro i hi A h1
          have lt : nI i - 1 < nI P := by
            by_cases c : i = 0
            · subst c
              rw [Int32.lt_iff_toInt_lt, show (nI 0 - 1).toInt = -1 from by decide, nI_toInt (by omega)]
              omega
            · rw [show nI i - 1 = nI (i - 1) from pk_sub (b := 1) (by omega)]
              exact nI_lt (by omega) (by omega)
          have hx : nI i - 1 + 1 = nI i := Int32.sub_add_cancel _ _
          have ilt := ixM_lt (p := Q) (u := u) (i := i) hQ (by omega) (by omega)
          obtain ⟨A', y1, y2, y3, y4⟩ := ih (i + 1) (by omega) (zup A 217 (ixM Q u i) 0) (fun q hq => (zup_row hq).trans (h1 q hq))
          refine ⟨A', ?_, y2, fun j hj => ?_, fun i' g1 g2 => ?_⟩
          · rw [q_M_bests_23, h1 194 (by decide), hG.1.1, zcond_t lt, hG.1.2, m_index hQ (by omega) (by omega) hx, zcI_ok, zin_nI (n := 123904) ilt (by decide), cond_true, show (nI (ixM Q u i)).toNatClampNeg = ixM Q u i from nI_clamp (by omega), hx, show nI i = nI (i + 1) - 1 from (nI_pred i).symm]
            exact y1
          · rw [y3 j (fun ⟨i', z1, z2, z3⟩ => hj ⟨i', by omega, z2, z3⟩)]
            exact zup_nj (fun z => hj ⟨i, Nat.le_refl _, by omega, z⟩)
          · by_cases c : i' = i
            · subst c
              rw [y3 _ (fun ⟨i2, z1, z2, z3⟩ => by unfold ixM at z3; omega), zup_eq]
            · exact y4 i' (by omega) g2
      intro A h1
      obtain ⟨A', y1, y2, y3, y4⟩ := loop (P + 1) 0 (Nat.zero_add _) A h1
      exact ⟨A', y1, y2, fun j hj => y3 j (fun ⟨i, z1, z2, z3⟩ => hj ⟨i, z2, z3⟩), fun i hi => y4 i (Nat.zero_le _) hi⟩
    have outer : ∀ u, u ≤ 2 ^ P → ∃ A, M_bests_11 0 a b = M_bests_11 (nI u) A b ∧ (∀ q, q ≠ 217 → A q = a q) ∧ ∀ u', u' < u → ∀ i, i ≤ P → A 217 (ixM Q u' i) = 0 := by
      intro u
      induction u with
      | zero => intro _; exact ⟨a, rfl, fun _ _ => rfl, fun u' h => absurd h (by omega)⟩
      | succ u ih =>
        intro hu
        obtain ⟨A, e1, e2, e3⟩ := ih (by omega)
        obtain ⟨A', f1, f2, f3, f4⟩ := inner u (by omega) A e2
        refine ⟨A', ?_, f2, fun u' g1 i g2 => ?_⟩
        · rw [e1, q_M_bests_11, e2 194 (by decide), hG.1.1, shl_n hP, zcond_t (nI_lt (by omega) (by omega))]
          exact f1
        · by_cases c : u' = u
          · subst c; exact f4 i g2
          · rw [f3 _ (fun ⟨i2, z1, z2⟩ => by unfold ixM at z2; omega)]
            exact e3 u' (by omega) i g2
    obtain ⟨A, e1, e2, e3⟩ := outer (2 ^ P) (Nat.le_refl _)
    refine ⟨A, ?_, e2, fun r g1 g2 u g3 l g4 => ?_⟩
    · rw [e1, q_M_bests_11, e2 194 (by decide), hG.1.1, shl_n hP, zcond_f (nI_nlt (Nat.le_refl _) (by omega)), hG.1.2]
    · have : r = Q := by omega
      subst this
      have ai : aiM l ≤ P := by unfold aiM; split <;> omega
      rw [e3 u g3 _ ai, Nat.sub_self]
      show 0 = kI (f 0 0)
      rw [hS.1.1]
      rfl
  obtain ⟨A, e1, e2, e3⟩ := h11
  have h66 : ∀ k p, p + k = Q → ∃ A', M_bests_66 (nI Q - 1) A b = M_bests_66 (nI p - 1) A' b ∧ (∀ q, q ≠ 217 → A' q = a q) ∧ TOk sc tg bl P Q f p A' := by
    intro k
    induction k with
    | zero =>
      intro p hp
      have : p = Q := by omega
      subst this
      exact ⟨A, rfl, e2, e3⟩
    | succ k ih =>
      intro p hp
      obtain ⟨A', f1, f2, f3⟩ := ih (p + 1) (by omega)
      obtain ⟨A'', y1, y2, y3⟩ := m_layer (b := b) (p := p) hS (MGo_f hG (fun q g1 _ => f2 q g1)) hP hQ hp f3
      refine ⟨A'', ?_, fun q hq => (y2 q hq).trans (f2 q hq), y3⟩
      rw [f1, nI_pred, q_M_bests_66, zcond_f (nI_pos (by omega)), y1, zcV_ok, Int32.sub_eq_add_neg]
  obtain ⟨B, f1, f2, f3⟩ := h66 Q 0 (Nat.zero_add _)
  have gB : MGo sc tg P Q hM wM B := MGo_f hG (fun q g1 _ => f2 q g1)
  have pick : ∀ k p u l (C : zA) (v : Int), p + k = Q → u < 2 ^ P → (l = 10 ∨ (l < P ∧ Nat.testBit u l = true)) → (∀ q, q ≠ 220 → C q = B q) → ∀ x3 : Int32, x3 + 1 = nI (aiM l) → ((x3 < 0 ↔ l = 10) ∧ (l ≠ 10 → x3 = nI l)) → ∃ C', M_bests_91 (nI u) x3 (kI v) (nI p) C b = okI (kI (v + sumO sc tg bl P wM k p u l)) C' b ∧ (∀ q, q ≠ 220 → C' q = B q) ∧ (∀ q, q < p → C' 220 q = C 220 q) ∧ ∀ q, p ≤ q → q < Q → C' 220 q = encW (filO sc tg bl P k p u l q) := by
    intro k
    induction k with
    | zero =>
      intro p u l C v hp hu hl hC x3 _ _
      have : p = Q := by omega
      subst this
      refine ⟨C, ?_, hC, fun _ _ => rfl, fun q g1 g2 => absurd g2 (by omega)⟩
      rw [q_M_bests_91, hC 194 (by decide), gB.1.2, zcond_f (nI_nlt (Nat.le_refl _) (by omega)), show v + sumO sc tg bl P wM 0 p u l = v from Int.add_zero v]
      exact okI_ret _ _ _
    | succ k ih =>
      intro p u l C v hp hu hl hC x3 h3 h4
      have gC : MGo sc tg P Q hM wM C := MGo_f gB (fun q _ g2 => hC q g2)
      have tC : TOk sc tg bl P Q f p C := tok B C hC p (fun r g1 g2 => f3 r (Nat.zero_le _) g2)
      have pk := m_pick (b := b) (v4 := kI v) hS gC hP hQ hp hu hl tC h3 h4
      have zp : zin (nI p) 10 = true := zin_nI (by omega) (by decide)
      have kp : (nI p).toNatClampNeg = p := nI_clamp (by omega)
      obtain ⟨o, ho⟩ : ∃ o, o = chO sc tg bl P k p u l := ⟨_, rfl⟩
      rw [← ho] at pk
      have hoc : o = none ∨ ∃ w, w < P ∧ o = some w := by
        cases hc : o with
        | none => exact .inl rfl
        | some w => exact .inr ⟨w, (chO_some (ho.symm.trans hc)).1, rfl⟩
      have us := usO_lt (sc := sc) (tg := tg) (bl := bl) (k := k) (p := p) (l := l) hu
      rw [← ho] at us
      have la : laO o = 10 ∨ (laO o < P ∧ Nat.testBit (usO u o) (laO o) = true) := by
        rcases hoc with e | ⟨w, hw, e⟩
        · rw [e]; exact .inl rfl
        · rw [e]
          refine .inr ⟨hw, ?_⟩
          show Nat.testBit (u ||| 2 ^ w) w = true
          rw [tb_or, decide_eq_true rfl, Bool.or_true]
      obtain ⟨E, hE⟩ : ∃ E, E = zup C 220 p (encW o) := ⟨_, rfl⟩
      have cE : ∀ q, q ≠ 220 → E q = B q := fun q hq => by rw [hE, zup_row hq]; exact hC q hq
      obtain ⟨_, gw⟩ := gB.2.2 E (fun q _ g2 => cE q g2) p o b (by omega) hoc
      obtain ⟨C', y1, y2, y3, y4⟩ := ih (p + 1) (usO u o) (laO o) E (v + wM p o) (by omega) us.1 la cE (encW o) (by
        rcases hoc with e | ⟨w, hw, e⟩
        · rw [e]; decide
        · rw [e]
          show nI w + 1 = nI (aiM w)
          rw [nI_1, show aiM w = w + 1 from if_neg (by omega)]) (by
        rcases hoc with e | ⟨w, hw, e⟩
        · rw [e]
          exact ⟨⟨fun _ => rfl, fun _ => by decide⟩, fun z => absurd rfl z⟩
        · rw [e]
          refine ⟨⟨fun z => absurd z (nI_pos (by omega)), fun z => ?_⟩, fun _ => rfl⟩
          have z : w = 10 := z
          omega)
      refine ⟨C', ?_, y2, fun q hq => ?_, fun q g1 g2 => ?_⟩
      · have e255 : ∀ s1, (nI u ||| s1) = nI (usO u o) → M_bests_255 (kI v) (nI p) (encW o) (nI u) s1 E b = M_bests_91 (nI (usO u o)) (encW o) (kI (v + wM p o)) (nI (p + 1)) E b := fun s1 hs => by
          rw [q_M_bests_255, gw, zcI_ok, hs, kI_add, nI_1]
        rw [pk, q_M_bests_232, zp, cond_true, kp, ← hE]
        show _ = okI (kI (v + (wM p (chO sc tg bl P k p u l) + sumO sc tg bl P wM k (p + 1) (usO u (chO sc tg bl P k p u l)) (laO (chO sc tg bl P k p u l))))) C' b
        rw [← ho, ← Int.add_assoc, ← y1]
        rcases hoc with e | ⟨w, hw, e⟩
        · rw [zcond_t (show encW o < 0 by rw [e]; decide)]
          exact e255 0 (by rw [e]; exact hB_ext fun i hi => by rw [hB_or, hB_zero, Bool.or_false]; rfl)
        · rw [zcond_f (show ¬ encW o < 0 by rw [e]; exact nI_pos (by omega))]
          exact e255 _ (by rw [e]; exact orB (by omega) (by omega))
      · rw [y3 q (by omega), hE, zup_nj (by omega)]
      · show C' 220 q = encW (if q = p then chO sc tg bl P k p u l else filO sc tg bl P k (p + 1) (usO u (chO sc tg bl P k p u l)) (laO (chO sc tg bl P k p u l)) q)
        rw [← ho]
        by_cases c : q = p
        · rw [if_pos c, y3 q (by omega), hE, c, zup_eq]
        · rw [if_neg c]
          exact y4 q (by omega) g2
  obtain ⟨C', y1, y2, y3, y4⟩ := pick Q 0 0 10 B 0 (Nat.zero_add _) (Nat.two_pow_pos P) (.inl rfl) (fun _ _ => rfl) (-1) (by decide) ⟨⟨fun _ => rfl, fun _ => by decide⟩, fun z => absurd rfl z⟩
  refine ⟨C', ?_, fun q g1 g2 => (y2 q g2).trans (f2 q g1), fun q hq => y4 q (Nat.zero_le _) hq⟩
  rw [e1, f1, q_M_bests_66, zcond_t (show nI 0 - 1 < 0 by decide)]
  rw [Int.zero_add] at y1
  exact y1
