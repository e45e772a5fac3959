/-! The class's search, with what it knows. -/
theorem tbB {u i : Nat} (hi : i < 32) : hB (nI u) i = Nat.testBit u i := hB_n hi
theorem orB {u i : Nat} (hu : u < 1024) (hi : i < 10) : nI u ||| (1 <<< (nI i &&& 31)) = nI (u ||| 2 ^ i) := hB_ext fun j hj => by
  rw [hB_or, hB_bit (by omega) j hj, hB_n hj, hB_n hj, tb_or]
  congr 1
  by_cases e : j = i
  · subst e
    rw [decide_eq_true rfl]
  · rw [decide_eq_false e, decide_eq_false (show ¬ i = j from fun z => e z.symm)]
theorem popI {u : Nat} (hu : u < 1024) : pcI (nI u) = nI (pop u) := by
  rw [pc_10 hu]
  unfold pop
  rw [cnt_c 10 (fun i hi => tbB (u := u) (i := i) (by omega))]
theorem stI {s v : Nat} (hs : s ≤ 8191) (hv : v < 262144) : (nI s <<< (18 &&& 31)) ||| nI v = nI (s * 262144 + v) := by
  rw [pk_shlN (n := s) (18 &&& 31) 18 (by decide) (by omega)]
  refine hB_ext fun j hj => ?_
  rw [hB_or, hB_n hj, hB_n hj, hB_n hj, ← Nat.testBit_or]
  have := Nat.shiftLeft_add_eq_or_of_lt (a := s) (b := v) (i := 18) (by omega)
  rw [Nat.shiftLeft_eq] at this
  rw [← this]
def KI (sc tg : Nat → Nat → Option Int) (bl : Nat → Int) (P Q s : Nat) (a : zA) : Prop := ∀ j, j < 112640 → ∃ n, a 33 j = nI n ∧ n < 262144 * (s + 1) ∧ ∀ p u l, p < Q → u < 2 ^ P → (l < P ∨ l = 10) → j = (p * 1024 + u) * 11 + l → n / 262144 = s → ((n % 262144 : Nat) : Int) = opV sc tg bl P (Q - p) p u l
def SV (sc tg : Nat → Nat → Option Int) (bl : Nat → Int) (P Q s : Nat) (a : zA) : Prop := SL sc tg bl P Q a ∧ (∀ r, r ≤ Q → ∀ c, c ≤ 10 → a 32 (11 * r + c) = kI (ceiV sc bl P (Q - r) r c)) ∧ a 27 10 = nI s
theorem SV_f {sc tg : Nat → Nat → Option Int} {bl : Nat → Int} {P Q s : Nat} {a a' : zA} (h : SV sc tg bl P Q s a) (e : ∀ q, q = 2 ∨ q = 27 ∨ (29 ≤ q ∧ q ≤ 32) → a' q = a q) : SV sc tg bl P Q s a' := by
  obtain ⟨h1, h2, h3⟩ := h
  refine ⟨SL_f h1 (fun q hq => e q (by omega)), ?_, ?_⟩
  · rw [e 32 (by omega)]; exact h2
  · rw [e 27 (by omega)]; exact h3
def VSp (sc tg : Nat → Nat → Option Int) (bl : Nat → Int) (P Q s d k : Nat) : Prop := ∀ p u l a b, p + k = Q → u < 2 ^ P → (l < P ∨ l = 10) → SV sc tg bl P Q s a → KI sc tg bl P Q s a → ∃ a', C_value d (nI p) (nI u) (nI l) a b = okI (kI (opV sc tg bl P k p u l)) a' b ∧ (∀ q, q ≠ 33 → a' q = a q) ∧ KI sc tg bl P Q s a'
theorem v_z {sc tg : Nat → Nat → Option Int} {bl : Nat → Int} {P Q s d : Nat} (hQ : Q ≤ 10) : VSp sc tg bl P Q s (d + 1) 0 := by
  intro p u l a b hp hu hl hs hk
  have : p = Q := by omega
  subst this
  refine ⟨a, ?_, fun _ _ => rfl, hk⟩
  rw [q_C_value, zcond_f (nI_pos (by omega)), hs.1.2.1, zcond_f (nI_nlt (Nat.le_refl _) (by omega)), q_C_value_26]
  exact okI_ret _ _ _
theorem v_s {sc tg : Nat → Nat → Option Int} {bl : Nat → Int} {P Q s d k : Nat} (hB : opB sc tg bl) (hP : P ≤ 10) (hQ : Q ≤ 10) (hs1 : 1 ≤ s) (hs2 : s ≤ 8191) (IH : VSp sc tg bl P Q s d k) : VSp sc tg bl P Q s (d + 1) (k + 1) := by
  intro p u l a b hp hu hl hs hk
  have p2 : 2 ^ P ≤ 1024 := Nat.pow_le_pow_right (by decide) hP
  have hu2 : u < 1024 := by omega
  have hl2 : l ≤ 10 := by omega
  obtain ⟨j, hj⟩ : ∃ j, j = (p * 1024 + u) * 11 + l := ⟨_, rfl⟩
  have hj2 : j < 112640 := by omega
  obtain ⟨n, n1, n2, n3⟩ := hk j hj2
  have eP := hs.1.1
  have eQ := hs.1.2.1
  have pl := pop_le hP hu
  have k0 := opV_0 hB (P := P)
  have jj : (nI p * 1024 + nI u) * 11 + nI l = nI j := by
    rw [show nI p * 1024 + nI u = nI (p * 1024 + u) from s_mul p 1024 u, show nI (p * 1024 + u) * 11 + nI l = nI ((p * 1024 + u) * 11 + l) from s_mul (p * 1024 + u) 11 l, ← hj]
  have zj : zin (nI j) 112640 = true := zin_nI hj2 (by decide)
  have kj : (nI j).toNatClampNeg = j := nI_clamp (by omega)
  have hn : n < 2147483648 := by omega
  have start : C_value (d + 1) (nI p) (nI u) (nI l) a b = cond (decide (nI (n / 262144) = nI s)) (okI (nI (n % 262144)) a b) (C_value_107 d (nI p) (nI u) (nI l) (nI j) (nI (P - pop u)) (-1) 0 a b) := by
    rw [q_C_value, zcond_f (nI_pos (by omega)), eQ, zcond_t (nI_lt (by omega) (by omega)), zcond_f (nI_pos (by omega)), zcond_t (show nI u < 1024 from nI_lt (b := 1024) hu2 (by decide)), jj, zcond_f (nI_pos (by omega)), zcond_t (show nI j < 112640 from nI_lt (b := 112640) hj2 (by decide)), zj, cond_true, cond_true, kj, n1, pk_ushrN (n := n) (by omega) 18 18 (by decide), hs.2.2, x_pc, zcI_ok, popI hu2, eP, show nI P - nI (pop u) = nI (P - pop u) from pk_sub pl, pk_andN (n := n) (by omega) (m := 262143) 18 (by decide)]
    refine congrArg (fun x => cond (decide (nI (n / 262144) = nI s)) x _) ?_
    exact okI_ret _ _ _
  by_cases c0 : n / 262144 = s
  · refine ⟨a, ?_, fun _ _ => rfl, hk⟩
    rw [start, zcond_t (by rw [c0]), ← kI_n, n3 p u l (by omega) hu hl hj c0, show Q - p = k + 1 by omega]
  · rw [start, zcond_f (fun z => c0 ((nI_eq (by omega) (by omega)).mp z))]
    -- the people, one by one
    have loop : ∀ n i (m : Int) (a : zA), i + n = P → -1 ≤ m → m ≤ opV sc tg bl P (k + 1) p u l → (∀ w g, w < i → Nat.testBit u w = false → gnO sc tg p l w = some g → g + opV sc tg bl P k (p + 1) (u ||| 2 ^ w) w ≤ m) → SV sc tg bl P Q s a → KI sc tg bl P Q s a → ∃ a' m', C_value_107 d (nI p) (nI u) (nI l) (nI j) (nI (P - pop u)) (kI m) (nI i) a b = C_value_210 d (nI p) (nI u) (nI j) (nI (P - pop u)) (kI m') a' b ∧ -1 ≤ m' ∧ m' ≤ opV sc tg bl P (k + 1) p u l ∧ (∀ w g, w < P → Nat.testBit u w = false → gnO sc tg p l w = some g → g + opV sc tg bl P k (p + 1) (u ||| 2 ^ w) w ≤ m') ∧ (∀ q, q ≠ 33 → a' q = a q) ∧ KI sc tg bl P Q s a' := by
      intro n
      induction n with
      | zero =>
        intro i m a hi h1 h2 h3 hs hk
        have : i = P := by omega
        subst this
        refine ⟨a, m, ?_, h1, h2, h3, fun _ _ => rfl, hk⟩
        rw [q_C_value_107, hs.1.1, zcond_f (nI_nlt (Nat.le_refl _) (by omega))]
      | succ n ih =>
        intro i m a hi h1 h2 h3 hs hk
        have hV := k0 (k + 1) p u l
        by_cases c1 : P - pop u = 0
        · refine ⟨a, m, ?_, h1, h2, fun w g hw hu2 hg => ?_, fun _ _ => rfl, hk⟩
          · rw [q_C_value_107, hs.1.1, zcond_t (nI_lt (by omega) (by omega)), zcond_f (show ¬ (0 : Int32) < nI (P - pop u) by rw [c1]; decide)]
          · have := pop_lt hP hu hw hu2
            omega
        · have skip : (∀ g, Nat.testBit u i = false → gnO sc tg p l i = some g → g + opV sc tg bl P k (p + 1) (u ||| 2 ^ i) i ≤ m) → ∃ a' m', C_value_204 d (nI p) (nI u) (nI l) (nI j) (nI (P - pop u)) (kI m) (nI i) a b = C_value_210 d (nI p) (nI u) (nI j) (nI (P - pop u)) (kI m') a' b ∧ -1 ≤ m' ∧ m' ≤ opV sc tg bl P (k + 1) p u l ∧ (∀ w g, w < P → Nat.testBit u w = false → gnO sc tg p l w = some g → g + opV sc tg bl P k (p + 1) (u ||| 2 ^ w) w ≤ m') ∧ (∀ q, q ≠ 33 → a' q = a q) ∧ KI sc tg bl P Q s a' := by
            intro h
            rw [q_C_value_204, nI_1]
            refine ih (i + 1) m a (by omega) h1 h2 (fun w g hw hu2 hg => ?_) hs hk
            by_cases e : w = i
            · subst e; exact h g hu2 hg
            · exact h3 w g (by omega) hu2 hg
          have e107 : C_value_107 d (nI p) (nI u) (nI l) (nI j) (nI (P - pop u)) (kI m) (nI i) a b = cond (Nat.testBit u i) (C_value_146 d (nI p) (nI u) (nI l) (nI j) (nI (P - pop u)) (kI m) (nI i) (-1000000) a b) (C_value_146 d (nI p) (nI u) (nI l) (nI j) (nI (P - pop u)) (kI m) (nI i) (kI (encO (gnO sc tg p l i))) a b) := by
            rw [q_C_value_107, hs.1.1, zcond_t (nI_lt (by omega) (by omega)), zcond_t (show (0 : Int32) < nI (P - pop u) from nI_lt (a := 0) (by omega) (by omega)), hB_test (by omega), zc_b0, tbB (by omega), x_gain hB hs.1 hP hQ (by omega) (by omega) hl, zcI_ok]
          rw [e107]
          cases tb : Nat.testBit u i
          · rw [cond_false]
            cases hg : gnO sc tg p l i with
            | none =>
              rw [q_C_value_146, zcond_t (show kI (encO none) = -1000000 from kI_bar)]
              exact skip (fun g _ z => absurd (hg.symm.trans z) (by simp))
            | some g =>
              have gb := gnO_b hB hg
              have hc := ceiV_b hB (P := P) (Q - (p + 1)) (p + 1) (P - pop u - 1)
              have hkk : ((Q - (p + 1) : Nat) : Int) ≤ 10 := by omega
              have i1 : (nI p + 1) * 11 + nI (P - pop u) - 1 = nI (11 * (p + 1) + (P - pop u - 1)) := by
                rw [nI_1, show nI (p + 1) * 11 + nI (P - pop u) = nI ((p + 1) * 11 + (P - pop u)) from s_mul (p + 1) 11 _, show nI ((p + 1) * 11 + (P - pop u)) - 1 = nI ((p + 1) * 11 + (P - pop u) - 1) from pk_sub (b := 1) (by omega)]
                congr 1
                omega
              have hc2 := hs.2.1 (p + 1) (by omega) (P - pop u - 1) (by omega)
              have hu3 := or_lt hu (show i < P by omega)
              have hcv := ceiV_le hB hP k (p + 1) (u ||| 2 ^ i) i hu3
              have hkq : Q - (p + 1) = k := by omega
              have hpu := pop_up (show i < 10 by omega) tb
              rw [hpu, show P - (pop u + 1) = P - pop u - 1 by omega] at hcv
              rw [q_C_value_146, zcond_f (show ¬ kI (encO (some g)) = -1000000 from fun z => by
                have := (kI_eq (x := g) (y := -1000000) (by omega) (by omega) (by decide) (by decide)).mp (z.trans kI_bar.symm)
                omega), i1, zin_nI (n := 121) (by omega) (by decide), cond_true, show (nI (11 * (p + 1) + (P - pop u - 1))).toNatClampNeg = 11 * (p + 1) + (P - pop u - 1) from nI_clamp (by omega), hc2, show kI (encO (some g)) = kI g from rfl, kI_add]
              have hV2 : opV sc tg bl P (k + 1) p u l ≤ 200000 := by omega
              by_cases c2 : m < g + ceiV sc bl P (Q - (p + 1)) (p + 1) (P - pop u - 1)
              · obtain ⟨a2, f1, f2, f3⟩ := IH (p + 1) (u ||| 2 ^ i) i a b (by omega) hu3 (.inl (by omega)) hs hk
                have v2 := k0 k (p + 1) (u ||| 2 ^ i) i
                have ho := opV_o (bl := bl) (k := k) (show i < P by omega) tb hg
                rw [zcond_t ((kI_lt (by omega) (by omega) (by omega) (by omega)).mpr c2), nI_1, orB hu2 (by omega), f1, zcI_ok, kI_add, kI_max (by omega) (by omega) (by omega) (by omega), q_C_value_204, nI_1]
                obtain ⟨a', m', w1, w2, w3, w4, w5, w6⟩ := ih (i + 1) (max m (g + opV sc tg bl P k (p + 1) (u ||| 2 ^ i) i)) a2 (by omega) (Int.le_trans h1 (Int.le_max_left _ _)) (Int.max_le.mpr ⟨h2, ho⟩) (fun w g' hw hu2 hg' => by
                  by_cases e : w = i
                  · subst e
                    rw [hg] at hg'
                    rw [← Option.some.inj hg']
                    exact Int.le_max_right _ _
                  · exact Int.le_trans (h3 w g' (by omega) hu2 hg') (Int.le_max_left _ _)) (SV_f hs (fun q hq => f2 q (by omega))) f3
                exact ⟨a', m', w1, w2, w3, w4, fun q hq => (w5 q hq).trans (f2 q hq), w6⟩
              · rw [zcond_f (fun z => c2 ((kI_lt (by omega) (by omega) (by omega) (by omega)).mp z))]
                refine skip (fun g' _ hg' => ?_)
                rw [hg] at hg'
                rw [← Option.some.inj hg']
                rw [hkq] at c2
                omega
          · rw [cond_true, q_C_value_146, zcond_t rfl]
            exact skip (fun g z _ => absurd (tb.symm.trans z) (by decide))
    obtain ⟨a1, m1, w1, w2, w3, w4, w5, w6⟩ := loop P 0 (-1) a (Nat.zero_add _) (Int.le_refl _) (by have := k0 (k + 1) p u l; omega) (fun w g hw => absurd hw (by omega)) hs hk
    have hs1' : SV sc tg bl P Q s a1 := SV_f hs (fun q hq => w5 q (by omega))
    have hV := k0 (k + 1) p u l
    -- written down
    have fin : ∀ a2, (∀ q, q ≠ 33 → a2 q = a q) → KI sc tg bl P Q s a2 → ∃ a', C_value_265 d (nI j) (kI (opV sc tg bl P (k + 1) p u l)) a2 b = okI (kI (opV sc tg bl P (k + 1) p u l)) a' b ∧ (∀ q, q ≠ 33 → a' q = a q) ∧ KI sc tg bl P Q s a' := by
      intro a2 f1 f2
      obtain ⟨v, hv⟩ : ∃ v : Nat, (v : Int) = opV sc tg bl P (k + 1) p u l := ⟨(opV sc tg bl P (k + 1) p u l).toNat, Int.toNat_of_nonneg hV.1⟩
      have hv2 : v < 262144 := by omega
      have ks : a2 27 10 = nI s := (congrFun (f1 27 (by decide)) 10).trans hs.2.2
      refine ⟨zup a2 33 j (nI (s * 262144 + v)), ?_, fun q hq => (zup_row hq).trans (f1 q hq), fun j' hj' => ?_⟩
      · rw [q_C_value_265, zj, cond_true, kj, ks, ← hv, kI_n, stI hs2 hv2]
        exact okI_ret _ _ _
      · by_cases e : j' = j
        · subst e
          refine ⟨s * 262144 + v, zup_eq _ _ _ _, by omega, fun p' u' l' g1 g2 g3 g4 _ => ?_⟩
          have g5 : l' ≤ 10 := by omega
          have g6 : u' < 1024 := by omega
          have e1 : l' = l := by omega
          have e2 : u' = u := by omega
          have e3 : p' = p := by omega
          subst e1 e2 e3
          rw [show (s * 262144 + v) % 262144 = v by omega, show Q - p' = k + 1 by omega]
          exact hv
        · obtain ⟨n', x1, x2, x3⟩ := f2 j' hj'
          exact ⟨n', (zup_nj e).trans x1, x2, x3⟩
    have goal : ∃ a', C_value_210 d (nI p) (nI u) (nI j) (nI (P - pop u)) (kI m1) a1 b = okI (kI (opV sc tg bl P (k + 1) p u l)) a' b ∧ (∀ q, q ≠ 33 → a' q = a q) ∧ KI sc tg bl P Q s a' := by
      have i2 : (nI p + 1) * 11 + nI (P - pop u) = nI (11 * (p + 1) + (P - pop u)) := by
        rw [nI_1]
        exact (s_mul (p + 1) 11 _).trans (by rw [Nat.mul_comm])
      have hb := hB.2.2 p
      have hc := ceiV_b hB (P := P) (Q - (p + 1)) (p + 1) (P - pop u)
      have hkk : ((Q - (p + 1) : Nat) : Int) ≤ 10 := by omega
      have hkq : Q - (p + 1) = k := by omega
      have hcv := ceiV_le hB hP k (p + 1) u 10 hu
      have ob := opV_b (sc := sc) (tg := tg) (bl := bl) (P := P) (k := k) (p := p) (u := u) (l := l)
      have v2 := k0 k (p + 1) u 10
      rw [q_C_value_210, zcond_f (nI_pos (by omega)), zin_nI (n := 10) (by omega) (by decide), cond_true, i2, zin_nI (n := 121) (by omega) (by decide), cond_true, cond_true, show (nI p).toNatClampNeg = p from nI_clamp (by omega), show (nI (11 * (p + 1) + (P - pop u))).toNatClampNeg = 11 * (p + 1) + (P - pop u) from nI_clamp (by omega), hs1'.1.2.2.2.2 p (by omega), hs1'.2.1 (p + 1) (by omega) (P - pop u) (by omega), kI_add]
      by_cases c2 : m1 < bl p + ceiV sc bl P (Q - (p + 1)) (p + 1) (P - pop u)
      · obtain ⟨a2, f1, f2, f3⟩ := IH (p + 1) u 10 a1 b (by omega) hu (.inr rfl) hs1' w6
        have f1 : C_value d (nI (p + 1)) (nI u) 10 a1 b = okI (kI (opV sc tg bl P k (p + 1) u 10)) a2 b := f1
        have em : max m1 (bl p + opV sc tg bl P k (p + 1) u 10) = opV sc tg bl P (k + 1) p u l := by
          refine Int.le_antisymm (Int.max_le.mpr ⟨w3, ob⟩) ?_
          rcases opV_x (sc := sc) (tg := tg) (bl := bl) (P := P) (k := k) (p := p) (u := u) (l := l) with e | ⟨w, g, x1, x2, x3, e⟩
          · rw [e]; exact Int.le_max_right _ _
          · rw [e]; exact Int.le_trans (w4 w g x1 x2 x3) (Int.le_max_left _ _)
        rw [zcond_t ((kI_lt (by omega) (by omega) (by omega) (by omega)).mpr c2), nI_1, f1, zcI_ok, kI_add, kI_max (by omega) (by omega) (by omega) (by omega), em]
        exact fin a2 (fun q hq => (f2 q hq).trans (w5 q hq)) f3
      · have em : m1 = opV sc tg bl P (k + 1) p u l := by
          refine Int.le_antisymm w3 ?_
          rcases opV_x (sc := sc) (tg := tg) (bl := bl) (P := P) (k := k) (p := p) (u := u) (l := l) with e | ⟨w, g, x1, x2, x3, e⟩
          · rw [hkq] at c2
            rw [e]; omega
          · rw [e]; exact w4 w g x1 x2 x3
        rw [zcond_f (fun z => c2 ((kI_lt (by omega) (by omega) (by omega) (by omega)).mp z)), em]
        exact fin a1 w5 w6
    obtain ⟨a', y1, y2, y3⟩ := goal
    exact ⟨a', w1.trans y1, y2, y3⟩
theorem v_all {sc tg : Nat → Nat → Option Int} {bl : Nat → Int} {P Q s : Nat} (hB : opB sc tg bl) (hP : P ≤ 10) (hQ : Q ≤ 10) (hs1 : 1 ≤ s) (hs2 : s ≤ 8191) : ∀ k d, k < d → VSp sc tg bl P Q s d k
  | 0, 0, h => absurd h (by omega)
  | 0, d + 1, _ => v_z hQ
  | k + 1, 0, h => absurd h (by omega)
  | k + 1, d + 1, h => v_s hB hP hQ hs1 hs2 (v_all hB hP hQ hs1 hs2 k d (by omega))
