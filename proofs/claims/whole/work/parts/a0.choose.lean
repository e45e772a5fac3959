/-! The greatest value; the least filling that has it. -/
set_option maxRecDepth 1000000 in
theorem zSH_33 : zSH[33]? = some (20, 112640, []) := rfl
theorem x_fill33 (a : zA) (b : zB) : J_fill 33 0 a b = okV (zfn a 33 112640 (fun _ => 0)) b := by
  have l0 : ∀ c : zA, zlen zSH c 33 = 112640 := fun c => by
    unfold zlen
    rw [zSH_33]
    rfl
  have k0 : zokc zSH 33 20 = true := by
    unfold zokc zkd
    rw [zSH_33]
    rfl
  have y0 : zokY zSH 33 = true := by
    unfold zokY zkd
    rw [zSH_33]
    rfl
  have hs : ∀ i, i < 112640 → J_fill_5 33 0 (nI i) (nI 112640) (zfn a 33 i (fun _ => 0)) b = J_fill_5 33 0 (nI (i + 1)) (nI 112640) (zfn a 33 (i + 1) (fun _ => 0)) b := by
    intro i hi
    rw [q_J_fill_5, k0, l0, ← zfn_s]
    simp (disch := omega) only [zqA0, zqB0, zqC0, zqD0, zqE0, zqF0, zqG0, zqH0, zqA1, zqB1, zqC1, zqD1, zqE1, zqF1, zqG1, zqH1, zqA2, zqB2, zqC2, zqD2, zqE2, zqF2, zqG2, zqH2, zqA3, zqB3, zqC3, zqD3, zqE3, zqF3, zqG3, zqH3, zqA4, zqB4, zqC4, zqD4, zqE4, zqF4, zqG4, zqH4, zqA5, zqB5, zqC5, zqD5, zqE5, zqF5, zqG5, zqH5, zqA6, zqB6, zqC6, zqD6, zqE6, zqF6, zqG6, zqH6, zqA8, zqB8, zqC8, zqD8, zqE8, zqF8, zqG8, zqH8, zqA9, zqB9, zqC9, zqD9, zqE9, zqF9, zqG9, zqH9, zqA10, zqB10, zqC10, zqD10, zqE10, zqF10, zqG10, zqH10, zqA11, zqB11, zqC11, zqD11, zqE11, zqF11, zqG11, zqH11, zqA16, zqB16, zqC16, zqD16, zqE16, zqF16, zqG16, zqH16, zqA18, zqB18, zqC18, zqD18, zqE18, zqF18, zqG18, zqH18, zqA20, zqB20, zqC20, zqD20, zqE20, zqF20, zqG20, zqH20, zqA60, zqB60, zqC60, zqD60, zqE60, zqF60, zqG60, zqH60, zqA63, zqB63, zqC63, zqD63, zqE63, zqF63, zqG63, zqH63, zqA80, zqB80, zqC80, zqD80, zqE80, zqF80, zqG80, zqH80, zqA100, zqB100, zqC100, zqD100, zqE100, zqF100, zqG100, zqH100, zqA120, zqB120, zqC120, zqD120, zqE120, zqF120, zqG120, zqH120, zqA630, zqB630, zqC630, zqD630, zqE630, zqF630, zqG630, zqH630, zqA1000, zqB1000, zqC1000, zqD1000, zqE1000, zqF1000, zqG1000, zqH1000, zqA1010, zqB1010, zqC1010, zqD1010, zqE1010, zqF1010, zqG1010, zqH1010, zqA5000, zqB5000, zqC5000, zqD5000, zqE5000, zqF5000, zqG5000, zqH5000, zz_p01, zz_p02, zz_p03, zz_p04, zz_p05, zz_p06, zz_p10, zz_p12, zz_p13, zz_p14, zz_p15, zz_p16, zz_p20, zz_p21, zz_p23, zz_p24, zz_p25, zz_p26, zz_p30, zz_p31, zz_p32, zz_p34, zz_p35, zz_p36, zz_p40, zz_p41, zz_p42, zz_p43, zz_p45, zz_p46, zz_p50, zz_p51, zz_p52, zz_p53, zz_p54, zz_p56, zz_p60, zz_p61, zz_p62, zz_p63, zz_p64, zz_p65, zz_q1, zz_w1, zz_q2, zz_w2, zz_q3, zz_w3, zz_q4, zz_w4, zz_q5, zz_w5, zz_q6, zz_w6, zz_w0, zz_m1, zz_lt, zz_01, zz_le, zz_eq, zz_n1, zz_in, zz_cl, zz_max, zz_min, zz_minN, zz_maxN, zz_02, zz_12, zz_c0, zz_c1, zz_b0, zz_b1, zz_bb, zz_d00, zz_d10, zz_neg, nI_add, pk_mul, zc_b0, zc_b1, cond_true, cond_false, zcI_ok, zcV_ok, okI_ret, okV_ret, zz_sub, zcond_t, zcond_f, bI_t, bI_f, eq_self, decide_true, decide_false, Bool.false_or, Bool.true_or, Bool.or_false, Bool.or_true, Bool.and_true, Bool.true_and, Bool.and_false, Bool.false_and, Bool.not_true, Bool.not_false, if_true, if_false]
  have h := lpC (F := fun i => J_fill_5 33 0 (nI i) (nI 112640) (zfn a 33 i (fun _ => 0)) b) hs 112640 0 (Nat.zero_add _)
  rw [zfn_0] at h
  rw [q_J_fill, y0, cond_true, l0]
  refine h.trans ?_
  rw [q_J_fill_5]
  simp (disch := omega) only [zqA0, zqB0, zqC0, zqD0, zqE0, zqF0, zqG0, zqH0, zqA1, zqB1, zqC1, zqD1, zqE1, zqF1, zqG1, zqH1, zqA2, zqB2, zqC2, zqD2, zqE2, zqF2, zqG2, zqH2, zqA3, zqB3, zqC3, zqD3, zqE3, zqF3, zqG3, zqH3, zqA4, zqB4, zqC4, zqD4, zqE4, zqF4, zqG4, zqH4, zqA5, zqB5, zqC5, zqD5, zqE5, zqF5, zqG5, zqH5, zqA6, zqB6, zqC6, zqD6, zqE6, zqF6, zqG6, zqH6, zqA8, zqB8, zqC8, zqD8, zqE8, zqF8, zqG8, zqH8, zqA9, zqB9, zqC9, zqD9, zqE9, zqF9, zqG9, zqH9, zqA10, zqB10, zqC10, zqD10, zqE10, zqF10, zqG10, zqH10, zqA11, zqB11, zqC11, zqD11, zqE11, zqF11, zqG11, zqH11, zqA16, zqB16, zqC16, zqD16, zqE16, zqF16, zqG16, zqH16, zqA18, zqB18, zqC18, zqD18, zqE18, zqF18, zqG18, zqH18, zqA20, zqB20, zqC20, zqD20, zqE20, zqF20, zqG20, zqH20, zqA60, zqB60, zqC60, zqD60, zqE60, zqF60, zqG60, zqH60, zqA63, zqB63, zqC63, zqD63, zqE63, zqF63, zqG63, zqH63, zqA80, zqB80, zqC80, zqD80, zqE80, zqF80, zqG80, zqH80, zqA100, zqB100, zqC100, zqD100, zqE100, zqF100, zqG100, zqH100, zqA120, zqB120, zqC120, zqD120, zqE120, zqF120, zqG120, zqH120, zqA630, zqB630, zqC630, zqD630, zqE630, zqF630, zqG630, zqH630, zqA1000, zqB1000, zqC1000, zqD1000, zqE1000, zqF1000, zqG1000, zqH1000, zqA1010, zqB1010, zqC1010, zqD1010, zqE1010, zqF1010, zqG1010, zqH1010, zqA5000, zqB5000, zqC5000, zqD5000, zqE5000, zqF5000, zqG5000, zqH5000, zz_p01, zz_p02, zz_p03, zz_p04, zz_p05, zz_p06, zz_p10, zz_p12, zz_p13, zz_p14, zz_p15, zz_p16, zz_p20, zz_p21, zz_p23, zz_p24, zz_p25, zz_p26, zz_p30, zz_p31, zz_p32, zz_p34, zz_p35, zz_p36, zz_p40, zz_p41, zz_p42, zz_p43, zz_p45, zz_p46, zz_p50, zz_p51, zz_p52, zz_p53, zz_p54, zz_p56, zz_p60, zz_p61, zz_p62, zz_p63, zz_p64, zz_p65, zz_q1, zz_w1, zz_q2, zz_w2, zz_q3, zz_w3, zz_q4, zz_w4, zz_q5, zz_w5, zz_q6, zz_w6, zz_w0, zz_m1, zz_lt, zz_01, zz_le, zz_eq, zz_n1, zz_in, zz_cl, zz_max, zz_min, zz_minN, zz_maxN, zz_02, zz_12, zz_c0, zz_c1, zz_b0, zz_b1, zz_bb, zz_d00, zz_d10, zz_neg, nI_add, pk_mul, zc_b0, zc_b1, cond_true, cond_false, zcI_ok, zcV_ok, okI_ret, okV_ret, zz_sub, zcond_t, zcond_f, bI_t, bI_f, eq_self, decide_true, decide_false, Bool.false_or, Bool.true_or, Bool.or_false, Bool.or_true, Bool.and_true, Bool.true_and, Bool.and_false, Bool.false_and, Bool.not_true, Bool.not_false, if_true, if_false]
/-- at a post: nobody, or the least one with whom the value is reached -/
def okW (sc tg : Nat → Nat → Option Int) (bl : Nat → Int) (P k p u l w : Nat) : Bool := !Nat.testBit u w && (gnO sc tg p l w).elim false (fun g => decide (g + opV sc tg bl P k (p + 1) (u ||| 2 ^ w) w = opV sc tg bl P (k + 1) p u l))
def chO (sc tg : Nat → Nat → Option Int) (bl : Nat → Int) (P k p u l : Nat) : Option Nat := cond (decide (bl p + opV sc tg bl P k (p + 1) u 10 = opV sc tg bl P (k + 1) p u l)) none (oF (fun w => cond (okW sc tg bl P k p u l w) (some w) none) 0 P)
def encW (o : Option Nat) : Int32 := o.elim (-1) nI
def usO (u : Nat) (o : Option Nat) : Nat := o.elim u (fun w => u ||| 2 ^ w)
def laO (o : Option Nat) : Nat := o.elim 10 id
theorem oF_some {β : Type} {f : Nat → Option β} {y : β} : ∀ k j, oF f j k = some y → ∃ i, j ≤ i ∧ i < j + k ∧ f i = some y ∧ ∀ i', j ≤ i' → i' < i → f i' = none
  | 0, _, h => absurd h (by simp [oF])
  | k + 1, j, h => by
    have h : (f j).elim (oF f (j + 1) k) some = some y := h
    cases hf : f j with
    | none =>
      rw [hf] at h
      obtain ⟨i, h1, h2, h3, h4⟩ := oF_some k (j + 1) h
      refine ⟨i, by omega, by omega, h3, fun i' g1 g2 => ?_⟩
      by_cases e : i' = j
      · rw [e]; exact hf
      · exact h4 i' (by omega) g2
    | some z =>
      rw [hf] at h
      exact ⟨j, Nat.le_refl _, by omega, hf.trans h, fun i' g1 g2 => absurd g2 (by omega)⟩
theorem oF_none {β : Type} {f : Nat → Option β} : ∀ k j, oF f j k = none → ∀ i, j ≤ i → i < j + k → f i = none
  | 0, j, _, i, h1, h2 => absurd h2 (by omega)
  | k + 1, j, h, i, h1, h2 => by
    have h : (f j).elim (oF f (j + 1) k) some = none := h
    cases hf : f j with
    | none =>
      rw [hf] at h
      by_cases e : i = j
      · rw [e]; exact hf
      · exact oF_none k (j + 1) h i (by omega) (by omega)
    | some z => rw [hf] at h; exact absurd h (by simp)
theorem chO_some {sc tg : Nat → Nat → Option Int} {bl : Nat → Int} {P k p u l w : Nat} (h : chO sc tg bl P k p u l = some w) : w < P ∧ Nat.testBit u w = false ∧ ∃ g, gnO sc tg p l w = some g ∧ opV sc tg bl P (k + 1) p u l = g + opV sc tg bl P k (p + 1) (u ||| 2 ^ w) w := by
  unfold chO at h
  cases c : decide (bl p + opV sc tg bl P k (p + 1) u 10 = opV sc tg bl P (k + 1) p u l)
  · rw [c, cond_false] at h
    obtain ⟨i, h1, h2, h3, -⟩ := oF_some P 0 h
    cases hk : okW sc tg bl P k p u l i
    · rw [hk] at h3; exact absurd h3 (by simp)
    · rw [hk] at h3
      have e : i = w := Option.some.inj h3
      subst e
      unfold okW at hk
      rw [Bool.and_eq_true, Bool.not_eq_true'] at hk
      cases hg : gnO sc tg p l i with
      | none => rw [hg] at hk; exact absurd hk.2 (by simp)
      | some g =>
        rw [hg] at hk
        exact ⟨by omega, hk.1, g, rfl, (of_decide_eq_true hk.2).symm⟩
  · rw [c] at h; exact absurd h (by simp)
theorem chO_none {sc tg : Nat → Nat → Option Int} {bl : Nat → Int} {P k p u l : Nat} (h : chO sc tg bl P k p u l = none) : opV sc tg bl P (k + 1) p u l = bl p + opV sc tg bl P k (p + 1) u 10 := by
  unfold chO at h
  by_cases c : bl p + opV sc tg bl P k (p + 1) u 10 = opV sc tg bl P (k + 1) p u l
  · exact c.symm
  · rw [decide_eq_false c, cond_false] at h
    rcases opV_x (sc := sc) (tg := tg) (bl := bl) (P := P) (k := k) (p := p) (u := u) (l := l) with e | ⟨w, g, h1, h2, h3, e⟩
    · exact e
    · have := oF_none P 0 h w (Nat.zero_le _) (by omega)
      have hk : okW sc tg bl P k p u l w = true := by
        unfold okW
        rw [h2, h3, e]
        show (!false && decide (_ = _)) = true
        rw [decide_eq_true rfl]
        rfl
      rw [hk] at this
      exact absurd this (by simp)
/-- the value of the choice; what is left behind it -/
def vaO (sc tg : Nat → Nat → Option Int) (bl : Nat → Int) (p l : Nat) (o : Option Nat) : Int := o.elim (bl p) (fun w => encO (gnO sc tg p l w))
theorem chO_v (sc tg : Nat → Nat → Option Int) (bl : Nat → Int) (P k p u l : Nat) : opV sc tg bl P (k + 1) p u l = vaO sc tg bl p l (chO sc tg bl P k p u l) + opV sc tg bl P k (p + 1) (usO u (chO sc tg bl P k p u l)) (laO (chO sc tg bl P k p u l)) := by
  cases h : chO sc tg bl P k p u l with
  | none => exact chO_none h
  | some w =>
    obtain ⟨_, _, g, h3, h4⟩ := chO_some h
    show _ = encO (gnO sc tg p l w) + _
    rw [h3]
    exact h4
/-- the filling -/
def filO (sc tg : Nat → Nat → Option Int) (bl : Nat → Int) (P : Nat) : Nat → Nat → Nat → Nat → Nat → Option Nat
  | 0, _, _, _, _ => none
  | k + 1, p, u, l, q => if q = p then chO sc tg bl P k p u l else filO sc tg bl P k (p + 1) (usO u (chO sc tg bl P k p u l)) (laO (chO sc tg bl P k p u l)) q
theorem usO_lt {sc tg : Nat → Nat → Option Int} {bl : Nat → Int} {P k p u l : Nat} (hu : u < 2 ^ P) : usO u (chO sc tg bl P k p u l) < 2 ^ P ∧ (laO (chO sc tg bl P k p u l) < P ∨ laO (chO sc tg bl P k p u l) = 10) := by
  cases h : chO sc tg bl P k p u l with
  | none => exact ⟨hu, .inr rfl⟩
  | some w =>
    obtain ⟨h1, _⟩ := chO_some h
    exact ⟨or_lt hu h1, .inl h1⟩
theorem x_least {sc tg : Nat → Nat → Option Int} {bl : Nat → Int} {P Q s k p u l : Nat} {a : zA} {b : zB} (hB : opB sc tg bl) (hP : P ≤ 10) (hQ : Q ≤ 10) (hs1 : 1 ≤ s) (hs2 : s ≤ 8191) (hp : p + (k + 1) = Q) (hu : u < 2 ^ P) (hl : l < P ∨ l = 10) (hs : SV sc tg bl P Q s a) (hk : KI sc tg bl P Q s a) : ∃ a', C_leastOne (nI p) (nI u) (nI l) (kI (opV sc tg bl P (k + 1) p u l)) a b = okI (encW (chO sc tg bl P k p u l)) a' b ∧ (∀ q, q ≠ 33 → a' q = a q) ∧ KI sc tg bl P Q s a' := by
  have p2 : 2 ^ P ≤ 1024 := Nat.pow_le_pow_right (by decide) hP
  have hV := v_all (s := s) hB hP hQ hs1 hs2 k 31 (by omega)
  have k0 := opV_0 hB (P := P)
  have hbl := hB.2.2 p
  obtain ⟨a1, f1, f2, f3⟩ := hV (p + 1) u 10 a b (by omega) hu (.inr rfl) hs hk
  have f1 : C_value 31 (nI (p + 1)) (nI u) 10 a b = okI (kI (opV sc tg bl P k (p + 1) u 10)) a1 b := f1
  have v1 := k0 k (p + 1) u 10
  have v2 := k0 (k + 1) p u l
  have hkk : (k : Int) ≤ 10 := by omega
  have e0 : C_leastOne (nI p) (nI u) (nI l) (kI (opV sc tg bl P (k + 1) p u l)) a b = cond (decide (bl p + opV sc tg bl P k (p + 1) u 10 = opV sc tg bl P (k + 1) p u l)) (okI (-1) a1 b) (C_leastOne_27 (nI p) (nI u) (nI l) (kI (opV sc tg bl P (k + 1) p u l)) 0 a1 b) := by
    have hbp : a 31 p = kI (bl p) := hs.1.2.2.2.2 p (by omega)
    rw [q_C_leastOne, zin_nI (n := 10) (by omega) (by decide), cond_true, nI_1, f1, zcI_ok, show (nI p).toNatClampNeg = p from nI_clamp (by omega), hbp, kI_add]
    by_cases c : bl p + opV sc tg bl P k (p + 1) u 10 = opV sc tg bl P (k + 1) p u l
    · rw [zcond_t (by rw [c]), decide_eq_true c]
      exact okI_ret _ _ _
    · rw [zcond_f (fun z => c ((kI_eq (by omega) (by omega) (by omega) (by omega)).mp z)), decide_eq_false c]
      rfl
  have loop : ∀ n i (a : zA), i + n = P → SV sc tg bl P Q s a → KI sc tg bl P Q s a → ∃ a', C_leastOne_27 (nI p) (nI u) (nI l) (kI (opV sc tg bl P (k + 1) p u l)) (nI i) a b = okI (encW (oF (fun w => cond (okW sc tg bl P k p u l w) (some w) none) i n)) a' b ∧ (∀ q, q ≠ 33 → a' q = a q) ∧ KI sc tg bl P Q s a' := by
    intro n
    induction n with
    | zero =>
      intro i a hi hs hk
      have : i = P := by omega
      subst this
      refine ⟨a, ?_, fun _ _ => rfl, hk⟩
      rw [q_C_leastOne_27, hs.1.1, zcond_f (nI_nlt (Nat.le_refl _) (by omega))]
      exact okI_ret _ _ _
    | succ n ih =>
      intro i a hi hs hk
      have next : okW sc tg bl P k p u l i = false → ∀ a2, (∀ q, q ≠ 33 → a2 q = a q) → SV sc tg bl P Q s a2 → KI sc tg bl P Q s a2 → ∃ a', C_leastOne_96 (nI p) (nI u) (nI l) (kI (opV sc tg bl P (k + 1) p u l)) (nI i) a2 b = okI (encW (oF (fun w => cond (okW sc tg bl P k p u l w) (some w) none) i (n + 1))) a' b ∧ (∀ q, q ≠ 33 → a' q = a q) ∧ KI sc tg bl P Q s a' := by
        intro ho a2 x1 x2 x3
        obtain ⟨a', y1, y2, y3⟩ := ih (i + 1) a2 (by omega) x2 x3
        refine ⟨a', ?_, fun q hq => (y2 q hq).trans (x1 q hq), y3⟩
        rw [q_C_leastOne_96, nI_1, y1]
        show okI (encW (oF _ (i + 1) n)) a' b = okI (encW ((cond (okW sc tg bl P k p u l i) (some i) none).elim (oF _ (i + 1) n) some)) a' b
        rw [ho]
        rfl
      rw [q_C_leastOne_27, hs.1.1, zcond_t (nI_lt (by omega) (by omega)), hB_test (by omega), zc_b0, tbB (by omega), x_gain hB hs.1 hP hQ (by omega) (by omega) hl, zcI_ok]
      cases tb : Nat.testBit u i
      · rw [cond_false]
        cases hg : gnO sc tg p l i with
        | none =>
          rw [q_C_leastOne_61, zcond_t (show kI (encO none) = -1000000 from kI_bar)]
          exact next (by unfold okW; rw [hg, tb]; rfl) a (fun _ _ => rfl) hs hk
        | some g =>
          have gb := gnO_b hB hg
          obtain ⟨a2, x1, x2, x3⟩ := hV (p + 1) (u ||| 2 ^ i) i a b (by omega) (or_lt hu (by omega)) (.inl (by omega)) hs hk
          have v3 := k0 k (p + 1) (u ||| 2 ^ i) i
          rw [q_C_leastOne_61, zcond_f (show ¬ kI (encO (some g)) = -1000000 from fun z => by
            have := (kI_eq (x := g) (y := -1000000) (by omega) (by omega) (by decide) (by decide)).mp (z.trans kI_bar.symm)
            omega), nI_1, orB (by omega) (by omega), x1, zcI_ok, show kI (encO (some g)) = kI g from rfl, kI_add]
          by_cases c : g + opV sc tg bl P k (p + 1) (u ||| 2 ^ i) i = opV sc tg bl P (k + 1) p u l
          · refine ⟨a2, ?_, x2, x3⟩
            rw [zcond_t (by rw [c])]
            have ho : okW sc tg bl P k p u l i = true := by
              unfold okW
              rw [hg, tb]
              show (!false && decide _) = true
              rw [decide_eq_true c]
              rfl
            show zRET _ _ _ _ = okI (encW ((cond (okW sc tg bl P k p u l i) (some i) none).elim (oF _ (i + 1) n) some)) a2 b
            rw [ho]
            exact okI_ret _ _ _
          · rw [zcond_f (fun z => c ((kI_eq (by omega) (by omega) (by omega) (by omega)).mp z))]
            refine next ?_ a2 x2 (SV_f hs (fun q hq => x2 q (by omega))) x3
            unfold okW
            rw [hg, tb]
            show (!false && decide _) = false
            rw [decide_eq_false c]
            rfl
      · rw [cond_true, q_C_leastOne_61, zcond_t rfl]
        exact next (by unfold okW; rw [tb]; rfl) a (fun _ _ => rfl) hs hk
  unfold chO
  by_cases c : bl p + opV sc tg bl P k (p + 1) u 10 = opV sc tg bl P (k + 1) p u l
  · refine ⟨a1, ?_, f2, f3⟩
    rw [e0, decide_eq_true c]
    rfl
  · obtain ⟨a', y1, y2, y3⟩ := loop P 0 a1 (Nat.zero_add _) (SV_f hs (fun q hq => f2 q (by omega))) f3
    refine ⟨a', ?_, fun q hq => (y2 q hq).trans (f2 q hq), y3⟩
    rw [e0, decide_eq_false c]
    exact y1
/-- what is known from one search to the next -/
theorem x_great {sc tg : Nat → Nat → Option Int} {bl : Nat → Int} {P Q : Nat} {a : zA} {b : zB} (hB : opB sc tg bl) (hP : P ≤ 10) (hQ : Q ≤ 10) (h : SL sc tg bl P Q a) (hk : rKnown (a 27) (a 33)) : ∃ a' s, C_greatest a b = okI (kI (opV sc tg bl P Q 0 0 10)) a' b ∧ (∀ q, q ≠ 27 → q ≠ 32 → q ≠ 33 → a' q = a q) ∧ (∀ j, j ≠ 10 → a' 27 j = a 27 j) ∧ (1 ≤ s ∧ s ≤ 8191) ∧ SV sc tg bl P Q s a' ∧ KI sc tg bl P Q s a' := by
  obtain ⟨a1, e1, e2, e3⟩ := x_raise (b := b) hB h hP hQ
  obtain ⟨s0, s1, s2, s3⟩ := hk
  have p2 : 0 < 2 ^ P := Nat.two_pow_pos P
  have e27 : a1 27 10 = nI s0 := (congrFun (e2 27 (by decide)) 10).trans s2
  have run : ∀ (A : zA) s, 1 ≤ s → s ≤ 8191 → (∀ q, q ≠ 27 → q ≠ 32 → q ≠ 33 → A q = a q) → (∀ j, j ≠ 10 → A 27 j = a 27 j) → A 27 10 = nI s → A 32 = a1 32 → (∀ j, j < 112640 → ∃ n, A 33 j = nI n ∧ n < 262144 * s) → ∃ a' s, C_greatest_37 A b = okI (kI (opV sc tg bl P Q 0 0 10)) a' b ∧ (∀ q, q ≠ 27 → q ≠ 32 → q ≠ 33 → a' q = a q) ∧ (∀ j, j ≠ 10 → a' 27 j = a 27 j) ∧ (1 ≤ s ∧ s ≤ 8191) ∧ SV sc tg bl P Q s a' ∧ KI sc tg bl P Q s a' := by
    intro A s h1 h2 h3 h4 h5 h6 h7
    have hsv : SV sc tg bl P Q s A := ⟨SL_f h (fun q hq => h3 q (by omega) (by omega) (by omega)), by rw [h6]; exact e3, h5⟩
    have hki : KI sc tg bl P Q s A := fun j hj => by
      obtain ⟨n, n1, n2⟩ := h7 j hj
      exact ⟨n, n1, by omega, fun p u l _ _ _ _ z => absurd z (by omega)⟩
    obtain ⟨a', f1, f2, f3⟩ := v_all (s := s) hB hP hQ h1 h2 Q 31 (by omega) 0 0 10 A b (Nat.zero_add _) p2 (.inr rfl) hsv hki
    refine ⟨a', s, ?_, fun q g1 g2 g3 => (f2 q g3).trans (h3 q g1 g2 g3), fun j hj => (congrFun (f2 27 (by decide)) j).trans (h4 j hj), ⟨h1, h2⟩, SV_f hsv (fun q hq => f2 q (by omega)), f3⟩
    rw [q_C_greatest_37]
    refine Eq.trans (congrArg (fun r => zcI r _) f1) ?_
    rw [zcI_ok]
    exact okI_ret _ _ _
  have kn : ∀ j, j < 112640 → ∃ n, a1 33 j = nI n ∧ n < 262144 * (s0 + 1) := fun j hj => by
    obtain ⟨g1, g2⟩ := s3 j hj
    rw [e2 33 (by decide)]
    obtain ⟨n, n1, n2⟩ := nI_of (x := a 33 j) (by rw [Int32.lt_iff_toInt_lt, show (0 : Int32).toInt = 0 from by decide]; omega)
    refine ⟨n, n2, ?_⟩
    rw [n2, nI_toInt (by omega)] at g2
    omega
  rw [q_C_greatest, e1, zcV_ok, e27, nI_1, zup_eq]
  by_cases c : 8191 < s0 + 1
  · rw [zcond_t (show (8191 : Int32) < nI (s0 + 1) from nI_lt (a := 8191) c (by omega)), x_fill33, zcV_ok]
    refine run _ 1 (by decide) (by decide) (fun q g1 g2 g3 => ?_) (fun j hj => ?_) (zup_eq _ _ _ _) ?_ (fun j hj => ⟨0, ?_, by decide⟩)
    · rw [zup_row g1, zfn_q g3, zup_row g1]; exact e2 q g2
    · rw [zup_nj hj, zfn_q (by decide), zup_nj hj]; exact congrFun (e2 27 (by decide)) j
    · rw [zup_row (by decide), zfn_q (by decide), zup_row (by decide)]
    · rw [zup_ne (by decide), zfn_j hj]; rfl
  · rw [zcond_f (show ¬ (8191 : Int32) < nI (s0 + 1) from nI_nlt (a := 8191) (by omega) (by decide))]
    refine run _ (s0 + 1) (by omega) (by omega) (fun q g1 g2 g3 => ?_) (fun j hj => ?_) (zup_eq _ _ _ _) ?_ (fun j hj => ?_)
    · rw [zup_row g1]; exact e2 q g2
    · rw [zup_nj hj]; exact congrFun (e2 27 (by decide)) j
    · rw [zup_row (by decide)]
    · obtain ⟨n, n1, n2⟩ := kn j hj
      exact ⟨n, (zup_ne (by decide)).trans n1, n2⟩
theorem KI_known {sc tg : Nat → Nat → Option Int} {bl : Nat → Int} {P Q s : Nat} {a : zA} (hs : s ≤ 8191) (h : a 27 10 = nI s) (hk : KI sc tg bl P Q s a) : rKnown (a 27) (a 33) := by
  refine ⟨s, hs, h, fun j hj => ?_⟩
  obtain ⟨n, n1, n2, -⟩ := hk j hj
  rw [n1, nI_toInt (by omega)]
  omega
theorem x_choose {sc tg : Nat → Nat → Option Int} {bl : Nat → Int} {P Q : Nat} {a : zA} {b : zB} (hB : opB sc tg bl) (hP : P ≤ 10) (hQ : Q ≤ 10) (h : SL sc tg bl P Q a) (hk : rKnown (a 27) (a 33)) : ∃ a', C_choose a b = okI (kI (opV sc tg bl P Q 0 0 10)) a' b ∧ (∀ q, q ≠ 27 → q ≠ 28 → q ≠ 32 → q ≠ 33 → a' q = a q) ∧ (∀ j, j ≠ 10 → a' 27 j = a 27 j) ∧ (∀ q, q < Q → a' 28 q = encW (filO sc tg bl P Q 0 0 10 q)) ∧ rKnown (a' 27) (a' 33) := by
  obtain ⟨a1, s, e1, e2, e3, ⟨h1, h2⟩, e4, e5⟩ := x_great (b := b) hB hP hQ h hk
  have p2 : 2 ^ P ≤ 1024 := Nat.pow_le_pow_right (by decide) hP
  have k0 := opV_0 hB (P := P)
  have loop : ∀ k p u l (a : zA) v, p + k = Q → u < 2 ^ P → (l < P ∨ l = 10) → SV sc tg bl P Q s a → KI sc tg bl P Q s a → ∃ a', C_choose_16 v (kI (opV sc tg bl P k p u l)) (nI u) (nI l) (nI p) a b = okI v a' b ∧ (∀ q, q ≠ 28 → q ≠ 33 → a' q = a q) ∧ (∀ q, q < p → a' 28 q = a 28 q) ∧ (∀ q, p ≤ q → q < Q → a' 28 q = encW (filO sc tg bl P k p u l q)) ∧ KI sc tg bl P Q s a' := by
    intro k
    induction k with
    | zero =>
      intro p u l a v hp hu hl hs hk
      have : p = Q := by omega
      subst this
      refine ⟨a, ?_, fun _ _ _ => rfl, fun _ _ => rfl, fun q g1 g2 => absurd g2 (by omega), hk⟩
      rw [q_C_choose_16, hs.1.2.1, zcond_f (nI_nlt (Nat.le_refl _) (by omega))]
      exact okI_ret _ _ _
    | succ k ih =>
      intro p u l a v hp hu hl hs hk
      obtain ⟨a2, f1, f2, f3⟩ := x_least (b := b) hB hP hQ h1 h2 hp hu hl hs hk
      obtain ⟨A, hA⟩ : ∃ A, A = zup a2 28 p (encW (chO sc tg bl P k p u l)) := ⟨_, rfl⟩
      have sA : SV sc tg bl P Q s A := SV_f hs (fun q hq => by rw [hA, zup_row (by omega)]; exact f2 q (by omega))
      have kA : KI sc tg bl P Q s A := fun j hj => by
        rw [hA, zup_row (by decide)]
        exact f3 j hj
      obtain ⟨u1, u2⟩ := usO_lt (sc := sc) (tg := tg) (bl := bl) (k := k) (p := p) (l := l) hu
      obtain ⟨a', y1, y2, y3, y4, y5⟩ := ih (p + 1) _ _ A v (by omega) u1 u2 sA kA
      refine ⟨a', ?_, fun q g1 g2 => ?_, fun q g1 => ?_, fun q g1 g2 => ?_, y5⟩
      · have hv := chO_v sc tg bl P k p u l
        have zp : zin (nI p) 10 = true := zin_nI (by omega) (by decide)
        have kp : (nI p).toNatClampNeg = p := nI_clamp (by omega)
        have nx : ∀ uu ll, nI uu = nI uu → C_choose_96 v (kI (opV sc tg bl P (k + 1) p u l - vaO sc tg bl p l (chO sc tg bl P k p u l))) (nI uu) (nI ll) (nI p) A b = C_choose_16 v (kI (opV sc tg bl P k (p + 1) (usO u (chO sc tg bl P k p u l)) (laO (chO sc tg bl P k p u l)))) (nI uu) (nI ll) (nI (p + 1)) A b := fun uu ll _ => by
          rw [q_C_choose_96, nI_1, show opV sc tg bl P (k + 1) p u l - vaO sc tg bl p l (chO sc tg bl P k p u l) = opV sc tg bl P k (p + 1) (usO u (chO sc tg bl P k p u l)) (laO (chO sc tg bl P k p u l)) from by omega]
        rw [q_C_choose_16, hs.1.2.1, zcond_t (nI_lt (by omega) (by omega)), f1, zcI_ok, zp, cond_true, kp, ← hA, cond_true]
        refine Eq.trans ?_ y1
        cases hc : chO sc tg bl P k p u l with
        | none =>
          rw [hc] at nx
          rw [zcond_t (show encW none = -1 from rfl), sA.1.2.2.2.2 p (by omega), kI_sub]
          exact nx u 10 rfl
        | some w =>
          obtain ⟨c1, c2, g, c3, c4⟩ := chO_some hc
          rw [hc] at nx
          rw [zcond_f (show ¬ encW (some w) = -1 from nI_m1 (by omega)), show encW (some w) = nI w from rfl, x_gain hB sA.1 hP hQ (by omega) c1 hl, zcI_ok, kI_sub, orB (by omega) (by omega)]
          exact nx (u ||| 2 ^ w) w rfl
      · rw [y2 q g1 g2, hA, zup_row g1]; exact f2 q g2
      · rw [y3 q (by omega), hA, zup_nj (by omega)]; exact congrFun (f2 28 (by decide)) q
      · show a' 28 q = encW (if q = p then chO sc tg bl P k p u l else filO sc tg bl P k (p + 1) (usO u (chO sc tg bl P k p u l)) (laO (chO sc tg bl P k p u l)) q)
        by_cases c : q = p
        · rw [if_pos c, y3 q (by omega), hA, c, zup_eq]
        · rw [if_neg c]
          exact y4 q (by omega) g2
  obtain ⟨a', y1, y2, y3, y4, y5⟩ := loop Q 0 0 10 a1 (kI (opV sc tg bl P Q 0 0 10)) (Nat.zero_add _) (Nat.two_pow_pos P) (.inr rfl) e4 e5
  refine ⟨a', ?_, fun q g1 g2 g3 g4 => (y2 q g2 g4).trans (e2 q g1 g3 g4), fun j hj => (congrFun (y2 27 (by decide) (by decide)) j).trans (e3 j hj), fun q hq => y4 q (Nat.zero_le _) hq, KI_known h2 ((congrFun (y2 27 (by decide) (by decide)) 10).trans e4.2.2) y5⟩
  rw [q_C_choose, e1, zcI_ok]
  exact y1
