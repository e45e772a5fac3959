/-! The class: which fillings fit a day ahead; parts; chains. -/
def pW (v : Int32) (F : Nat → Nat → Bool) : Prop := ∀ q w, q < 5 → w < 5 → hB v (5 * q + w) = F q w
theorem pW_c {v : Int32} {F F' : Nat → Nat → Bool} (h : pW v F) (e : ∀ q w, q < 5 → w < 5 → F q w = F' q w) : pW v F' := fun q w h1 h2 => (h q w h1 h2).trans (e q w h1 h2)
theorem pW_or {v v' : Int32} {F F' : Nat → Nat → Bool} (h : pW v F) (h' : pW v' F') : pW (v ||| v') (fun q w => F q w || F' q w) := fun q w h1 h2 => by rw [hB_or, h q w h1 h2, h' q w h1 h2]
theorem pW_and {v v' : Int32} {F F' : Nat → Nat → Bool} (h : pB v F) (h' : pW v' F') : (v &&& v' = 0) ↔ ∀ q w, q < 5 → w < 5 → F q w = true → F' q w = false := by
  constructor
  · intro e q w h1 h2 h3
    have g := hB_and v v' (5 * q + w)
    rw [e, hB_zero, h.1 q w h1 h2, h' q w h1 h2, h3, Bool.true_and] at g
    exact g.symm
  · intro e
    refine hB_ext fun i hi => ?_
    rw [hB_and, hB_zero]
    by_cases c : i < 25
    · obtain ⟨q, w, h1, h2, rfl⟩ := i25 c
      rw [h.1 q w h1 h2, h' q w h1 h2]
      cases g : F q w
      · rfl
      · rw [e q w h1 h2 g]; rfl
    · rw [h.2 i (by omega) hi]; rfl
theorem metB_s {E : Nat → Nat → Int32} {Q T S d w y : Nat} : metB E Q T S d w y = metB E Q T S d y w := by
  unfold metB
  refine aF_congr _ _ (fun e _ _ => aF_congr _ _ (fun p _ _ => ?_))
  unfold nbF
  exact Bool.or_comm _ _
def fitN (a : zA) (P Q T W S : Nat) (k i : Nat) : Bool := okU P Q (fAb P a) i && fiB a Q T W S k (nd (ALL P Q) i)
theorem kf_tab : ∀ n : Fin 3, (zrs zSH 45 n.val = true ∧ zrg zSH 45 n.val = 168 + n.val) ∧ zokc zSH (168 + n.val) 3 = true := by decide
theorem kf_rs {n : Nat} (h : n < 3) : zrs zSH 45 n = true := (kf_tab ⟨n, h⟩).1.1
theorem kf_rg {n : Nat} (h : n < 3) : zrg zSH 45 n = 168 + n := (kf_tab ⟨n, h⟩).1.2
theorem kf_k {n : Nat} (h : n < 3) : zokc zSH (168 + n) 3 = true := (kf_tab ⟨n, h⟩).2
theorem x_fit {P Q T W S k : Nat} {R : Nat → Nat → Bool} {A c : zA} {x : Int32} (hv : vw P Q T W S A c) (hP : P ≤ 5) (hQ : Q ≤ 5) (hk : k < 3) (b : zB) (hG : GX Q (ALL P Q) R A b) (hx : pB x (fun q w => decide (q < Q) && fAb P A w q)) : ∃ b', R_findFit (nI k) x A b = okV A b' ∧ (∀ j, j < 128 → hK b' (168 + k) j = (decide (j < (ALL P Q).length) && fitN A P Q T W S k j)) ∧ ∀ q, q ≠ 168 + k → b' q = b q := by
  obtain ⟨⟨-, -, t60, -⟩, ⟨⟨p1, -⟩, ⟨q1, -⟩, ⟨t1, -⟩, -⟩, -⟩ := id hv
  have hN := all_120 hP hQ
  have l36 : ∀ w, w < P → ∀ v5 m p v4 F4, p + m = Q → pW v4 F4 → ∃ v', R_findFit_36 (nI k) (nI (T + k)) v4 v5 (nI w) (nI p) A b = R_findFit_91 (nI k) (nI (T + k)) v' v5 (nI w) (nI (w + 1)) A b ∧ pW v' (fun q u => F4 q u || ((decide (u = w) && decide (p ≤ q ∧ q < Q)) && !decide (yWhy A T W Q w q (T + k) = 0))) := by
    intro w hw v5 m
    induction m with
    | zero =>
      intro p v4 F4 e h
      refine ⟨v4, ?_, pW_c h (fun q u _ _ => ?_)⟩
      · rw [q_R_findFit_36, q1, zcond_f (nI_nlt (by omega) (by omega)), nI_1]
      · rw [decide_eq_false (show ¬ (p ≤ q ∧ q < Q) by omega), Bool.and_false, Bool.false_and, Bool.or_false]
    | succ m ih =>
      intro p v4 F4 e h
      have k76 : ∀ u, R_findFit_76 (nI k) (nI (T + k)) v5 (nI w) (nI p) v4 u A b = R_findFit_36 (nI k) (nI (T + k)) (v4 ||| u) v5 (nI w) (nI (p + 1)) A b := fun u => by rw [q_R_findFit_76, nI_1]
      rw [q_R_findFit_36, q1, zcond_t (nI_lt (show p < Q by omega) (by omega)), v_whyX hv hw (by omega) (by omega), zcI_ok, k76]
      by_cases c0 : yWhy A T W Q w p (T + k) = 0
      · obtain ⟨v', y1, y2⟩ := ih (p + 1) (v4 ||| 0) _ (by omega) (pW_or h (pB_0).1)
        refine ⟨v', by rw [zcond_t c0]; exact y1, pW_c y2 (fun q u _ _ => ?_)⟩
        show ((F4 q u || false) || _) = _
        rw [Bool.or_false]
        congr 1
        by_cases d : q = p
        · rw [d, decide_eq_true c0, Bool.not_true, Bool.and_false, Bool.and_false]
        · congr 2
          rw [Bool.eq_iff_iff, decide_eq_true_iff, decide_eq_true_iff]
          omega
      · obtain ⟨u, z1, z2⟩ := x_place (x := nI w) (p := p) (.inr ⟨w, by omega, rfl⟩) (by omega) A b
        obtain ⟨v', y1, y2⟩ := ih (p + 1) (v4 ||| u) _ (by omega) (pW_or h z2.1)
        refine ⟨v', by rw [zcond_f c0, z1, zcI_ok, k76]; exact y1, pW_c y2 (fun q u _ hu => ?_)⟩
        show ((F4 q u || plF (nI w) p q u) || _) = _
        rw [Bool.or_assoc]
        congr 1
        unfold plF
        rw [Bool.eq_iff_iff]
        simp only [Bool.and_eq_true, Bool.or_eq_true, decide_eq_true_iff, Bool.not_eq_true', decide_eq_false_iff_not]
        rw [nI_eq (by omega) (by omega)]
        constructor
        · rintro (⟨g1, g2⟩ | ⟨⟨g1, g2, g3⟩, g4⟩)
          · exact ⟨⟨g2.symm, by omega, by omega⟩, by rw [g1]; exact c0⟩
          · exact ⟨⟨g1, by omega, g3⟩, g4⟩
        · rintro ⟨⟨g1, g2, g3⟩, g4⟩
          by_cases d : q = p
          · exact .inl ⟨d, g1.symm⟩
          · exact .inr ⟨⟨g1, by omega, g3⟩, g4⟩
  have l91 : ∀ w, w < P → ∀ v4 m y v5 F5, y + m = P → w < y → pW v5 F5 → ∃ v', R_findFit_91 (nI k) (nI (T + k)) v4 v5 (nI w) (nI y) A b = R_findFit_21 (nI k) (nI (T + k)) v4 v' (nI (w + 1)) A b ∧ pW v' (fun q u => F5 q u || ((decide (q = w) && decide (y ≤ u ∧ u < P)) && metB (xE A) Q T S (T + k) w u)) := by
    intro w hw v4 m
    induction m with
    | zero =>
      intro y v5 F5 e hy h
      refine ⟨v5, ?_, pW_c h (fun q u _ _ => ?_)⟩
      · rw [q_R_findFit_91, p1, zcond_f (nI_nlt (by omega) (by omega)), nI_1]
      · rw [decide_eq_false (show ¬ (y ≤ u ∧ u < P) by omega), Bool.and_false, Bool.false_and, Bool.or_false]
    | succ m ih =>
      intro y v5 F5 e hy h
      have k131 : ∀ u, R_findFit_131 (nI k) (nI (T + k)) v4 (nI w) (nI y) v5 u A b = R_findFit_91 (nI k) (nI (T + k)) v4 (v5 ||| u) (nI w) (nI (y + 1)) A b := fun u => by rw [q_R_findFit_131, nI_1]
      rw [q_R_findFit_91, p1, zcond_t (nI_lt (show y < P by omega) (by omega)), v_mayX hv hw (by omega) (by omega), zcI_ok, zc_b0, k131]
      cases c0 : metB (xE A) Q T S (T + k) w y
      · obtain ⟨v', y1, y2⟩ := ih (y + 1) (v5 ||| 0) _ (by omega) (by omega) (pW_or h (pB_0).1)
        refine ⟨v', y1, pW_c y2 (fun q u _ _ => ?_)⟩
        show ((F5 q u || false) || _) = _
        rw [Bool.or_false]
        congr 1
        by_cases d : u = y
        · rw [d, c0, Bool.and_false, Bool.and_false]
        · congr 2
          rw [Bool.eq_iff_iff, decide_eq_true_iff, decide_eq_true_iff]
          omega
      · obtain ⟨z, z1, z2⟩ := x_pair (x := nI w) (y := nI y) (.inr ⟨w, by omega, rfl⟩) (.inr ⟨y, by omega, rfl⟩) A b
        obtain ⟨v', y1, y2⟩ := ih (y + 1) (v5 ||| z) _ (by omega) (by omega) (pW_or h z2.1)
        refine ⟨v', by rw [Bool.not_true, cond_false, z1, zcI_ok, k131]; exact y1, pW_c y2 (fun q u hq hu => ?_)⟩
        show ((F5 q u || prF (nI w) (nI y) q u) || _) = _
        rw [Bool.or_assoc]
        congr 1
        unfold prF
        rw [Bool.eq_iff_iff]
        simp only [Bool.and_eq_true, Bool.or_eq_true, decide_eq_true_iff]
        rw [nI_5 (by omega) hq, nI_5 (by omega) hu, nI_5 (by omega) hu, nI_5 (by omega) hq]
        constructor
        · rintro (⟨g1, g2 | g2⟩ | ⟨⟨g1, g2, g3⟩, g4⟩)
          · exact ⟨⟨by omega, by omega, by omega⟩, by rw [← g2.2]; exact c0⟩
          · omega
          · exact ⟨⟨g1, by omega, g3⟩, g4⟩
        · rintro ⟨⟨g1, g2, g3⟩, g4⟩
          by_cases d : u = y
          · exact .inl ⟨by omega, .inl ⟨by omega, by omega⟩⟩
          · exact .inr ⟨⟨g1, by omega, g3⟩, g4⟩
  have l21 : ∀ m w v4 v5 F4 F5, w + m = P → pW v4 F4 → pW v5 F5 → ∃ v4' v5', R_findFit_21 (nI k) (nI (T + k)) v4 v5 (nI w) A b = R_findFit_21 (nI k) (nI (T + k)) v4' v5' (nI P) A b ∧ pW v4' (fun q u => F4 q u || (decide (w ≤ u ∧ u < P) && (decide (q < Q) && !decide (yWhy A T W Q u q (T + k) = 0)))) ∧ pW v5' (fun q u => F5 q u || (decide (w ≤ q ∧ q < u ∧ u < P) && metB (xE A) Q T S (T + k) q u)) := by
    intro m
    induction m with
    | zero =>
      intro w v4 v5 F4 F5 e h4 h5
      have : w = P := by omega
      subst this
      refine ⟨v4, v5, rfl, pW_c h4 (fun q u _ _ => ?_), pW_c h5 (fun q u _ _ => ?_)⟩
      · rw [decide_eq_false (show ¬ (w ≤ u ∧ u < w) by omega), Bool.false_and, Bool.or_false]
      · rw [decide_eq_false (show ¬ (w ≤ q ∧ q < u ∧ u < w) by omega), Bool.false_and, Bool.or_false]
    | succ m ih =>
      intro w v4 v5 F4 F5 e h4 h5
      obtain ⟨v4', z1, z2⟩ := l36 w (by omega) v5 Q 0 v4 F4 (Nat.zero_add _) h4
      obtain ⟨v5', z3, z4⟩ := l91 w (by omega) v4' (P - (w + 1)) (w + 1) v5 F5 (by omega) (Nat.lt_succ_self w) h5
      obtain ⟨v4'', v5'', y1, y2, y3⟩ := ih (w + 1) v4' v5' _ _ (by omega) z2 z4
      refine ⟨v4'', v5'', ?_, pW_c y2 (fun q u _ _ => ?_), pW_c y3 (fun q u _ _ => ?_)⟩
      · rw [q_R_findFit_21, p1, zcond_t (nI_lt (show w < P by omega) (by omega)), show (0 : Int32) = nI 0 from rfl, z1, z3, y1]
      · rw [Bool.or_assoc]
        congr 1
        rw [Bool.eq_iff_iff]
        simp only [Bool.and_eq_true, Bool.or_eq_true, decide_eq_true_iff]
        constructor
        · rintro (⟨⟨g1, g2, g3⟩, g4⟩ | ⟨⟨g1, g2⟩, g3, g4⟩)
          · exact ⟨⟨by omega, by omega⟩, g3, by rw [g1]; exact g4⟩
          · exact ⟨⟨by omega, g2⟩, g3, g4⟩
        · rintro ⟨⟨g1, g2⟩, g3, g4⟩
          by_cases d : u = w
          · exact .inl ⟨⟨d, Nat.zero_le _, g3⟩, by rw [← d]; exact g4⟩
          · exact .inr ⟨⟨by omega, g2⟩, g3, g4⟩
      · rw [Bool.or_assoc]
        congr 1
        rw [Bool.eq_iff_iff]
        simp only [Bool.and_eq_true, Bool.or_eq_true, decide_eq_true_iff]
        constructor
        · rintro (⟨⟨g1, g2, g3⟩, g4⟩ | ⟨⟨g1, g2, g3⟩, g4⟩)
          · exact ⟨⟨by omega, by omega, g3⟩, by rw [g1]; exact g4⟩
          · exact ⟨⟨by omega, g2, g3⟩, g4⟩
        · rintro ⟨⟨g1, g2, g3⟩, g4⟩
          by_cases d : q = w
          · exact .inl ⟨⟨d, by omega, g3⟩, by rw [← d]; exact g4⟩
          · exact .inr ⟨⟨by omega, g2, g3⟩, g4⟩
  have n0 : pW (x ^^^ (-1)) (fun q w => !(decide (q < Q) && fAb P A w q)) := fun q w h1 h2 => by rw [hB_xor1 _ (by omega), hx.1 q w h1 h2]
  obtain ⟨v4, v5, y1, y2, y3⟩ := l21 P 0 (x ^^^ (-1)) 0 _ _ (Nat.zero_add _) n0 (pB_0).1
  -- the tests
  have t4 : ∀ i, i < (ALL P Q).length → decide ((A 38 i) &&& v4 = 0) = (okU P Q (fAb P A) i && !aF (fun p => !decide (yWhy A T W Q (nd (ALL P Q) i p) p (T + k) = 0)) 0 Q) := fun i hi => by
    have h5 := all_lt5 hP i hi
    have hPp : ∀ q, q < Q → nd (ALL P Q) i q < P := fun q hq => enN_lt Q 0 0 _ (nd_mem hi) q (Nat.zero_le _) (by omega)
    rw [Bool.eq_iff_iff, decide_eq_true_iff, pW_and (hG.2.1 i hi).1 y2, Bool.and_eq_true, Bool.not_eq_true']
    have at1 : ∀ q, q < Q → atF Q (VL (ALL P Q) i) q (nd (ALL P Q) i q) = true := fun q hq => by
      unfold atF
      rw [decide_eq_true hq, Bool.true_and, decide_eq_true_iff]
      rfl
    constructor
    · intro h
      refine ⟨?_, Bool.eq_false_iff.mpr fun z => ?_⟩
      · unfold okU okN
        rw [Bool.not_eq_true']
        refine Bool.eq_false_iff.mpr fun z => ?_
        obtain ⟨q, _, hq, g⟩ := (aF_i _ _).mp z
        have := h q _ (by omega) (h5 q (by omega)) (at1 q (by omega))
        rw [Bool.or_eq_false_iff, decide_eq_true (show q < Q by omega), Bool.true_and] at this
        rw [this.1] at g
        exact absurd g (by decide)
      · obtain ⟨q, _, hq, g⟩ := (aF_i _ _).mp z
        have := h q _ (by omega) (h5 q (by omega)) (at1 q (by omega))
        rw [Bool.or_eq_false_iff, g, decide_eq_true (show q < Q by omega), decide_eq_true (show 0 ≤ nd (ALL P Q) i q ∧ nd (ALL P Q) i q < P from ⟨Nat.zero_le _, hPp q (by omega)⟩)] at this
        exact absurd this.2 (by decide)
    · rintro ⟨h1, h2⟩ q w g1 g2 g3
      unfold atF at g3
      rw [Bool.and_eq_true, decide_eq_true_iff, decide_eq_true_iff] at g3
      have ew : nd (ALL P Q) i q = w := (nI_5 (h5 q g3.1) g2).mp g3.2
      unfold okU okN at h1
      rw [Bool.not_eq_true'] at h1
      have a1 : fAb P A w q = true := by
        cases c0 : fAb P A w q
        · have : aF (fun q => !fAb P A (nd (ALL P Q) i q) q) 0 Q = true := (aF_i _ _).mpr ⟨q, Nat.zero_le _, by omega, by rw [ew, c0]; rfl⟩
          rw [h1] at this
          exact absurd this (by decide)
        · rfl
      have a2 : decide (yWhy A T W Q w q (T + k) = 0) = true := by
        cases c0 : decide (yWhy A T W Q w q (T + k) = 0)
        · have : aF (fun p => !decide (yWhy A T W Q (nd (ALL P Q) i p) p (T + k) = 0)) 0 Q = true := (aF_i _ _).mpr ⟨q, Nat.zero_le _, by omega, by rw [ew, c0]; rfl⟩
          rw [h2] at this
          exact absurd this (by decide)
        · rfl
      rw [a1, a2, decide_eq_true g3.1, Bool.not_true, Bool.and_false, Bool.and_false]
      rfl
  have t5 : ∀ i, i < (ALL P Q).length → decide ((A 39 i) &&& v5 = 0) = !aF (fun p => decide (0 < p) && metB (xE A) Q T S (T + k) (nd (ALL P Q) i (p - 1)) (nd (ALL P Q) i p)) 0 Q := fun i hi => by
    have h5 := all_lt5 hP i hi
    have hPp : ∀ q, q < Q → nd (ALL P Q) i q < P := fun q hq => enN_lt Q 0 0 _ (nd_mem hi) q (Nat.zero_le _) (by omega)
    rw [Bool.eq_iff_iff, decide_eq_true_iff, pW_and (hG.2.1 i hi).2 y3, Bool.not_eq_true']
    constructor
    · intro h
      refine Bool.eq_false_iff.mpr fun z => ?_
      obtain ⟨p, _, hp, g⟩ := (aF_i _ _).mp z
      rw [Bool.and_eq_true, decide_eq_true_iff] at g
      have ne := all_inj hi (show p - 1 < Q by omega) (show p < Q by omega) (by omega)
      have b1 := hPp (p - 1) (by omega)
      have b2 := hPp p (by omega)
      have key : ∀ q w, q < w → w < P → metB (xE A) Q T S (T + k) q w = true → neF Q (VL (ALL P Q) i) q w = true → False := fun q w g1 g2 g3 g4 => by
        have := h q w (by omega) (by omega) g4
        rw [Bool.or_eq_false_iff, g3, decide_eq_true (show 0 ≤ q ∧ q < w ∧ w < P by omega)] at this
        exact absurd this.2 (by decide)
      have ne1 : ∀ q w, q ≤ w → ((nd (ALL P Q) i (p - 1) = q ∧ nd (ALL P Q) i p = w) ∨ (nd (ALL P Q) i (p - 1) = w ∧ nd (ALL P Q) i p = q)) → neF Q (VL (ALL P Q) i) q w = true := fun q w g1 g2 => (aF_i _ _).mpr ⟨p, by omega, by omega, by
        unfold prF VL
        rw [decide_eq_true g1, Bool.true_and]
        rcases g2 with ⟨rfl, rfl⟩ | ⟨rfl, rfl⟩
        · rw [decide_eq_true rfl, decide_eq_true rfl]; rfl
        · rw [decide_eq_true (show nI (nd (ALL P Q) i (p - 1)) = nI (nd (ALL P Q) i (p - 1)) from rfl), decide_eq_true (show nI (nd (ALL P Q) i p) = nI (nd (ALL P Q) i p) from rfl), Bool.and_true, Bool.or_true]⟩
      by_cases c0 : nd (ALL P Q) i (p - 1) < nd (ALL P Q) i p
      · exact key _ _ c0 b2 g.2 (ne1 _ _ (by omega) (.inl ⟨rfl, rfl⟩))
      · exact key _ _ (show nd (ALL P Q) i p < nd (ALL P Q) i (p - 1) by omega) b1 (by rw [metB_s]; exact g.2) (ne1 _ _ (by omega) (.inr ⟨rfl, rfl⟩))
    · intro h q w g1 g2 g3
      obtain ⟨p, p1', p2', g⟩ := (aF_i _ _).mp g3
      refine Bool.eq_false_iff.mpr fun z => ?_
      rw [Bool.or_eq_true] at z
      rcases z with z | z
      · exact absurd z (by decide)
      · rw [Bool.and_eq_true, decide_eq_true_iff] at z
        unfold prF VL at g
        simp only [Bool.and_eq_true, Bool.or_eq_true, decide_eq_true_iff] at g
        rw [nI_5 (h5 _ (by omega)) g1, nI_5 (h5 _ (by omega)) g2, nI_5 (h5 _ (by omega)) g2, nI_5 (h5 _ (by omega)) g1] at g
        have m : metB (xE A) Q T S (T + k) (nd (ALL P Q) i (p - 1)) (nd (ALL P Q) i p) = true := by
          rcases g.2 with ⟨e1, e2⟩ | ⟨e1, e2⟩
          · rw [e1, e2]; exact z.2
          · rw [e1, e2, metB_s]; exact z.2
        have : aF (fun p => decide (0 < p) && metB (xE A) Q T S (T + k) (nd (ALL P Q) i (p - 1)) (nd (ALL P Q) i p)) 0 Q = true := (aF_i _ _).mpr ⟨p, Nat.zero_le _, by omega, by rw [m, decide_eq_true (show 0 < p by omega)]; rfl⟩
        rw [h] at this
        exact absurd this (by decide)
  have tst : ∀ i, i < (ALL P Q).length → (decide ((A 38 i) &&& v4 = 0) && decide ((A 39 i) &&& v5 = 0)) = fitN A P Q T W S k i := fun i hi => by
    rw [t4 i hi, t5 i hi]
    unfold fitN fiB
    rw [Bool.and_assoc]
    congr 1
    rw [← Bool.not_or]
    congr 1
    rw [Bool.eq_iff_iff, Bool.or_eq_true, aF_i, aF_i, aF_i]
    constructor
    · rintro (⟨p, h1, h2, h3⟩ | ⟨p, h1, h2, h3⟩)
      · exact ⟨p, h1, h2, by rw [h3]; rfl⟩
      · exact ⟨p, h1, h2, by rw [h3, Bool.or_true]⟩
    · rintro ⟨p, h1, h2, h3⟩
      rw [Bool.or_eq_true] at h3
      rcases h3 with h3 | h3
      · exact .inl ⟨p, h1, h2, h3⟩
      · exact .inr ⟨p, h1, h2, h3⟩
  have nx : ∀ i b, R_findFit_204 (nI k) v4 v5 (nI i) A b = R_findFit_158 (nI k) v4 v5 (nI (i + 1)) A b := fun i b => by rw [q_R_findFit_204, nI_1]
  have loop : ∀ m i b0, i + m = (ALL P Q).length → (∀ j, j < 128 → hK b0 (168 + k) j = (decide (j < i) && fitN A P Q T W S k j)) → ∃ b', R_findFit_158 (nI k) v4 v5 (nI i) A b0 = okV A b' ∧ (∀ j, j < 128 → hK b' (168 + k) j = (decide (j < (ALL P Q).length) && fitN A P Q T W S k j)) ∧ ∀ q, q ≠ 168 + k → b' q = b0 q := by
    intro m
    induction m with
    | zero =>
      intro i b0 e h
      have : i = (ALL P Q).length := by omega
      rw [this] at h ⊢
      refine ⟨b0, ?_, h, fun _ _ => rfl⟩
      rw [q_R_findFit_158, hG.1.1, zcond_f (nI_nlt (Nat.le_refl _) (by omega))]
      exact okV_ret _ _
    | succ m ih =>
      intro i b0 e h
      have hi : i < (ALL P Q).length := by omega
      have e0 : R_findFit_158 (nI k) v4 v5 (nI i) A b0 = cond (fitN A P Q T W S k i) (R_findFit_158 (nI k) v4 v5 (nI (i + 1)) A (addK b0 (168 + k) i)) (R_findFit_158 (nI k) v4 v5 (nI (i + 1)) A b0) := by
        rw [q_R_findFit_158, hG.1.1, zcond_t (nI_lt hi (by omega)), zin_nI (n := 120) (by omega) (by decide), cond_true, cond_true, show (nI i).toNatClampNeg = i from nI_clamp (by omega), zin_nI (n := 3) hk (by decide), show (nI k).toNatClampNeg = k from nI_clamp (by omega), kf_rs hk, kf_rg hk, kf_k hk, k_add (kf_k hk) (by omega), zcV_ok, nx, nx, ← tst i hi]
        cases decide ((A 38 i) &&& v4 = 0) <;> cases decide ((A 39 i) &&& v5 = 0) <;> rfl
      rw [e0]
      cases c0 : fitN A P Q T W S k i
      · refine ih (i + 1) b0 (by omega) (fun n hn => ?_)
        rw [h n hn]
        by_cases d : n = i
        · rw [d, c0, Bool.and_false, Bool.and_false]
        · congr 1
          rw [Bool.eq_iff_iff, decide_eq_true_iff, decide_eq_true_iff]
          omega
      · obtain ⟨b', w1, w2, w3⟩ := ih (i + 1) (addK b0 (168 + k) i) (by omega) (fun n hn => by
          rw [hK_add (by omega) hn, h n hn]
          by_cases d : n = i
          · rw [d, c0, decide_eq_true rfl, decide_eq_true (Nat.lt_succ_self i), Bool.or_true]; rfl
          · rw [decide_eq_false d, Bool.or_false]
            congr 1
            rw [Bool.eq_iff_iff, decide_eq_true_iff, decide_eq_true_iff]
            omega)
        exact ⟨b', w1, w2, fun q hq => (w3 q hq).trans (addK_q hq)⟩
  obtain ⟨c1, c2⟩ := k_clear (kf_k hk) A b
  obtain ⟨b1, hb1⟩ : ∃ b1, b1 = zupB (zupB b (168 + k) 0 0) (168 + k) 1 0 := ⟨_, rfl⟩
  rw [← hb1] at c1 c2
  obtain ⟨b', w1, w2, w3⟩ := loop (ALL P Q).length 0 b1 (Nat.zero_add _) (fun n hn => by rw [c2 n]; rfl)
  have qb : ∀ q, q ≠ 168 + k → b1 q = b q := fun q hq => by
    rw [hb1]
    funext j
    unfold zupB
    rw [if_neg (fun z => hq z.1), if_neg (fun z => hq z.1)]
  refine ⟨b', ?_, w2, fun q hq => (w3 q hq).trans (qb q hq)⟩
  rw [q_R_findFit, t1, nI_add, show (0 : Int32) = nI 0 from rfl, show R_findFit_21 (nI k) (nI (T + k)) (x ^^^ (-1)) (nI 0) (nI 0) A b = _ from y1, q_R_findFit_21, p1, zcond_f (nI_nlt (Nat.le_refl _) (by omega)), zin_nI (n := 3) hk (by decide), show (nI k).toNatClampNeg = k from nI_clamp (by omega), kf_rs hk, kf_rg hk, kf_k hk, show ∀ x y : zR, cond (true && true) (cond (cond true true false) x y) y = x from fun _ _ => rfl, c1, zcV_ok]
  exact w1
