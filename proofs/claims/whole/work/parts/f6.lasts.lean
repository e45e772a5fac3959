/-! The call lasts. -/
theorem and_cI (x y : Int32) : x &&& y = y &&& x := hB_ext fun i _ => by rw [hB_and, hB_and, Bool.and_comm]
theorem rOne5 {P : Nat} {x : Int32} (hP : P ≤ 5) (h : rOne P x) : rOne 5 x := h.imp id (fun ⟨w, h1, h2⟩ => ⟨w, by omega, h2⟩)
theorem x_yest {P Q T W S : Nat} {a : zA} {c : zA} {l : List (Nat → Nat)} {R : Nat → Nat → Bool} {F : Nat → Bool} {b : zB} (hv : vw P Q T W S a c) (hP : P ≤ 5) (hQ : Q ≤ 5) (hT : 0 < T) (hl : l.length ≤ 120) (hp : perL Q l) (hG : GX Q l R a b) (hF : rB 42 l.length F b) : ∃ b', R_keepBehindYesterday a b = okV a b' ∧ rB 42 l.length (fun i => F i && folB W S (a 8 3) (a 10) Q (xE a (T - 1)) (VL l i)) b' ∧ ∀ q, q ≠ 42 → b' q = b q := by
  have row := vw_row hv (T - 1) (by omega)
  obtain ⟨⟨-, -, t60, w9, s9⟩, ⟨-, ⟨q1, -⟩, ⟨t1, -⟩, ⟨w1, -⟩, s1, -⟩, -⟩ := id hv
  obtain ⟨V, eV⟩ : ∃ V, V = xE a (T - 1) := ⟨_, rfl⟩
  rw [← eV] at row ⊢
  have hV : ∀ p, p < Q → rOne 5 (V p) := fun p hpq => rOne5 hP (row.1 p hpq)
  have eT : nI T - 1 = nI (T - 1) := pk_sub (b := 1) hT
  have l1 : ∀ k p v u F1 F2, p + k = Q → pB v F1 → pB u F2 → ∃ v' u', R_keepBehindYesterday_6 v u (nI p) a b = R_keepBehindYesterday_6 v' u' (nI Q) a b ∧ pB v' (fun q w => F1 q w || aF (fun p => baF W (a 8 3) (a 10) Q (V p) p q w) p k) ∧ pB u' (fun q w => F2 q w || aF (fun p => prF (cond (decide (0 < p)) (V (p - 1)) (-1)) (V p) q w) p k) := by
    intro k
    induction k with
    | zero =>
      intro p v u F1 F2 e h1 h2
      have : p = Q := by omega
      subst this
      exact ⟨v, u, rfl, pB_c h1 (fun q w _ _ => (Bool.or_false _).symm), pB_c h2 (fun q w _ _ => (Bool.or_false _).symm)⟩
    | succ k ih =>
      intro p v u F1 F2 e h1 h2
      have hpQ : p < Q := by omega
      have r2 : rOne 5 (cond (decide (0 < p)) (V (p - 1)) (-1)) := by
        by_cases c : 0 < p
        · rw [decide_eq_true c]; exact hV (p - 1) (by omega)
        · rw [decide_eq_false c]; exact .inl rfl
      obtain ⟨y2, z1, z2⟩ := x_barTo (b := b) (x := V p) (p := p) hQ q1 w1 w9 (hV p hpQ) hpQ
      obtain ⟨y4, z3, z4⟩ := x_pair r2 (hV p hpQ) a b
      obtain ⟨v', u', w1', w2', w3'⟩ := ih (p + 1) (v ||| y2) (u ||| y4) _ _ (by omega) (pB_or h1 z2) (pB_or h2 z4)
      refine ⟨v', u', ?_, pB_c w2' (fun q w _ _ => Bool.or_assoc _ _ _), pB_c w3' (fun q w _ _ => Bool.or_assoc _ _ _)⟩
      rw [q_R_keepBehindYesterday_6, q1, zcond_t (nI_lt hpQ (by omega)), t1, eT, s_onePlaced (show T - 1 ≤ 60 by omega) (show p < 10 by omega), zcI_ok, show a 13 (10 * (T - 1) + p) = V p by rw [eV]; rfl, z1, zcI_ok, t1, eT, x_oneL (show T - 1 ≤ 60 by omega) (show p < 10 by omega), zcI_ok, ← eV, z3, zcI_ok, nI_1, w1']
  obtain ⟨v, u, y1, y2, y3⟩ := l1 Q 0 0 0 _ _ (Nat.zero_add _) pB_0 pB_0
  have y2' : pB v (beF W (a 8 3) (a 10) Q V) := pB_c y2 (fun q w _ _ => Bool.false_or _)
  have y3' : pB u (neF Q V) := pB_c y3 (fun q w hq hw => by
    rw [Bool.false_or]
    unfold neF
    rw [Bool.eq_iff_iff, aF_i, aF_i]
    constructor
    · rintro ⟨p, h1, h2, h3⟩
      by_cases c : 0 < p
      · rw [decide_eq_true c, cond_true] at h3
        exact ⟨p, c, by omega, h3⟩
      · rw [decide_eq_false c, cond_false] at h3
        unfold prF at h3
        rw [decide_eq_false (show ¬ (-1 : Int32) = nI q from fun z => nI_m1 (by omega) z.symm), decide_eq_false (show ¬ (-1 : Int32) = nI w from fun z => nI_m1 (by omega) z.symm), Bool.false_and, Bool.false_and, Bool.or_false, Bool.and_false] at h3
        exact absurd h3 (by decide)
    · rintro ⟨p, h1, h2, h3⟩
      exact ⟨p, Nat.zero_le _, by omega, by rw [decide_eq_true (show 0 < p by omega), cond_true]; exact h3⟩)
  have l2 : ∀ u', (∀ i, i < l.length → decide ((a 39 i) &&& u' = 0) = !(decide (0 < S) && metP Q V (VL l i))) → ∀ k i b0, i + k = l.length → (∀ q, q ≠ 42 → b0 q = b q) → (∀ n, n < 128 → hK b0 42 n = (decide (n < l.length) && (F n && (decide (i ≤ n) || folB W S (a 8 3) (a 10) Q V (VL l n))))) → ∃ b', R_keepBehindYesterday_95 v u' (nI i) a b0 = okV a b' ∧ rB 42 l.length (fun i => F i && folB W S (a 8 3) (a 10) Q V (VL l i)) b' ∧ ∀ q, q ≠ 42 → b' q = b q := by
    intro u' hu' k
    induction k with
    | zero =>
      intro i b0 e e1 e2
      have : i = l.length := by omega
      subst this
      refine ⟨b0, ?_, fun n hn => ?_, e1⟩
      · rw [q_R_keepBehindYesterday_95, hG.1.1, zcond_f (nI_nlt (Nat.le_refl _) (by omega))]
        exact okV_ret _ _
      · rw [e2 n hn]
        by_cases c : n < l.length
        · rw [decide_eq_false (show ¬ l.length ≤ n by omega), Bool.false_or]
        · rw [decide_eq_false c, Bool.false_and, Bool.false_and]
    | succ k ih =>
      intro i b0 e e1 e2
      have hi : i < l.length := by omega
      have nx : ∀ b, R_keepBehindYesterday_133 v u' (nI i) a b = R_keepBehindYesterday_95 v u' (nI (i + 1)) a b := fun b => by rw [q_R_keepBehindYesterday_133, nI_1]
      obtain ⟨b1, z1, z2, z3⟩ := k_remove (m := i) kc_42 (by omega) a b0
      have e0 : R_keepBehindYesterday_95 v u' (nI i) a b0 = cond (folB W S (a 8 3) (a 10) Q V (VL l i)) (R_keepBehindYesterday_95 v u' (nI (i + 1)) a b0) (R_keepBehindYesterday_95 v u' (nI (i + 1)) a b1) := by
        rw [q_R_keepBehindYesterday_95, hG.1.1, zcond_t (nI_lt hi (by omega)), zin_nI (n := 120) (by omega) (by decide), cond_true, cond_true, show (nI i).toNatClampNeg = i from nI_clamp (by omega), and_cI (a 38 i) v, hit_bits hQ (hp i hi) y2' (hG.2.1 i hi).1, hu' i hi, q_R_keepBehindYesterday_125, z1, zcV_ok, nx, nx]
        unfold folB
        cases aF (hitB W (a 8 3) (a 10) Q V (VL l i)) 0 Q <;> cases decide (0 < S) && metP Q V (VL l i) <;> rfl
      rw [e0]
      cases c : folB W S (a 8 3) (a 10) Q V (VL l i)
      · refine ih (i + 1) b1 (by omega) (fun q hq => (z3 q hq).trans (e1 q hq)) (fun n hn => ?_)
        rw [z2 n hn, e2 n hn]
        by_cases d : n = i
        · rw [d, c, decide_eq_true rfl, decide_eq_false (show ¬ i + 1 ≤ i by omega)]
          cases decide (i < l.length) <;> cases F i <;> cases decide (i ≤ i) <;> rfl
        · rw [decide_eq_false d, Bool.not_false, Bool.and_true, show decide (i ≤ n) = decide (i + 1 ≤ n) by rw [Bool.eq_iff_iff, decide_eq_true_iff, decide_eq_true_iff]; omega]
      · refine ih (i + 1) b0 (by omega) e1 (fun n hn => ?_)
        rw [e2 n hn]
        by_cases d : n = i
        · rw [d, c, Bool.or_true, Bool.or_true]
        · rw [show decide (i ≤ n) = decide (i + 1 ≤ n) by rw [Bool.eq_iff_iff, decide_eq_true_iff, decide_eq_true_iff]; omega]
  have fin : ∀ u', (∀ i, i < l.length → decide ((a 39 i) &&& u' = 0) = !(decide (0 < S) && metP Q V (VL l i))) → ∃ b', R_keepBehindYesterday_93 v u' a b = okV a b' ∧ rB 42 l.length (fun i => F i && folB W S (a 8 3) (a 10) Q V (VL l i)) b' ∧ ∀ q, q ≠ 42 → b' q = b q := fun u' hu' => by
    rw [q_R_keepBehindYesterday_93]
    exact l2 u' hu' l.length 0 b (Nat.zero_add _) (fun _ _ => rfl) (fun n hn => by rw [hF n hn, decide_eq_true (Nat.zero_le n), Bool.true_or, Bool.and_true])
  rw [q_R_keepBehindYesterday, show R_keepBehindYesterday_6 0 0 0 a b = _ from y1, q_R_keepBehindYesterday_6, q1, zcond_f (nI_nlt (Nat.le_refl _) (by omega)), show zin 1 2 = true from rfl, cond_true, show (1 : Int32).toNatClampNeg = 1 from rfl, s1]
  by_cases c : S = 0
  · rw [c, zcond_t (show nI 0 = 0 from rfl)]
    rw [c] at fin
    exact fin 0 (fun i hi => decide_eq_true (by
      refine hB_ext fun j _ => ?_
      rw [hB_and, hB_zero, Bool.and_false]))
  · rw [zcond_f (show ¬ nI S = 0 from fun z => c ((nI_eq (b := 0) (by omega) (by decide)).mp z))]
    exact fin u (fun i hi => by rw [and_cI (a 39 i) u, met_bits hQ (hp i hi) y3' (hG.2.1 i hi).2, decide_eq_true (show 0 < S by omega), Bool.true_and])
/-- day by day -/
def advN (n : Nat) (R : Nat → Nat → Bool) (U F : Nat → Bool) : Nat → Bool := fun x => U x && aF (fun y => F y && R y x) 0 n
def lyr (n : Nat) (R : Nat → Nat → Bool) (U F : Nat → Bool) : Nat → Nat → Bool
  | 0 => F
  | d + 1 => advN n R U (lyr n R U F d)
def stp (g : Nat → Bool) : Nat → Nat → Nat
  | 0, d => d
  | k + 1, d => cond (g d) d (stp g k (d + 1))
theorem stp_c {g h : Nat → Bool} (e : ∀ d, g d = h d) : ∀ k d, stp g k d = stp h k d
  | 0, _ => rfl
  | k + 1, d => by
    unfold stp
    rw [e d, stp_c e k]
theorem x_days {N : Nat} {R : Nat → Nat → Bool} {U F : Nat → Bool} {A : zA} (hN : N ≤ 120) (h18 : A 35 18 = nI N) : ∀ k d b, d + k = 20 → nxB N R b → rB 41 N U b → rB 42 N (lyr N R U F d) b → ∃ b', R_daysFromYesterday_27 (nI d) A b = okI (nI (stp (fun d => decide (cnt (lyr N R U F d) N = 0)) k d)) A b' := by
  intro k
  induction k with
  | zero =>
    intro d b e hn hU hF
    have : d = 20 := by omega
    subst this
    refine ⟨b, ?_⟩
    rw [q_R_daysFromYesterday_27, zcond_f (show ¬ nI 20 < 20 by decide)]
    exact okI_ret _ _ _
  | succ k ih =>
    intro d b e hn hU hF
    have hc := cnt_le (lyr N R U F d) N
    rw [q_R_daysFromYesterday_27, zcond_t (show nI d < 20 from nI_lt (b := 20) (by omega) (by decide)), k_size kc_42, zcI_ok, cnt_128 hN hF]
    by_cases c : cnt (lyr N R U F d) N = 0
    · refine ⟨b, ?_⟩
      rw [c, zcond_t (show nI 0 = 0 from rfl)]
      show _ = okI (nI (cond (decide (cnt (lyr N R U F d) N = 0)) d _)) A b
      rw [decide_eq_true c]
      exact okI_ret _ _ _
    · obtain ⟨b1, y1, y2, y3⟩ := x_adv hN h18 hn hU hF
      obtain ⟨b', z1⟩ := ih (d + 1) b1 (by omega) (nx_f hn (fun q hq => y3 q (by omega) (by omega))) (rB_q hU (y3 41 (by decide) (by decide))) y2
      refine ⟨b', ?_⟩
      rw [zcond_f (show ¬ nI (cnt (lyr N R U F d) N) = 0 from fun z => c ((nI_eq (b := 0) (by omega) (by decide)).mp z)), y1, zcV_ok, nI_1, z1]
      show _ = okI (nI (cond (decide (cnt (lyr N R U F d) N = 0)) d _)) A b'
      rw [decide_eq_false c]
      rfl
/-! The reference. -/
def JT (q L : Nat) (T : Nat → Bool) (C : zA) : Prop := ∀ x, x < L → C q x = bI (T x)
def FJ (C C0 : zA) : Prop := ∀ q, q ≠ 227 → q ≠ 228 → C q = C0 q
theorem m_dayN {L : Nat} {R : Nat → Nat → Bool} {T : Nat → Bool} {C0 : zA} {n : Nat} (b : zB) (hL : L ≤ 120) (h47 : C0 194 47 = nI L) (hR : LD L R C0) : ∀ k x C (v : Bool), x + k = L → FJ C C0 → JT 227 L T C → (∀ y, y < x → C 228 y = bI (advN L R (fun _ => true) T y)) → ∃ C', M_lasts_114 (bI v) (nI n) (nI x) C b = M_lasts_219 (bI (v || aF (advN L R (fun _ => true) T) x k)) (nI n) 0 C' b ∧ FJ C' C0 ∧ JT 228 L (advN L R (fun _ => true) T) C' := by
  intro k
  induction k with
  | zero =>
    intro x C v e hF hT hN
    have : x = L := by omega
    subst this
    refine ⟨C, ?_, hF, hN⟩
    rw [q_M_lasts_114, hF 194 (by decide) (by decide), h47, zcond_f (nI_nlt (Nat.le_refl _) (by omega))]
    show _ = M_lasts_219 (bI (v || false)) (nI n) 0 C b
    rw [Bool.or_false]
  | succ k ih =>
    intro x C v e hF hT hN
    have hx : x < L := by omega
    have zx : zin (nI x) 120 = true := zin_nI (by omega) (by decide)
    have cx : (nI x).toNatClampNeg = x := nI_clamp (by omega)
    have inner : ∀ m y (u : Bool) D, y + m = L → (∀ q, q ≠ 228 → D q = C q) → (∀ z, z ≠ x → D 228 z = C 228 z) → D 228 x = bI u → ∃ D', M_lasts_132 (bI v) (nI n) (nI x) (nI y) D b = M_lasts_132 (bI v) (nI n) (nI x) (nI L) D' b ∧ (∀ q, q ≠ 228 → D' q = C q) ∧ (∀ z, z ≠ x → D' 228 z = C 228 z) ∧ D' 228 x = bI (u || aF (fun y => T y && R y x) y m) := by
      intro m
      induction m with
      | zero =>
        intro y u D e h1 h2 h3
        have : y = L := by omega
        subst this
        exact ⟨D, rfl, h1, h2, by rw [h3]; show bI u = bI (u || false); rw [Bool.or_false]⟩
      | succ m ihm =>
        intro y u D e h1 h2 h3
        have hy : y < L := by omega
        have d47 : D 194 47 = nI L := by rw [h1 194 (by decide), hF 194 (by decide) (by decide)]; exact h47
        have k185 : ∀ w : Bool, M_lasts_185 (bI v) (nI n) (nI x) (nI y) (nI x) (bI w) D b = M_lasts_132 (bI v) (nI n) (nI x) (nI (y + 1)) (zup D 228 x (bI w)) b := fun w => by rw [q_M_lasts_185, zx, zz_bb, cx, nI_1]; rfl
        have k180 : M_lasts_180 (bI v) (nI n) (nI x) (nI y) (nI x) D b = M_lasts_132 (bI v) (nI n) (nI x) (nI (y + 1)) (zup D 228 x (bI true)) b := by rw [q_M_lasts_180]; exact k185 true
        have k184 : M_lasts_184 (bI v) (nI n) (nI x) (nI y) (nI x) D b = M_lasts_132 (bI v) (nI n) (nI x) (nI (y + 1)) (zup D 228 x (bI false)) b := by rw [q_M_lasts_184]; exact k185 false
        have e0 : M_lasts_132 (bI v) (nI n) (nI x) (nI y) D b = M_lasts_132 (bI v) (nI n) (nI x) (nI (y + 1)) (zup D 228 x (bI (u || (T y && R y x)))) b := by
          rw [q_M_lasts_132, d47, zcond_t (nI_lt hy (by omega)), zx, cond_true, cx, h3, zc_b0, zin_nI (n := 120) (show y < 120 by omega) (by decide), cond_true, show (nI y).toNatClampNeg = y from nI_clamp (by omega), h1 227 (by decide), hT y hy, zc_b0, show (120 : Int32) * nI y + nI x = nI (120 * y + x) from s_mul 120 y x, zin_nI (n := 14400) (by omega) (by decide), cond_true, show (nI (120 * y + x)).toNatClampNeg = 120 * y + x from nI_clamp (by omega), h1 222 (by decide), congrFun (hF 222 (by decide) (by decide)) _, hR y hy x hx, zc_b0, k180, k184]
          cases u <;> cases T y <;> cases R y x <;> rfl
        obtain ⟨D', z1, z2, z3, z4⟩ := ihm (y + 1) (u || (T y && R y x)) (zup D 228 x (bI (u || (T y && R y x)))) (by omega) (fun q hq => by rw [zup_row hq]; exact h1 q hq) (fun z hz => by rw [zup_nj hz]; exact h2 z hz) (zup_eq _ _ _ _)
        refine ⟨D', by rw [e0]; exact z1, z2, z3, ?_⟩
        rw [z4, Bool.or_assoc]
        rfl
    obtain ⟨D', z1, z2, z3, z4⟩ := inner L 0 false (zup C 228 x 0) (Nat.zero_add _) (fun q hq => zup_row hq) (fun z hz => zup_nj hz) (zup_eq _ _ _ _)
    rw [Bool.false_or] at z4
    have av : advN L R (fun _ => true) T x = aF (fun y => T y && R y x) 0 L := Bool.true_and _
    rw [← av] at z4
    have k210 : ∀ w : Bool, M_lasts_210 (nI n) (nI x) (bI w) D' b = M_lasts_114 (bI w) (nI n) (nI (x + 1)) D' b := fun w => by rw [q_M_lasts_210, nI_1]
    have k205 : M_lasts_205 (nI n) (nI x) D' b = M_lasts_114 (bI true) (nI n) (nI (x + 1)) D' b := by rw [q_M_lasts_205]; exact k210 true
    have d47 : D' 194 47 = nI L := by rw [z2 194 (by decide), hF 194 (by decide) (by decide)]; exact h47
    have e1 : M_lasts_114 (bI v) (nI n) (nI x) C b = M_lasts_114 (bI (v || advN L R (fun _ => true) T x)) (nI n) (nI (x + 1)) D' b := by
      rw [q_M_lasts_114, hF 194 (by decide) (by decide), h47, zcond_t (nI_lt hx (by omega)), zx, show zisB 0 = true from rfl, cx, Bool.true_and, cond_true, show M_lasts_132 (bI v) (nI n) (nI x) 0 (zup C 228 x 0) b = _ from z1, q_M_lasts_132, d47, zcond_f (nI_nlt (Nat.le_refl _) (by omega)), zc_b0, zx, cond_true, cx, z4, zc_b0, k205, show M_lasts_210 (nI n) (nI x) 0 D' b = _ from k210 false]
      cases v <;> cases advN L R (fun _ => true) T x <;> rfl
    obtain ⟨C', w1, w2, w3⟩ := ih (x + 1) D' (v || advN L R (fun _ => true) T x) (by omega) (fun q h1 h2 => (z2 q h2).trans (hF q h1 h2)) (fun y hy => by rw [z2 227 (by decide)]; exact hT y hy) (fun y hy => by
      by_cases c : y = x
      · rw [c]; exact z4
      · rw [z3 y c]; exact hN y (by omega))
    refine ⟨C', ?_, w2, w3⟩
    rw [e1, w1, Bool.or_assoc]
    rfl
theorem m_days {L : Nat} {R : Nat → Nat → Bool} {T : Nat → Bool} {C0 : zA} (b : zB) (hL : L ≤ 120) (h47 : C0 194 47 = nI L) (hR : LD L R C0) : ∀ k d C, d + k = 20 → FJ C C0 → JT 227 L (lyr L R (fun _ => true) T d) C → ∃ C', M_lasts_97 (bI (aF (lyr L R (fun _ => true) T d) 0 L)) (nI d) C b = okI (nI (stp (fun d => !aF (lyr L R (fun _ => true) T d) 0 L) k d)) C' b ∧ FJ C' C0 := by
  have k248 : ∀ v C, M_lasts_248 v C b = okI v C b := fun v C => by rw [q_M_lasts_248]; exact okI_ret _ _ _
  intro k
  induction k with
  | zero =>
    intro d C e hF hT
    have : d = 20 := by omega
    subst this
    refine ⟨C, ?_, hF⟩
    rw [q_M_lasts_97, zc_b0, zcond_f (show ¬ nI 20 < 20 by decide), k248]
    cases aF (lyr L R (fun _ => true) T 20) 0 L <;> rfl
  | succ k ih =>
    intro d C e hF hT
    rw [q_M_lasts_97, zc_b0, zcond_t (show nI d < 20 from nI_lt (b := 20) (by omega) (by decide)), k248, nI_1]
    show ∃ C', _ = okI (nI (cond (!aF (lyr L R (fun _ => true) T d) 0 L) d (stp (fun d => !aF (lyr L R (fun _ => true) T d) 0 L) k (d + 1)))) C' b ∧ FJ C' C0
    cases c : aF (lyr L R (fun _ => true) T d) 0 L
    · exact ⟨C, rfl, hF⟩
    · obtain ⟨C1, y1, y2, y3⟩ := m_dayN (n := d + 1) b hL h47 hR L 0 C false (Nat.zero_add _) hF hT (fun y hy => absurd hy (Nat.not_lt_zero _))
      rw [Bool.false_or] at y1
      obtain ⟨v, ev⟩ : ∃ v, v = bI (aF (advN L R (fun _ => true) (lyr L R (fun _ => true) T d)) 0 L) := ⟨_, rfl⟩
      rw [← ev] at y1
      have st : ∀ i, i < L → M_lasts_219 v (nI (d + 1)) (nI i) (zfn C1 227 i (C1 228)) b = M_lasts_219 v (nI (d + 1)) (nI (i + 1)) (zfn C1 227 (i + 1) (C1 228)) b := fun i hi => by
        rw [q_M_lasts_219, congrFun (zfn_q (by decide)) 47, y2 194 (by decide) (by decide), h47, zcond_t (nI_lt hi (by omega)), zin_nI (n := 120) (by omega) (by decide), cond_true, show (nI i).toNatClampNeg = i from nI_clamp (by omega), congrFun (zfn_q (by decide)) i, show zisB (C1 228 i) = true by rw [y3 i hi]; exact zz_bb _, nI_1, zfn_s (g := C1 228)]
        rfl
      have lp := lpC (F := fun i => M_lasts_219 v (nI (d + 1)) (nI i) (zfn C1 227 i (C1 228)) b) st L 0 (Nat.zero_add _)
      rw [show zfn C1 227 0 (C1 228) = C1 from zfn_0 _ _ _] at lp
      obtain ⟨C', z1, z2⟩ := ih (d + 1) (zfn C1 227 L (C1 228)) (by omega) (fun q h1 h2 => by rw [zfn_q h1]; exact y2 q h1 h2) (fun y hy => by rw [zfn_j hy]; exact y3 y hy)
      refine ⟨C', ?_, z2⟩
      show M_lasts_114 0 (nI (d + 1)) 0 C b = _
      rw [show M_lasts_114 0 (nI (d + 1)) 0 C b = _ from y1, show M_lasts_219 v (nI (d + 1)) 0 C1 b = _ from lp, q_M_lasts_219, congrFun (zfn_q (by decide)) 47, y2 194 (by decide) (by decide), h47, zcond_f (nI_nlt (Nat.le_refl _) (by omega)), ev]
      exact z1
theorem m_first {L : Nat} {T : Nat → Bool} {C0 : zA} (b : zB) (hL : L ≤ 120) (h47 : C0 194 47 = nI L) (hT : ∀ x, x < L → ∀ C, FJ C C0 → ∀ v : Bool, M_lasts_23 (bI v) (nI x) C b = cond (T x) (M_lasts_64 (bI v) (nI x) (nI x) C b) (M_lasts_69 (bI v) (nI x) (nI x) 0 C b)) : ∀ k x C (v : Bool), x + k = L → FJ C C0 → (∀ y, y < x → C 227 y = bI (T y)) → ∃ C', M_lasts_23 (bI v) (nI x) C b = M_lasts_97 (bI (v || aF T x k)) 0 C' b ∧ FJ C' C0 ∧ JT 227 L T C' := by
  intro k
  induction k with
  | zero =>
    intro x C v e hF hN
    have : x = L := by omega
    subst this
    refine ⟨C, ?_, hF, hN⟩
    rw [q_M_lasts_23, hF 194 (by decide) (by decide), h47, zcond_f (nI_nlt (Nat.le_refl _) (by omega))]
    show _ = M_lasts_97 (bI (v || false)) 0 C b
    rw [Bool.or_false]
  | succ k ih =>
    intro x C v e hF hN
    have hx : x < L := by omega
    have zx : zin (nI x) 120 = true := zin_nI (by omega) (by decide)
    have cx : (nI x).toNatClampNeg = x := nI_clamp (by omega)
    have k88 : ∀ (w : Bool) C, M_lasts_88 (nI x) (bI w) C b = M_lasts_23 (bI w) (nI (x + 1)) C b := fun w C => by rw [q_M_lasts_88, nI_1]
    have k83 : ∀ C, M_lasts_83 (nI x) C b = M_lasts_23 (bI true) (nI (x + 1)) C b := fun C => by rw [q_M_lasts_83]; exact k88 true C
    have k69 : ∀ w : Bool, M_lasts_69 (bI v) (nI x) (nI x) (bI w) C b = M_lasts_23 (bI (v || w)) (nI (x + 1)) (zup C 227 x (bI w)) b := fun w => by
      rw [q_M_lasts_69, zx, zz_bb, Bool.true_and, cond_true, cond_true, cx, zup_eq, zc_b0, zc_b0, k83, show M_lasts_88 (nI x) 0 (zup C 227 x (bI w)) b = _ from k88 false _]
      cases v <;> cases w <;> rfl
    have k64 : M_lasts_64 (bI v) (nI x) (nI x) C b = M_lasts_23 (bI (v || true)) (nI (x + 1)) (zup C 227 x (bI true)) b := by rw [q_M_lasts_64]; exact k69 true
    have e0 : M_lasts_23 (bI v) (nI x) C b = M_lasts_23 (bI (v || T x)) (nI (x + 1)) (zup C 227 x (bI (T x))) b := by
      rw [hT x hx C hF v, k64, show M_lasts_69 (bI v) (nI x) (nI x) 0 C b = _ from k69 false]
      cases T x <;> rfl
    obtain ⟨C', w1, w2, w3⟩ := ih (x + 1) (zup C 227 x (bI (T x))) (v || T x) (by omega) (fun q h1 h2 => by rw [zup_row h1]; exact hF q h1 h2) (fun y hy => by
      by_cases c : y = x
      · rw [c, zup_eq]
      · rw [zup_nj c]; exact hN y (by omega))
    refine ⟨C', ?_, w2, w3⟩
    rw [e0, w1, Bool.or_assoc]
    rfl
theorem lyr_emb {n m : Nat} {ok : Nat → Bool} {e : Nat → Nat} {R R' : Nat → Nat → Bool} {F T : Nat → Bool} (he : embO n m ok e) (hR : ∀ k k', k < m → k' < m → R' k k' = R (e k) (e k')) (h0 : ∀ k, k < m → T k = F (e k)) (h1 : ∀ i, i < n → F i = true → ok i = true) : ∀ d, (∀ k, k < m → lyr m R' (fun _ => true) T d k = lyr n R ok F d (e k)) ∧ ∀ i, i < n → lyr n R ok F d i = true → ok i = true
  | 0 => ⟨h0, h1⟩
  | d + 1 => by
    obtain ⟨g1, g2⟩ := lyr_emb he hR h0 h1 d
    refine ⟨fun k hk => ?_, fun i hi h => ?_⟩
    · show (true && aF (fun y => lyr m R' (fun _ => true) T d y && R' y k) 0 m) = (ok (e k) && aF (fun y => lyr n R ok F d y && R y (e k)) 0 n)
      rw [Bool.true_and, (he.1 k hk).2, Bool.true_and, Bool.eq_iff_iff, aF_i, aF_i]
      constructor
      · rintro ⟨y, _, h3, h4⟩
        rw [Bool.and_eq_true] at h4
        exact ⟨e y, Nat.zero_le _, by have := (he.1 y (by omega)).1; omega, by rw [← g1 y (by omega), ← hR y k (by omega) hk, h4.1, h4.2]; rfl⟩
      · rintro ⟨y, _, h3, h4⟩
        rw [Bool.and_eq_true] at h4
        obtain ⟨j, j1, j2⟩ := he.2.2 y (by omega) (g2 y (by omega) h4.1)
        exact ⟨j, Nat.zero_le _, by omega, by rw [g1 j j1, hR j k j1 hk, j2, h4.1, h4.2]; rfl⟩
    · have h' : (ok i && aF (fun y => lyr n R ok F d y && R y i) 0 n) = true := h
      rw [Bool.and_eq_true] at h'
      exact h'.1
theorem r_lasts {L : Nat} {xs : Nat → Int32} : zAns (Rel L xs) X_lasts M_lasts := by
  intro a b hr
  obtain ⟨P, Q, T, G, N, hall⟩ := id hr
  obtain ⟨W, S, hv⟩ := vw_mask hall
  obtain ⟨⟨g1, g2, g3, g4, g5⟩, ⟨⟨p1, p2⟩, ⟨q1, q2⟩, ⟨t1, t2⟩, ⟨w1, w2⟩, s1, s2⟩, ⟨f2, n2, -⟩, -⟩ := id hv
  by_cases cf : P ≤ 5 ∧ Q ≤ 5
  · obtain ⟨hP, hQ⟩ := cf
    obtain ⟨A, b1, y, b2, y1, y2, y3, y4, y5, y6, -⟩ := x_begin b hv hP hQ
    have hN := all_120 hP hQ
    have fA := FXA_B y4
    have vA : vw P Q T W S A a := vw_s hv (FXA_s fA)
    have xA : xE A = xE a := xE_s (FXA_s fA)
    obtain ⟨e, he, hn⟩ := emb_lst P Q (fAb P a)
    have hRR := fR_emb (W := W) (S := S) (Q := Q) (F := a 8 3) (N := a 10) hn
    -- the class's first day
    obtain ⟨F0, eF0⟩ : ∃ F0 : Nat → Bool, F0 = fun i => okU P Q (fAb P a) i && (decide (T = 0) || folB W S (a 8 3) (a 10) Q (xE a (T - 1)) (VL (ALL P Q) i)) := ⟨_, rfl⟩
    obtain ⟨b3, z1, z2, z3⟩ := k_become kc_42 kc_41 A b2
    have r42 : rB 42 (ALL P Q).length (okU P Q (fAb P a)) b3 := fun n h => by rw [z2 n h]; exact y6 n h
    have n3 : nxB (ALL P Q).length (fR W S (a 8 3) (a 10) Q (ALL P Q)) b3 := nx_f y5.2.2 (fun q hq => z3 q (by omega))
    have u3 : rB 41 (ALL P Q).length (okU P Q (fAb P a)) b3 := rB_q y6 (z3 41 (by decide))
    have st : ∃ b4, R_daysFromYesterday A b2 = R_daysFromYesterday_27 0 A b4 ∧ nxB (ALL P Q).length (fR W S (a 8 3) (a 10) Q (ALL P Q)) b4 ∧ rB 41 (ALL P Q).length (okU P Q (fAb P a)) b4 ∧ rB 42 (ALL P Q).length F0 b4 := by
      have eT : A 12 6 = nI T := (congrFun (fA 12 (by decide)) 6).trans t1
      by_cases c : 0 < T
      · obtain ⟨b4, v1, v2, v3⟩ := x_yest (F := okU P Q (fAb P a)) vA hP hQ c hN (fun i hi => all_per hP hi) (GX_t y5 (fun _ _ _ => rfl) (fun q hq => z3 q (by omega))) r42
        refine ⟨b4, ?_, nx_f n3 (fun q hq => v3 q (by omega)), rB_q u3 (v3 41 (by decide)), rB_c v2 (fun n _ => ?_)⟩
        · rw [q_R_daysFromYesterday, z1, zcV_ok, eT, zcond_t (show (0 : Int32) < nI T from nI_lt (a := 0) c (by omega)), v1, zcV_ok, q_R_daysFromYesterday_25]
        · rw [eF0]
          show _ = (okU P Q (fAb P a) n && (decide (T = 0) || folB W S (a 8 3) (a 10) Q (xE a (T - 1)) (VL (ALL P Q) n)))
          rw [decide_eq_false (show ¬ T = 0 by omega), Bool.false_or, xA, congrFun (fA 8 (by decide)) 3, fA 10 (by decide)]
      · refine ⟨b3, ?_, n3, u3, rB_c r42 (fun n _ => ?_)⟩
        · rw [q_R_daysFromYesterday, z1, zcV_ok, eT, zcond_f (show ¬ (0 : Int32) < nI T from nI_nlt (a := 0) (by omega) (by omega)), q_R_daysFromYesterday_25]
        · rw [eF0]
          show _ = (okU P Q (fAb P a) n && (decide (T = 0) || folB W S (a 8 3) (a 10) Q (xE a (T - 1)) (VL (ALL P Q) n)))
          rw [decide_eq_true (show T = 0 by omega), Bool.true_or, Bool.and_true]
    obtain ⟨b4, v1, v2, v3, v4⟩ := st
    obtain ⟨b5, v5⟩ := x_days (F := F0) hN y5.1.1 20 0 b4 (Nat.zero_add _) v2 v3 v4
    obtain ⟨r, er⟩ : ∃ r, r = nI (stp (fun d => decide (cnt (lyr (ALL P Q).length (fR W S (a 8 3) (a 10) Q (ALL P Q)) (okU P Q (fAb P a)) F0 d) (ALL P Q).length = 0)) 20 0) := ⟨_, rfl⟩
    have eX : X_lasts a b = okI r A b5 := by
      rw [q_X_lasts, x_fewY hv hP hQ, zcI_ok, zcond_f (show ¬ (1 : Int32) = 0 by decide), y1, zcV_ok, y2, zcI_ok, y3, zcV_ok, v1, show R_daysFromYesterday_27 0 A b4 = okI r A b5 by rw [er]; exact v5, zcI_ok]
      exact okI_ret _ _ _
    -- the reference
    have hY : ∀ q, 194 ≤ q → q ≤ 210 → q ≠ 195 → A q = a q := fun q h1 h2 h3 => fA q (by omega)
    obtain ⟨C1, w3, w4, w5, w6⟩ := m_lead hP hQ g4 g5 (mHas_Y b5 hv hY)
    have hl := lst_120 (fAb P a) hP hQ
    obtain ⟨T0, eT0⟩ : ∃ T0 : Nat → Bool, T0 = fun k => decide (T = 0) || folB W S (a 8 3) (a 10) Q (xE a (T - 1)) (VL (LST (fAb P a) P Q) k) := ⟨_, rfl⟩
    have c194 : ∀ j, j ≠ 47 → j ≠ 0 → C1 194 j = a 194 j := fun j h1 h2 => by rw [w4.2 j h1, zup_nj h2]; exact congrFun (hY 194 (by decide) (by decide) (by decide)) j
    have cq : ∀ q, 196 ≤ q → q ≤ 210 → C1 q = a q := fun q h1 h2 => by rw [w4.1 q (by omega) (by omega) (by omega) (by omega), zup_row (by omega)]; exact hY q (by omega) h2 (by omega)
    have first := m_first (T := T0) b5 hl w5.1 (fun x hx C hF v => by
      have d194 : ∀ j, C 194 j = C1 194 j := fun j => congrFun (hF 194 (by decide) (by decide)) j
      rw [q_M_lasts_23, d194, d194, w5.1, zcond_t (nI_lt hx (by omega)), c194 15 (by decide) (by decide), t2, eT0]
      by_cases c : T = 0
      · rw [c, zcond_t (show nI 0 = 0 from rfl)]
        show _ = cond (decide (0 = 0) || _) _ _
        rw [decide_eq_true rfl, Bool.true_or]
        rfl
      · rw [zcond_f (show ¬ nI T = 0 from fun z => c ((nI_eq (b := 0) (by omega) (by decide)).mp z)), show (10 : Int32) * (nI T - 1) = nI (10 * (T - 1)) by rw [show nI T - 1 = nI (T - 1) from pk_sub (b := 1) (by omega)]; exact pk_mul 10 (T - 1), m_follows (V := xE a (T - 1)) (X := VL (LST (fAb P a) P Q) x) (N := a 10) (F := a 8 3) hQ ((d194 7).trans ((c194 7 (by decide) (by decide)).trans q2)) ((d194 17).trans ((c194 17 (by decide) (by decide)).trans w2)) g4 ((d194 18).trans ((c194 18 (by decide) (by decide)).trans s2)) g5 ((d194 19).trans ((c194 19 (by decide) (by decide)).trans f2.symm)) (fun p hp => by rw [hF 207 (by decide) (by decide), cq 207 (by decide) (by decide)]; exact (n2 p hp).1.symm) zo_206 (zl_206 C) (by omega) (by decide) (fun q hq => by rw [hF 206 (by decide) (by decide), cq 206 (by decide) (by decide)]; exact vw_E hv (Nat.le_refl T) (T - 1) q (by omega) hq) (by omega) (fun q hq => by rw [hF 221 (by decide) (by decide)]; exact w5.2 x hx q hq), zcI_ok, zc_b0]
        show _ = cond (decide (T = 0) || _) _ _
        rw [decide_eq_false c, Bool.false_or]) (LST (fAb P a) P Q).length 0 C1 false (Nat.zero_add _) (fun _ _ _ => rfl) (fun y hy => absurd hy (Nat.not_lt_zero _))
    obtain ⟨C2, h1, h2, h3⟩ := first
    rw [Bool.false_or] at h1
    obtain ⟨C3, h4, h5⟩ := m_days (T := T0) (C0 := C1) b5 hl w5.1 w6 20 0 C2 (Nat.zero_add _) h2 h3
    have le := lyr_emb (F := F0) (T := T0) he hRR (fun k hk => by
      rw [eF0, eT0]
      show (decide (T = 0) || _) = (okU P Q (fAb P a) (e k) && (decide (T = 0) || _))
      rw [(he.1 k hk).2, Bool.true_and, show VL (LST (fAb P a) P Q) k = VL (ALL P Q) (e k) by funext q; unfold VL; rw [hn k hk]]) (fun i hi h => by
      rw [eF0] at h
      have h' : (okU P Q (fAb P a) i && _) = true := h
      rw [Bool.and_eq_true] at h'
      exact h'.1)
    have same : ∀ d, decide (cnt (lyr (ALL P Q).length (fR W S (a 8 3) (a 10) Q (ALL P Q)) (okU P Q (fAb P a)) F0 d) (ALL P Q).length = 0) = !aF (lyr (LST (fAb P a) P Q).length (fR W S (a 8 3) (a 10) Q (LST (fAb P a) P Q)) (fun _ => true) T0 d) 0 (LST (fAb P a) P Q).length := fun d => by
      obtain ⟨l1, l2⟩ := le d
      cases c : aF (lyr (LST (fAb P a) P Q).length (fR W S (a 8 3) (a 10) Q (LST (fAb P a) P Q)) (fun _ => true) T0 d) 0 (LST (fAb P a) P Q).length
      · refine decide_eq_true ((cnt_0 _).mpr fun i hi => Bool.eq_false_iff.mpr fun z => ?_)
        obtain ⟨k, k1, k2⟩ := he.2.2 i hi (l2 i hi z)
        have : aF (lyr (LST (fAb P a) P Q).length (fR W S (a 8 3) (a 10) Q (LST (fAb P a) P Q)) (fun _ => true) T0 d) 0 (LST (fAb P a) P Q).length = true := (aF_i _ _).mpr ⟨k, Nat.zero_le _, by omega, by rw [l1 k k1, k2]; exact z⟩
        rw [c] at this
        exact absurd this (by decide)
      · refine decide_eq_false fun z => ?_
        obtain ⟨k, _, k1, k2⟩ := (aF_i _ _).mp c
        rw [l1 k (by omega)] at k2
        rw [(cnt_0 _).mp z (e k) (he.1 k (by omega)).1] at k2
        exact absurd k2 (by decide)
    have eM : M_lasts A b5 = okI r C3 b5 := by
      rw [q_M_lasts, m_fewY hv hP hQ hY, zcI_ok, zcond_f (show ¬ (1 : Int32) = 0 by decide), w3, zcV_ok, show M_lasts_23 0 0 C1 b5 = _ from h1, er, stp_c same]
      exact h4
    refine ⟨r, A, b5, C3, b5, eX, fun j => congrFun (fA 0 (by decide)) j, eM, rel_same (a := a) (b := b) hr ?_⟩
    rw [FV_m (Y := A) (FV_t ⟨fun q h6 h7 => (h5 q (by omega) (by omega)).trans rfl, fun j _ => congrFun (h5 194 (by decide) (by decide)) j⟩ (FV_D w4)), FXA_m fA]
  · obtain ⟨f1, f2⟩ := few_no (b := b) hv cf
    refine ans_thr hr (-3) ?_ ?_
    · rw [q_X_lasts, f1, zcI_ok, zcond_t rfl]; exact okI_ret _ _ _
    · rw [q_M_lasts, f2, zcI_ok, zcond_t rfl]; exact okI_ret _ _ _
