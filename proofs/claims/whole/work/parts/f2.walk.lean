/-! Ways through what may follow. -/
def wkF (N : Nat) (R : Nat → Nat → Bool) (U : Nat → Bool) : Nat → Nat → Nat → Prop
  | 0, i, x => x = i
  | s + 1, i, x => U x = true ∧ ∃ y, y < N ∧ wkF N R U s i y ∧ R y x = true
def wkB (L : Nat) (R : Nat → Nat → Bool) : Nat → Nat → Nat → Prop
  | 0, a, z => a = z
  | s + 1, a, z => ∃ q, q < L ∧ R a q = true ∧ wkB L R s q z
theorem wkB_end {L : Nat} {R : Nat → Nat → Bool} : ∀ s a z, a < L → z < L → (wkB L R (s + 1) a z ↔ ∃ y, y < L ∧ wkB L R s a y ∧ R y z = true)
  | 0, a, z, ha, hz => by
    constructor
    · rintro ⟨q, h1, h2, h3⟩
      have h3' : q = z := h3
      exact ⟨a, ha, rfl, by rw [← h3']; exact h2⟩
    · rintro ⟨y, h1, h2, h3⟩
      have h2' : a = y := h2
      exact ⟨z, hz, by rw [h2']; exact h3, rfl⟩
  | s + 1, a, z, ha, hz => by
    constructor
    · rintro ⟨q, h1, h2, h3⟩
      obtain ⟨y, g1, g2, g3⟩ := (wkB_end s q z h1 hz).mp h3
      exact ⟨y, g1, ⟨q, h1, h2, g2⟩, g3⟩
    · rintro ⟨y, h1, ⟨q, g1, g2, g3⟩, h3⟩
      exact ⟨q, g1, g2, (wkB_end s q z g1 hz).mpr ⟨y, h1, g3, h3⟩⟩
theorem wkF_U {N : Nat} {R : Nat → Nat → Bool} {U : Nat → Bool} {s i x : Nat} (hi : U i = true) (h : wkF N R U s i x) : U x = true := by
  cases s with
  | zero =>
    have : x = i := h
    rw [this]; exact hi
  | succ s => exact h.1
theorem wk_emb {n m : Nat} {ok : Nat → Bool} {e : Nat → Nat} {R R' : Nat → Nat → Bool} (he : embO n m ok e) (hR : ∀ k k', k < m → k' < m → R' k k' = R (e k) (e k')) : ∀ s k k', k < m → k' < m → (wkF n R ok s (e k) (e k') ↔ wkB m R' s k k')
  | 0, k, k', hk, hk' => by
    constructor
    · intro h
      have h' : e k' = e k := h
      show k = k'
      by_cases c : k < k'
      · have := he.2.1 k k' c hk'
        omega
      · by_cases d : k' < k
        · have := he.2.1 k' k d hk
          omega
        · omega
    · intro h
      have h' : k = k' := h
      show e k' = e k
      rw [h']
  | s + 1, k, k', hk, hk' => by
    rw [wkB_end s k k' hk hk']
    constructor
    · rintro ⟨h1, y, h2, h3, h4⟩
      obtain ⟨j, j1, j2⟩ := he.2.2 y h2 (wkF_U (he.1 k hk).2 h3)
      rw [← j2] at h3 h4
      exact ⟨j, j1, (wk_emb he hR s k j hk j1).mp h3, by rw [hR j k' j1 hk']; exact h4⟩
    · rintro ⟨y, h1, h2, h3⟩
      exact ⟨(he.1 k' hk').2, e y, (he.1 y h1).1, (wk_emb he hR s k y hk h1).mpr h2, by rw [← hR y k' h1 hk']; exact h3⟩
/-- the fewest steps, one at least -/
def isD (W : Nat → Prop) (d : Nat) : Prop := (d = 0 ∧ ∀ s, 1 ≤ s → ¬ W s) ∨ (1 ≤ d ∧ W d ∧ ∀ s, 1 ≤ s → s < d → ¬ W s)
/-- come to for the first time -/
def frF (N : Nat) (R : Nat → Nat → Bool) (U : Nat → Bool) (i s x : Nat) : Prop := wkF N R U s i x ∧ ∀ s', 1 ≤ s' → s' < s → ¬ wkF N R U s' i x
theorem fr_next {N : Nat} {R : Nat → Nat → Bool} {U : Nat → Bool} {i s x : Nat} (hs : 1 ≤ s) : frF N R U i (s + 1) x ↔ (U x = true ∧ ∃ y, y < N ∧ frF N R U i s y ∧ R y x = true) ∧ ∀ s', 1 ≤ s' → s' ≤ s → ¬ wkF N R U s' i x := by
  constructor
  · rintro ⟨⟨h1, y, h2, h3, h4⟩, h5⟩
    refine ⟨⟨h1, y, h2, ⟨h3, fun s' g1 g2 g3 => ?_⟩, h4⟩, fun s' g1 g2 => h5 s' g1 (by omega)⟩
    exact h5 (s' + 1) (by omega) (by omega) ⟨h1, y, h2, g3, h4⟩
  · rintro ⟨⟨h1, y, h2, h3, h4⟩, h5⟩
    exact ⟨⟨h1, y, h2, h3.1, h4⟩, fun s' g1 g2 => h5 s' g1 (by omega)⟩
theorem fr_none {N : Nat} {R : Nat → Nat → Bool} {U : Nat → Bool} {i s : Nat} (hs : 1 ≤ s) (h : ∀ x, x < N → ¬ frF N R U i s x) : ∀ k x, x < N → wkF N R U (s + k) i x → ∃ s', 1 ≤ s' ∧ s' < s ∧ wkF N R U s' i x
  | 0, x, hx, hw => Classical.byContradiction fun n => h x hx ⟨hw, fun s' g1 g2 g3 => n ⟨s', g1, g2, g3⟩⟩
  | k + 1, x, hx, ⟨h1, y, h2, h3, h4⟩ => by
    obtain ⟨s', g1, g2, g3⟩ := fr_none hs h k y h2 h3
    have w : wkF N R U (s' + 1) i x := ⟨h1, y, h2, g3, h4⟩
    by_cases c : s' + 1 < s
    · exact ⟨s' + 1, by omega, c, w⟩
    · have e : s' + 1 = s := by omega
      rw [e] at w
      exact Classical.byContradiction fun n => h x hx ⟨w, fun s' g1 g2 g3 => n ⟨s', g1, g2, g3⟩⟩
theorem cnt_sub {f g : Nat → Bool} : ∀ n, (∀ x, x < n → f x = true → g x = true) → cnt f n ≤ cnt g n
  | 0, _ => Nat.le_refl _
  | n + 1, h => by
    have ih := cnt_sub n (fun x hx => h x (by omega))
    unfold cnt
    cases c : f n
    · show cnt f n + 0 ≤ _
      omega
    · rw [h n (by omega) c]
      show cnt f n + 1 ≤ cnt g n + 1
      omega
theorem cnt_more {f g : Nat → Bool} : ∀ n, (∀ x, x < n → f x = true → g x = true) → (∃ x, x < n ∧ g x = true ∧ f x = false) → cnt f n < cnt g n
  | 0, _, ⟨_, h, _⟩ => absurd h (Nat.not_lt_zero _)
  | n + 1, h, ⟨x, hx, g1, g2⟩ => by
    unfold cnt
    by_cases c : x = n
    · subst c
      have := cnt_sub (f := f) (g := g) x (fun y hy => h y (by omega))
      rw [g1, g2]
      show cnt f x + 0 < cnt g x + 1
      omega
    · have ih := cnt_more n (fun x hx => h x (by omega)) ⟨x, by omega, g1, g2⟩
      cases d : f n
      · show cnt f n + 0 < _
        omega
      · rw [h n (by omega) d]
        show cnt f n + 1 < cnt g n + 1
        omega
/-! The class's fronts. -/
def rB (q N : Nat) (F : Nat → Bool) (b : zB) : Prop := ∀ n, n < 128 → hK b q n = (decide (n < N) && F n)
theorem rB_q {q N : Nat} {F : Nat → Bool} {b b' : zB} (h : rB q N F b) (e : b' q = b q) : rB q N F b' := fun n hn => (hK_q e).trans (h n hn)
theorem rB_c {q N : Nat} {F G : Nat → Bool} {b : zB} (h : rB q N F b) (e : ∀ n, n < N → F n = G n) : rB q N G b := fun n hn => by
  rw [h n hn]
  by_cases c : n < N
  · rw [e n c]
  · rw [decide_eq_false c, Bool.false_and, Bool.false_and]
theorem x_adv {N : Nat} {R : Nat → Nat → Bool} {F U : Nat → Bool} {A : zA} {b : zB} (hN : N ≤ 120) (h18 : A 35 18 = nI N) (hn : nxB N R b) (hU : rB 41 N U b) (hF : rB 42 N F b) : ∃ b', R_advance A b = okV A b' ∧ rB 42 N (fun x => U x && aF (fun y => F y && R y x) 0 N) b' ∧ ∀ q, q ≠ 42 → q ≠ 44 → b' q = b q := by
  have nx : ∀ i b, R_advance_41 (nI i) A b = R_advance_9 (nI (i + 1)) A b := fun i b => by rw [q_R_advance_41, nI_1]
  have loop : ∀ k i b1, i + k = N → (∀ q, q ≠ 44 → b1 q = b q) → rB 44 N (fun x => aF (fun y => F y && R y x) 0 i) b1 → ∃ b2, R_advance_9 (nI i) A b1 = R_advance_9 (nI N) A b2 ∧ (∀ q, q ≠ 44 → b2 q = b q) ∧ rB 44 N (fun x => aF (fun y => F y && R y x) 0 N) b2 := by
    intro k
    induction k with
    | zero =>
      intro i b1 e e1 e2
      have : i = N := by omega
      subst this
      exact ⟨b1, rfl, e1, e2⟩
    | succ k ih =>
      intro i b1 e e1 e2
      have hi : i < N := by omega
      have sn : ∀ x, aF (fun y => F y && R y x) 0 (i + 1) = (aF (fun y => F y && R y x) 0 i || (F i && R i x)) := fun x => by
        rw [Bool.eq_iff_iff, Bool.or_eq_true, aF_i, aF_i]
        constructor
        · rintro ⟨y, h1, h2, h3⟩
          by_cases c : y = i
          · rw [c] at h3; exact .inr h3
          · exact .inl ⟨y, h1, by omega, h3⟩
        · rintro (⟨y, h1, h2, h3⟩ | h3)
          · exact ⟨y, h1, by omega, h3⟩
          · exact ⟨i, Nat.zero_le _, by omega, h3⟩
      obtain ⟨b2, y1, y2, y3⟩ := k_addAll kc_44 (kc_k (n := i) (by omega)) A b1
      have e0 : R_advance_9 (nI i) A b1 = cond (F i) (R_advance_9 (nI (i + 1)) A b2) (R_advance_9 (nI (i + 1)) A b1) := by
        rw [q_R_advance_9, h18, zcond_t (nI_lt hi (by omega)), k_has kc_42 (by omega), zcI_ok, zc_b0, hK_q (e1 42 (by decide)), hF i (by omega), decide_eq_true hi, Bool.true_and, zin_nI (n := 120) (by omega) (by decide), show (nI i).toNatClampNeg = i from nI_clamp (by omega), kc_rs (by omega), kc_rg (by omega), y1, zcV_ok, nx, nx]
        cases F i <;> rfl
      rw [e0]
      cases c : F i
      · refine ih (i + 1) b1 (by omega) e1 (rB_c e2 (fun x _ => ?_))
        rw [sn, c, Bool.false_and, Bool.or_false]
      · refine ih (i + 1) b2 (by omega) (fun q hq => (y3 q hq).trans (e1 q hq)) (fun n h => ?_)
        rw [y2 n h, e2 n h, hK_q (e1 (48 + i) (by omega)), hn i hi n h]
        show ((decide (n < N) && aF (fun y => F y && R y n) 0 i) || (decide (n < N) && R i n)) = (decide (n < N) && aF (fun y => F y && R y n) 0 (i + 1))
        rw [sn, c, Bool.true_and]
        cases decide (n < N) <;> rfl
  obtain ⟨c1, c2⟩ := k_clear kc_44 A b
  obtain ⟨b1, hb1⟩ : ∃ b1, b1 = zupB (zupB b 44 0 0) 44 1 0 := ⟨_, rfl⟩
  rw [← hb1] at c1 c2
  obtain ⟨b2, y1, y2, y3⟩ := loop N 0 b1 (Nat.zero_add _) (fun q hq => by
    rw [hb1]
    funext j
    unfold zupB
    rw [if_neg (fun z => hq z.1), if_neg (fun z => hq z.1)]) (fun n _ => by
    rw [c2 n]
    show false = (decide (n < N) && false)
    rw [Bool.and_false])
  obtain ⟨b3, z1, z2, z3⟩ := k_keepOnly kc_44 kc_41 A b2
  obtain ⟨b4, w1, w2, w3⟩ := k_become kc_42 kc_44 A b3
  refine ⟨b4, ?_, fun n h => ?_, fun q h1 h2 => (w3 q h1).trans ((z3 q h2).trans (y2 q h2))⟩
  · rw [q_R_advance, c1, zcV_ok, show (0 : Int32) = nI 0 from rfl, y1, q_R_advance_9, h18, zcond_f (nI_nlt (Nat.le_refl _) (by omega)), z1, zcV_ok, w1, zcV_ok]
    exact okV_ret _ _
  · rw [w2 n h, z2 n h, y3 n h, hK_q (y2 41 (by decide)), hU n h]
    cases decide (n < N)
    · rfl
    · rw [Bool.true_and, Bool.true_and, Bool.true_and, Bool.and_comm]
noncomputable def frB (N : Nat) (R : Nat → Nat → Bool) (U : Nat → Bool) (i s x : Nat) : Bool := cB (frF N R U i s x)
noncomputable def seB' (N : Nat) (R : Nat → Nat → Bool) (U : Nat → Bool) (i s x : Nat) : Bool := cB (∃ s', 1 ≤ s' ∧ s' < s ∧ wkF N R U s' i x)
theorem x_steps {N : Nat} {R : Nat → Nat → Bool} {U : Nat → Bool} {A : zA} {i z : Nat} (hN : N ≤ 120) (h18 : A 35 18 = nI N) (hi : i < N) (hz : z < N) : ∀ b, nxB N R b → rB 41 N U b → ∃ b' d, R_stepsTo (nI i) (nI z) A b = okI (nI d) A b' ∧ d ≤ 120 ∧ isD (fun s => wkF N R U s i z) d ∧ nxB N R b' ∧ rB 41 N U b' := by
  have loop : ∀ m s b, N ≤ cnt (seB' N R U i s) N + m → 1 ≤ s → s ≤ cnt (seB' N R U i s) N + 1 → (∀ s', 1 ≤ s' → s' < s → ¬ wkF N R U s' i z) → nxB N R b → rB 41 N U b → rB 42 N (frB N R U i s) b → rB 43 N (seB' N R U i s) b → ∃ b' d, R_stepsTo_33 (nI z) (nI s) A b = okI (nI d) A b' ∧ d ≤ 120 ∧ isD (fun s => wkF N R U s i z) d ∧ nxB N R b' ∧ rB 41 N U b' := by
    intro m
    induction m with
    | zero =>
      intro s b hm hs hc hno
      have := cnt_more (f := seB' N R U i s) (g := fun _ => true) N (fun _ _ _ => rfl) ⟨z, hz, rfl, cB_f (fun ⟨s', g1, g2, g3⟩ => hno s' g1 g2 g3)⟩
      rw [cnt_all] at this
      omega
    | succ m ih =>
      intro s b hm hs hc hno hn hU hF hS
      have lt := cnt_more (f := seB' N R U i s) (g := fun _ => true) N (fun _ _ _ => rfl) ⟨z, hz, rfl, cB_f (fun ⟨s', g1, g2, g3⟩ => hno s' g1 g2 g3)⟩
      rw [cnt_all] at lt
      have s120 : s ≤ 120 := by omega
      rw [q_R_stepsTo_33, zcond_f (show ¬ (120 : Int32) < nI s from nI_nlt (a := 120) s120 (by decide)), k_has kc_42 (by omega), zcI_ok, zc_b0, hF z (by omega), decide_eq_true hz, Bool.true_and]
      by_cases c1 : frF N R U i s z
      · refine ⟨b, s, ?_, s120, .inr ⟨hs, c1.1, hno⟩, hn, hU⟩
        rw [show frB N R U i s z = true from cB_t c1]
        exact okI_ret _ _ _
      · rw [show frB N R U i s z = false from cB_f c1, cond_false, k_size kc_42, zcI_ok, cnt_128 hN hF]
        by_cases c2 : cnt (frB N R U i s) N = 0
        · have none : ∀ x, x < N → ¬ frF N R U i s x := fun x hx => cB_n.mp ((cnt_0 N).mp c2 x hx)
          refine ⟨b, 0, ?_, Nat.zero_le _, .inl ⟨rfl, fun s' h1 h2 => ?_⟩, hn, hU⟩
          · rw [c2, zcond_t (show nI 0 = 0 from rfl)]
            exact okI_ret _ _ _
          · by_cases c3 : s' < s
            · exact hno s' h1 c3 h2
            · obtain ⟨s'', g1, g2, g3⟩ := fr_none hs none (s' - s) z hz (by rw [show s + (s' - s) = s' by omega]; exact h2)
              exact hno s'' g1 g2 g3
        · have hne : ∃ x, x < N ∧ frF N R U i s x := Classical.byContradiction fun n => c2 ((cnt_0 N).mpr fun x hx => cB_f fun g => n ⟨x, hx, g⟩)
          obtain ⟨x0, x1, x2⟩ := hne
          have seN : ∀ x, seB' N R U i (s + 1) x = (seB' N R U i s x || frB N R U i s x) := fun x => by
            unfold seB' frB
            rw [Bool.eq_iff_iff, Bool.or_eq_true, cB_i, cB_i, cB_i]
            constructor
            · rintro ⟨s', g1, g2, g3⟩
              by_cases c : ∃ s', 1 ≤ s' ∧ s' < s ∧ wkF N R U s' i x
              · exact .inl c
              · have e : s' = s := Classical.byContradiction fun n => c ⟨s', g1, by omega, g3⟩
                rw [e] at g3
                exact .inr ⟨g3, fun s'' h1 h2 h3 => c ⟨s'', h1, h2, h3⟩⟩
            · rintro (⟨s', g1, g2, g3⟩ | g)
              · exact ⟨s', g1, by omega, g3⟩
              · exact ⟨s, hs, Nat.lt_succ_self s, g.1⟩
          have more := cnt_more (f := seB' N R U i s) (g := seB' N R U i (s + 1)) N (fun x _ h => by rw [seN, h]; rfl) ⟨x0, x1, by rw [seN, show frB N R U i s x0 = true from cB_t x2, Bool.or_true], cB_f fun ⟨s', g1, g2, g3⟩ => x2.2 s' g1 g2 g3⟩
          obtain ⟨b1, y1, y2, y3⟩ := k_addAll kc_43 kc_42 A b
          have n1 : nxB N R b1 := nx_f hn (fun q hq => y3 q (by omega))
          obtain ⟨b2, z1, z2, z3⟩ := x_adv hN h18 n1 (rB_q hU (y3 41 (by decide))) (rB_q hF (y3 42 (by decide)))
          obtain ⟨b3, w1, w2, w3⟩ := k_dropAll kc_42 kc_43 A b2
          have s1 : rB 43 N (seB' N R U i (s + 1)) b1 := fun n h => by
            rw [y2 n h, hS n h, hF n h, seN]
            cases decide (n < N) <;> rfl
          have f3 : rB 42 N (frB N R U i (s + 1)) b3 := fun n h => by
            rw [w2 n h, z2 n h, hK_q (z3 43 (by decide) (by decide)), s1 n h]
            cases decide (n < N)
            · rfl
            · rw [Bool.true_and, Bool.true_and, Bool.true_and]
              unfold frB
              rw [cB_c (fr_next hs), Bool.eq_iff_iff, cB_i, Bool.and_eq_true, Bool.and_eq_true, Bool.not_eq_true', aF_i]
              unfold seB'
              rw [cB_n]
              constructor
              · rintro ⟨⟨g1, y, _, g2, g3⟩, g4⟩
                rw [Bool.and_eq_true, cB_i] at g3
                exact ⟨⟨g1, y, by omega, g3.1, g3.2⟩, fun s' h1 h2 h3 => g4 ⟨s', h1, by omega, h3⟩⟩
              · rintro ⟨⟨g1, y, g2, g3, g4⟩, g5⟩
                exact ⟨⟨g1, y, Nat.zero_le _, by omega, by rw [Bool.and_eq_true, cB_i]; exact ⟨g3, g4⟩⟩, fun ⟨s', h1, h2, h3⟩ => g5 s' h1 (by omega) h3⟩
          obtain ⟨b', d, v1, v2⟩ := ih (s + 1) b3 (by omega) (by omega) (by omega) (fun s' h1 h2 h3 => by
            by_cases c : s' < s
            · exact hno s' h1 c h3
            · have e : s' = s := by omega
              rw [e] at h3
              exact c1 ⟨h3, hno⟩) (nx_f n1 (fun q hq => (w3 q (by omega)).trans (z3 q (by omega) (by omega)))) (rB_q (rB_q hU (y3 41 (by decide))) ((w3 41 (by decide)).trans (z3 41 (by decide) (by decide)))) f3 (rB_q s1 ((w3 43 (by decide)).trans (z3 43 (by decide) (by decide))))
          refine ⟨b', d, ?_, v2⟩
          rw [zcond_f (show ¬ nI (cnt (frB N R U i s) N) = 0 from fun z => c2 ((nI_eq (b := 0) (by have := cnt_le (frB N R U i s) N; omega) (by decide)).mp z)), y1, zcV_ok, z1, zcV_ok, w1, zcV_ok, nI_1]
          exact v1
  intro b hn hU
  obtain ⟨c1, c2⟩ := k_clear kc_43 A b
  obtain ⟨b1, hb1⟩ : ∃ b1, b1 = zupB (zupB b 43 0 0) 43 1 0 := ⟨_, rfl⟩
  rw [← hb1] at c1 c2
  have q1 : ∀ q, q ≠ 43 → b1 q = b q := fun q hq => by
    rw [hb1]
    funext j
    unfold zupB
    rw [if_neg (fun z => hq z.1), if_neg (fun z => hq z.1)]
  obtain ⟨b2, y1, y2, y3⟩ := k_become kc_42 (kc_k (n := i) (by omega)) A b1
  obtain ⟨b3, z1, z2, z3⟩ := k_keepOnly kc_42 kc_41 A b2
  have s0 : ∀ x, seB' N R U i 1 x = false := fun x => cB_f fun ⟨s', g1, g2, _⟩ => by omega
  have f1 : ∀ x, frB N R U i 1 x = (U x && R i x) := fun x => by
    unfold frB
    rw [Bool.eq_iff_iff, cB_i, Bool.and_eq_true]
    constructor
    · rintro ⟨⟨h1, y, h2, h3, h4⟩, -⟩
      have : y = i := h3
      rw [this] at h4
      exact ⟨h1, h4⟩
    · rintro ⟨h1, h2⟩
      exact ⟨⟨h1, i, hi, rfl, h2⟩, fun s' h3 h4 => by omega⟩
  obtain ⟨b', d, v1, v2⟩ := loop N 1 b3 (by omega) (Nat.le_refl _) (by omega) (fun s' h1 h2 => by omega) (nx_f hn (fun q hq => (z3 q (by omega)).trans ((y3 q (by omega)).trans (q1 q (by omega))))) (rB_q hU ((z3 41 (by decide)).trans ((y3 41 (by decide)).trans (q1 41 (by decide))))) (fun n h => by
    rw [z2 n h, y2 n h, hK_q (q1 (48 + i) (by omega)), hn i hi n h, hK_q ((y3 41 (by decide)).trans (q1 41 (by decide))), hU n h, f1]
    cases decide (n < N)
    · rfl
    · rw [Bool.true_and, Bool.true_and, Bool.true_and, Bool.and_comm]) (fun n h => by
    rw [hK_q ((z3 43 (by decide)).trans (y3 43 (by decide))), c2 n, s0, Bool.and_false])
  refine ⟨b', d, ?_, v2⟩
  rw [q_R_stepsTo, c1, zcV_ok, zin_nI (n := 120) (by omega) (by decide), show (nI i).toNatClampNeg = i from nI_clamp (by omega), kc_rs (by omega), kc_rg (by omega), Bool.true_and, cond_true, y1, zcV_ok, z1, zcV_ok]
  exact v1
