/-! The shortest round, by both. -/
def noC (L : Nat) (R : Nat → Nat → Bool) (a : Nat) : Prop := ∀ s, 1 ≤ s → ¬ wkB L R s a a
def CY (L : Nat) (R : Nat → Nat → Bool) (a len nx : Nat) : Prop := nx < L ∧ R a nx = true ∧ 1 ≤ len ∧ wkB L R (len - 1) nx a ∧ (∀ s, 1 ≤ s → wkB L R s a a → len ≤ s) ∧ ∀ b, b < nx → R a b = true → ¬ wkB L R (len - 1) b a
def BC (L n : Nat) (R : Nat → Nat → Bool) (a len nx : Nat) : Prop := a < n ∧ CY L R a len nx ∧ ∀ a', a' < n → ∀ s, 1 ≤ s → wkB L R s a' a' → len < s ∨ (len = s ∧ a ≤ a')
theorem cy_self {L : Nat} {R : Nat → Nat → Bool} {a len nx : Nat} (h : CY L R a len nx) : wkB L R len a a := by
  obtain ⟨h1, h2, h3, h4, -⟩ := h
  have : wkB L R (len - 1 + 1) a a := ⟨nx, h1, h2, h4⟩
  rw [show len - 1 + 1 = len by omega] at this
  exact this
theorem bc_one {L n : Nat} {R : Nat → Nat → Bool} {a len nx a' len' nx' : Nat} (h : BC L n R a len nx) (g : BC L n R a' len' nx') : a = a' ∧ len = len' ∧ nx = nx' := by
  obtain ⟨h1, h2, h3⟩ := h
  obtain ⟨g1, g2, g3⟩ := g
  have e1 := h3 a' g1 len' g2.2.2.1 (cy_self g2)
  have e2 := g3 a h1 len h2.2.2.1 (cy_self h2)
  have ea : a = a' := by omega
  have el : len = len' := by omega
  refine ⟨ea, el, ?_⟩
  subst ea
  subst el
  obtain ⟨-, h4, -, h5, -, h6⟩ := h2
  obtain ⟨-, g4, -, g5, -, g6⟩ := g2
  by_cases c : nx < nx'
  · exact absurd h5 (g6 nx c h4)
  · by_cases d : nx' < nx
    · exact absurd g5 (h6 nx' d g4)
    · omega
/-! The reference. -/
theorem m_next {L : Nat} {R : Nat → Nat → Bool} {z : Nat} {C0 : zA} (b : zB) (hL : L ≤ 120) (h47 : C0 194 47 = nI L) (hR : LD L R C0) (hz : z < L) : ∃ C' r, M_nextRound (nI z) C0 b = okI r C' b ∧ FQ C' C0 ∧ ((r = -1 ∧ noC L R z) ∨ ∃ x d, r = nI x ∧ x < 120 ∧ C' 225 x = nI d ∧ d < 120 ∧ CY L R z (d + 1) x) := by
  obtain ⟨C1, y1, y2, y3⟩ := m_reach b hL h47 hR hz
  have e47 : C1 194 47 = nI L := (congrFun (y2 194 (by decide) (by decide)) 47).trans h47
  have e222 : ∀ j, j < L → C1 222 (120 * z + j) = bI (R z j) := fun j hj => (congrFun (y2 222 (by decide) (by decide)) _).trans (hR z hz j hj)
  have rd : ∀ x, x < L → (C1 225 x = -1 ∨ ∃ d, d < 120 ∧ C1 225 x = nI d) := fun x hx => (y3 x hx).imp (fun h => h.1) (fun ⟨d, h1, h2, _⟩ => ⟨d, h1, h2⟩)
  have loop : ∀ k i r, i + k = L → ((r = -1 ∧ ∀ x, x < i → R z x = true → C1 225 x = -1) ∨ ∃ x d, x < i ∧ r = nI x ∧ R z x = true ∧ C1 225 x = nI d ∧ d < 120 ∧ ∀ x', x' < i → R z x' = true → C1 225 x' = -1 ∨ ∃ d', d' < 120 ∧ C1 225 x' = nI d' ∧ (d < d' ∨ (d = d' ∧ x ≤ x'))) → ∃ r', M_nextRound_9 (nI z) r (nI i) C1 b = okI r' C1 b ∧ ((r' = -1 ∧ ∀ x, x < L → R z x = true → C1 225 x = -1) ∨ ∃ x d, x < L ∧ r' = nI x ∧ R z x = true ∧ C1 225 x = nI d ∧ d < 120 ∧ ∀ x', x' < L → R z x' = true → C1 225 x' = -1 ∨ ∃ d', d' < 120 ∧ C1 225 x' = nI d' ∧ (d < d' ∨ (d = d' ∧ x ≤ x'))) := by
    intro k
    induction k with
    | zero =>
      intro i r e h
      have : i = L := by omega
      subst this
      refine ⟨r, ?_, h⟩
      rw [q_M_nextRound_9, e47, zcond_f (nI_nlt (Nat.le_refl _) (by omega))]
      exact okI_ret _ _ _
    | succ k ih =>
      intro i r e h
      have hi : i < L := by omega
      have k61 : ∀ r, M_nextRound_61 (nI z) r (nI i) C1 b = M_nextRound_9 (nI z) r (nI (i + 1)) C1 b := fun r => by rw [q_M_nextRound_61, nI_1]
      have k59 : M_nextRound_59 (nI z) (nI i) C1 b = M_nextRound_9 (nI z) (nI i) (nI (i + 1)) C1 b := by rw [q_M_nextRound_59, k61]
      have skip : (R z i = true → C1 225 i = -1 ∨ ∃ x d, x < i ∧ r = nI x ∧ R z x = true ∧ C1 225 x = nI d ∧ ∃ d', d' < 120 ∧ C1 225 i = nI d' ∧ d ≤ d') → ∃ r', M_nextRound_9 (nI z) r (nI (i + 1)) C1 b = okI r' C1 b ∧ ((r' = -1 ∧ ∀ x, x < L → R z x = true → C1 225 x = -1) ∨ ∃ x d, x < L ∧ r' = nI x ∧ R z x = true ∧ C1 225 x = nI d ∧ d < 120 ∧ ∀ x', x' < L → R z x' = true → C1 225 x' = -1 ∨ ∃ d', d' < 120 ∧ C1 225 x' = nI d' ∧ (d < d' ∨ (d = d' ∧ x ≤ x'))) := fun g => by
        refine ih (i + 1) r (by omega) ?_
        rcases h with ⟨h1, h2⟩ | ⟨x, d, h1, h2, h3, h4, h5, h6⟩
        · refine .inl ⟨h1, fun x hx hr => ?_⟩
          by_cases c : x = i
          · subst c
            rcases g hr with g | ⟨x', d, g1, g2, _⟩
            · exact g
            · rw [h1] at g2
              exact absurd g2.symm (nI_m1 (by omega))
          · exact h2 x (by omega) hr
        · refine .inr ⟨x, d, by omega, h2, h3, h4, h5, fun x' hx' hr => ?_⟩
          by_cases c : x' = i
          · subst c
            rcases g hr with g | ⟨x2, d2, g1, g2, g3, g4, d', g5, g6, g7⟩
            · exact .inl g
            · have ex : x2 = x := (nI_eq (by omega) (by omega)).mp (g2.symm.trans h2)
              rw [ex, h4] at g4
              have ed : d = d2 := by
                have b2 : d2 < 120 ∨ 120 ≤ d2 := by omega
                rcases b2 with b2 | b2
                · exact (nI_eq (by omega) (by omega)).mp g4
                · omega
              exact .inr ⟨d', g5, g6, by omega⟩
          · exact h6 x' (by omega) hr
      rw [q_M_nextRound_9, e47, zcond_t (nI_lt hi (by omega)), show (120 : Int32) * nI z + nI i = nI (120 * z + i) from s_mul 120 z i, zin_nI (n := 14400) (by omega) (by decide), cond_true, show (nI (120 * z + i)).toNatClampNeg = 120 * z + i from nI_clamp (by omega), e222 i hi, zc_b0, zin_nI (n := 120) (by omega) (by decide), cond_true, show (nI i).toNatClampNeg = i from nI_clamp (by omega), k61, k59]
      cases cr : R z i
      · rw [cond_false]
        exact skip (fun g => by rw [cr] at g; exact absurd g (by decide))
      · rw [cond_true]
        rcases rd i hi with c1 | ⟨di, c2, c1⟩
        · rw [c1, zcond_t (show (-1 : Int32) < 0 by decide)]
          exact skip (fun _ => .inl c1)
        · rw [c1, zcond_f (nI_pos (by omega))]
          rcases id h with ⟨h1, h2⟩ | ⟨x, d, h1, h2, h3, h4, h5, h6⟩
          · rw [h1, zcond_t (show (-1 : Int32) < 0 by decide)]
            refine ih (i + 1) (nI i) (by omega) (.inr ⟨i, di, Nat.lt_succ_self i, rfl, cr, c1, c2, fun x' hx' hr => ?_⟩)
            by_cases c : x' = i
            · rw [c]; exact .inr ⟨di, c2, c1, .inr ⟨rfl, Nat.le_refl _⟩⟩
            · exact .inl (h2 x' (by omega) hr)
          · rw [h2, zcond_f (nI_pos (by omega)), zin_nI (n := 120) (show x < 120 by omega) (by decide), cond_true, show (nI x).toNatClampNeg = x from nI_clamp (by omega), h4]
            by_cases c : di < d
            · rw [zcond_t (nI_lt c (by omega))]
              refine ih (i + 1) (nI i) (by omega) (.inr ⟨i, di, Nat.lt_succ_self i, rfl, cr, c1, c2, fun x' hx' hr => ?_⟩)
              by_cases c3 : x' = i
              · rw [c3]; exact .inr ⟨di, c2, c1, .inr ⟨rfl, Nat.le_refl _⟩⟩
              · rcases h6 x' (by omega) hr with g | ⟨d', g1, g2, g3⟩
                · exact .inl g
                · exact .inr ⟨d', g1, g2, by omega⟩
            · rw [zcond_f (nI_nlt (by omega) (by omega)), ← h2]
              exact skip (fun _ => .inr ⟨x, d, h1, h2, h3, h4, di, c2, c1, by omega⟩)
  obtain ⟨r, w1, w2⟩ := loop L 0 (-1) (Nat.zero_add _) (.inl ⟨rfl, fun x hx => absurd hx (Nat.not_lt_zero _)⟩)
  refine ⟨C1, r, ?_, y2, ?_⟩
  · rw [q_M_nextRound, y1, zcV_ok]
    exact w1
  · have no : ∀ x, x < L → C1 225 x = -1 → ∀ s, ¬ wkB L R s x z := fun x hx hc => by
      rcases y3 x hx with h | ⟨d, h1, h2, _⟩
      · exact h.2
      · rw [hc] at h2
        exact absurd h2.symm (nI_m1 (by omega))
    have yes : ∀ x d, x < L → d < 120 → C1 225 x = nI d → wkB L R d x z ∧ ∀ s, s < d → ¬ wkB L R s x z := fun x d hx hd hc => by
      rcases y3 x hx with h | ⟨d', h1, h2, h3, h4⟩
      · rw [hc] at h
        exact absurd h.1 (nI_m1 (by omega))
      · have : d = d' := (nI_eq (by omega) (by omega)).mp (hc.symm.trans h2)
        subst this
        exact ⟨h3, h4⟩
    rcases w2 with ⟨h1, h2⟩ | ⟨x, d, h1, h2, h3, h4, h5, h6⟩
    · refine .inl ⟨h1, fun s hs hw => ?_⟩
      obtain ⟨s, rfl⟩ : ∃ s', s = s' + 1 := ⟨s - 1, by omega⟩
      obtain ⟨x, x1, x2, x3⟩ := hw
      exact no x x1 (h2 x x1 x2) s x3
    · refine .inr ⟨x, d, h2, by omega, h4, h5, h1, h3, by omega, by rw [Nat.add_sub_cancel]; exact (yes x d h1 h5 h4).1, fun s hs hw => ?_, fun x' hx' hr hw => ?_⟩
      · obtain ⟨s, rfl⟩ : ∃ s', s = s' + 1 := ⟨s - 1, by omega⟩
        obtain ⟨x', x1, x2, x3⟩ := hw
        rcases h6 x' x1 x2 with g | ⟨d', g1, g2, g3⟩
        · exact absurd x3 (no x' x1 g s)
        · have := (yes x' d' x1 g1 g2).2 s
          by_cases c : s < d'
          · exact absurd x3 (this c)
          · omega
      · rw [Nat.add_sub_cancel] at hw
        rcases h6 x' (by omega) hr with g | ⟨d', g1, g2, g3⟩
        · exact no x' (by omega) g d hw
        · have := (yes x' d' (by omega) g1 g2).2 d
          by_cases c : d < d'
          · exact this c hw
          · omega
theorem m_rounds {L : Nat} {R : Nat → Nat → Bool} {C0 : zA} (b : zB) (hL : L ≤ 120) (h47 : C0 194 47 = nI L) (hR : LD L R C0) : ∀ k i v1 v2 v3 C, i + k = L → FQ C C0 → ((v1 = -2 ∧ ∀ a, a < i → noC L R a) ∨ ∃ a len nx, v1 = nI len ∧ v2 = nI a ∧ v3 = nI nx ∧ len ≤ 120 ∧ BC L i R a len nx) → ∃ C' v1' v2' v3', M_round_29 v1 v2 v3 (nI i) C b = M_round_29 v1' v2' v3' (nI L) C' b ∧ FQ C' C0 ∧ ((v1' = -2 ∧ ∀ a, a < L → noC L R a) ∨ ∃ a len nx, v1' = nI len ∧ v2' = nI a ∧ v3' = nI nx ∧ len ≤ 120 ∧ BC L L R a len nx) := by
  intro k
  induction k with
  | zero =>
    intro i v1 v2 v3 C e hF h
    have : i = L := by omega
    subst this
    exact ⟨C, v1, v2, v3, rfl, hF, h⟩
  | succ k ih =>
    intro i v1 v2 v3 C e hF h
    have hi : i < L := by omega
    have e47 : C 194 47 = nI L := (congrFun (hF 194 (by decide) (by decide)) 47).trans h47
    obtain ⟨C', r, y1, y2, y3⟩ := m_next (C0 := C) b hL e47 (fun a ha j hj => (congrFun (hF 222 (by decide) (by decide)) _).trans (hR a ha j hj)) hi
    have hF' : FQ C' C0 := fun q h1 h2 => (y2 q h1 h2).trans (hF q h1 h2)
    have k84 : ∀ w1 w2 w3, M_round_84 w1 w2 w3 (nI i) C' b = M_round_29 w1 w2 w3 (nI (i + 1)) C' b := fun w1 w2 w3 => by rw [q_M_round_84, nI_1]
    rw [q_M_round_29, e47, zcond_t (nI_lt hi (by omega)), y1, zcI_ok, k84]
    rcases y3 with ⟨c1, c2⟩ | ⟨x, d, c1, c2, c3, c4, c5⟩
    · rw [c1, zcond_t (show (-1 : Int32) < 0 by decide)]
      refine ih (i + 1) v1 v2 v3 C' (by omega) hF' ?_
      rcases h with ⟨h1, h2⟩ | ⟨a, len, nx, h1, h2, h3, h4, h5, h6, h7⟩
      · refine .inl ⟨h1, fun a ha => ?_⟩
        by_cases c : a = i
        · rw [c]; exact c2
        · exact h2 a (by omega)
      · refine .inr ⟨a, len, nx, h1, h2, h3, h4, by omega, h6, fun a' ha' s hs hw => ?_⟩
        by_cases c : a' = i
        · rw [c] at hw; exact absurd hw (c2 s hs)
        · exact h7 a' (by omega) s hs hw
    · have k68 : M_round_68 (nI i) (nI x) C' b = M_round_29 (nI (d + 1)) (nI i) (nI x) (nI (i + 1)) C' b := by
        rw [q_M_round_68, zin_nI (n := 120) c2 (by decide), cond_true, show (nI x).toNatClampNeg = x from nI_clamp (by omega), c3, nI_1, k84]
      rw [c1, zcond_f (nI_pos (by omega)), k68, zin_nI (n := 120) c2 (by decide), cond_true, show (nI x).toNatClampNeg = x from nI_clamp (by omega), c3, nI_1]
      rcases h with ⟨h1, h2⟩ | ⟨a, len, nx, h1, h2, h3, h4, h5, h6, h7⟩
      · rw [h1, zcond_t (show (-2 : Int32) < 0 by decide)]
        refine ih (i + 1) _ _ _ C' (by omega) hF' (.inr ⟨i, d + 1, x, rfl, rfl, rfl, by omega, by omega, c5, fun a' ha' s hs hw => ?_⟩)
        by_cases c : a' = i
        · have := c5.2.2.2.2.1 s hs (by rw [c] at hw; exact hw)
          omega
        · exact absurd hw (h2 a' (by omega) s hs)
      · rw [h1, zcond_f (nI_pos (by omega))]
        by_cases c : d + 1 < len
        · rw [zcond_t (nI_lt c (by omega))]
          refine ih (i + 1) _ _ _ C' (by omega) hF' (.inr ⟨i, d + 1, x, rfl, rfl, rfl, by omega, by omega, c5, fun a' ha' s hs hw => ?_⟩)
          by_cases c6 : a' = i
          · have := c5.2.2.2.2.1 s hs (by rw [c6] at hw; exact hw)
            omega
          · have := h7 a' (by omega) s hs hw
            omega
        · rw [zcond_f (nI_nlt (by omega) (by omega)), ← h1]
          refine ih (i + 1) _ _ _ C' (by omega) hF' (.inr ⟨a, len, nx, h1, h2, h3, h4, by omega, h6, fun a' ha' s hs hw => ?_⟩)
          by_cases c6 : a' = i
          · have := c5.2.2.2.2.1 s hs (by rw [c6] at hw; exact hw)
            omega
          · exact h7 a' (by omega) s hs hw
theorem m_tellN {Q k : Nat} {C : zA} {b : zB} {g : Nat → Int32} {l : List Int32} (hQ : Q ≤ 5) (hk : k < 120) (hl : l.length ≤ 20) (hq : C 194 7 = nI Q) (hg : ∀ q, q < Q → C 221 (5 * k + q) = g q) : M_entersList (nI k) (mT C l) b = okV (mT C (l ++ (List.range Q).map g)) b := by
  have hs : ∀ i, i < Q → M_entersList_2 (nI k) (nI i) (mT C (l ++ (List.range i).map g)) b = M_entersList_2 (nI k) (nI (i + 1)) (mT C (l ++ (List.range (i + 1)).map g)) b := by
    intro i hi
    have e1 : mT C (l ++ (List.range i).map g) 221 (5 * k + i) = g i := (congrFun (mT_q (by decide)) _).trans (hg i hi)
    have e2 := m_ent (l := l ++ (List.range i).map g) (by rw [List.length_append, List.length_map, List.length_range]; omega) (g i) C b
    rw [List.append_assoc, show (List.range i).map g ++ [g i] = (List.range (i + 1)).map g from by rw [List.range_succ, List.map_append]; rfl] at e2
    rw [q_M_entersList_2, show mT C (l ++ (List.range i).map g) 194 7 = nI Q from (mT_j (by decide)).trans hq, zcond_t (nI_lt hi (by omega)), show (5 : Int32) * nI k + nI i = nI (5 * k + i) from s_mul 5 k i, zin_nI (n := 600) (by omega) (by decide), cond_true, show (nI (5 * k + i)).toNatClampNeg = 5 * k + i from nI_clamp (by omega), e1, e2, zcV_ok, nI_1]
  have h := lpC (F := fun i => M_entersList_2 (nI k) (nI i) (mT C (l ++ (List.range i).map g)) b) hs Q 0 (Nat.zero_add _)
  rw [show (List.range 0).map g = [] from rfl, List.append_nil] at h
  rw [q_M_entersList]
  refine Eq.trans h ?_
  rw [q_M_entersList_2, show mT C (l ++ (List.range Q).map g) 194 7 = nI Q from (mT_j (by decide)).trans hq, zcond_f (nI_nlt (Nat.le_refl _) (by omega))]
  exact okV_ret _ _
theorem x_tellN {Q k : Nat} {A : zA} {b : zB} {g : Nat → Int32} {l : List Int32} (hQ : Q ≤ 5) (hk : k < 120) (hl : l.length ≤ 20) (hq : A 2 1 = nI Q) (hg : ∀ q, q < Q → A 37 (5 * k + q) = g q) : X_tellNode (nI k) (xT A l) b = okV (xT A (l ++ (List.range Q).map g)) b := by
  have hs : ∀ i, i < Q → X_tellNode_2 (nI k) (nI i) (xT A (l ++ (List.range i).map g)) b = X_tellNode_2 (nI k) (nI (i + 1)) (xT A (l ++ (List.range (i + 1)).map g)) b := by
    intro i hi
    have e1 : xT A (l ++ (List.range i).map g) 37 (5 * k + i) = g i := (congrFun (xT_q (by decide)) _).trans (hg i hi)
    have e2 := x_tell (l := l ++ (List.range i).map g) (by rw [List.length_append, List.length_map, List.length_range]; omega) (g i) A b
    rw [List.append_assoc, show (List.range i).map g ++ [g i] = (List.range (i + 1)).map g from by rw [List.range_succ, List.map_append]; rfl] at e2
    rw [q_X_tellNode_2, show xT A (l ++ (List.range i).map g) 2 1 = nI Q from (congrFun (xT_q (by decide)) 1).trans hq, zcond_t (nI_lt hi (by omega)), x_one hk (by omega), zcI_ok, e1, e2, zcV_ok, nI_1]
  have h := lpC (F := fun i => X_tellNode_2 (nI k) (nI i) (xT A (l ++ (List.range i).map g)) b) hs Q 0 (Nat.zero_add _)
  rw [show (List.range 0).map g = [] from rfl, List.append_nil] at h
  rw [q_X_tellNode]
  refine Eq.trans h ?_
  rw [q_X_tellNode_2, show xT A (l ++ (List.range Q).map g) 2 1 = nI Q from (congrFun (xT_q (by decide)) 1).trans hq, zcond_f (nI_nlt (Nat.le_refl _) (by omega))]
  exact okV_ret _ _
/-! The class. -/
def BF (N n : Nat) (R : Nat → Nat → Bool) (U : Nat → Bool) (j len : Nat) : Prop := j < n ∧ U j = true ∧ 1 ≤ len ∧ wkF N R U len j j ∧ ∀ i, i < n → U i = true → ∀ s, 1 ≤ s → wkF N R U s i i → len < s ∨ (len = s ∧ j ≤ i)
def FZ (A A0 : zA) : Prop := (∀ q, q ≠ 35 → A q = A0 q) ∧ ∀ j, j ≠ 0 → A 35 j = A0 35 j
theorem x_short {N : Nat} {R : Nat → Nat → Bool} {U : Nat → Bool} {A0 : zA} (hN : N ≤ 120) (h18 : A0 35 18 = nI N) : ∀ k i v A b, i + k = N → FZ A A0 → nxB N R b → rB 41 N U b → ((v = 0 ∧ ∀ i', i' < i → U i' = true → ∀ s, 1 ≤ s → ¬ wkF N R U s i' i') ∨ ∃ j len, v = nI len ∧ len ≤ 120 ∧ A 35 0 = nI j ∧ BF N i R U j len) → ∃ A' b' v', R_shortestRound_4 v (nI i) A b = okI v' A' b' ∧ FZ A' A0 ∧ nxB N R b' ∧ rB 41 N U b' ∧ ((v' = 0 ∧ ∀ i', i' < N → U i' = true → ∀ s, 1 ≤ s → ¬ wkF N R U s i' i') ∨ ∃ j len, v' = nI len ∧ len ≤ 120 ∧ A' 35 0 = nI j ∧ BF N N R U j len) := by
  intro k
  induction k with
  | zero =>
    intro i v A b e hF hn hU h
    have : i = N := by omega
    subst this
    refine ⟨A, b, v, ?_, hF, hn, hU, h⟩
    rw [q_R_shortestRound_4, hF.2 18 (by decide), h18, zcond_f (nI_nlt (Nat.le_refl _) (by omega))]
    exact okI_ret _ _ _
  | succ k ih =>
    intro i v A b e hF hn hU h
    have hi : i < N := by omega
    have e18 : A 35 18 = nI N := (hF.2 18 (by decide)).trans h18
    have k54 : ∀ v A b, R_shortestRound_54 v (nI i) A b = R_shortestRound_4 v (nI (i + 1)) A b := fun v A b => by rw [q_R_shortestRound_54, nI_1]
    have skip : ∀ b, nxB N R b → rB 41 N U b → (U i = true → ∀ s, 1 ≤ s → wkF N R U s i i → ∃ j len, v = nI len ∧ 1 ≤ len ∧ len ≤ 120 ∧ A 35 0 = nI j ∧ j < i ∧ len ≤ s) → ∃ A' b' v', R_shortestRound_4 v (nI (i + 1)) A b = okI v' A' b' ∧ FZ A' A0 ∧ nxB N R b' ∧ rB 41 N U b' ∧ ((v' = 0 ∧ ∀ i', i' < N → U i' = true → ∀ s, 1 ≤ s → ¬ wkF N R U s i' i') ∨ ∃ j len, v' = nI len ∧ len ≤ 120 ∧ A' 35 0 = nI j ∧ BF N N R U j len) := fun b hn hU g => by
      refine ih (i + 1) v A b (by omega) hF hn hU ?_
      rcases h with ⟨h1, h2⟩ | ⟨j, len, h1, h2, h3, h4, h5, h6, h7, h8⟩
      · refine .inl ⟨h1, fun i' hi' hu s hs hw => ?_⟩
        by_cases c : i' = i
        · subst c
          obtain ⟨j, len, g1, g2, g3, _⟩ := g hu s hs hw
          rw [h1] at g1
          have := (nI_eq (a := 0) (by decide) (by omega)).mp g1
          omega
        · exact h2 i' (by omega) hu s hs hw
      · refine .inr ⟨j, len, h1, h2, h3, by omega, h5, h6, h7, fun i' hi' hu s hs hw => ?_⟩
        by_cases c : i' = i
        · subst c
          obtain ⟨j', len', g1, g2, g3, g4, g5, g6⟩ := g hu s hs hw
          have : len = len' := (nI_eq (by omega) (by omega)).mp (h1.symm.trans g1)
          omega
        · exact h8 i' (by omega) hu s hs hw
    rw [q_R_shortestRound_4, e18, zcond_t (nI_lt hi (by omega)), k_has kc_41 (by omega), zcI_ok, zc_b0, hU i (by omega), decide_eq_true hi, Bool.true_and]
    cases cu : U i
    · rw [cond_false, q_R_shortestRound_33, zcond_f (show ¬ (0 : Int32) < 0 by decide), k54]
      exact skip b hn hU (fun z => by rw [cu] at z; exact absurd z (by decide))
    · obtain ⟨b1, d, y1, y2, y3, y4, y5⟩ := x_steps hN e18 hi hi b hn hU
      rw [cond_true, y1, zcI_ok, q_R_shortestRound_33, k54]
      have k47 : R_shortestRound_47 (nI i) (nI d) A b1 = R_shortestRound_4 (nI d) (nI (i + 1)) (zup A 35 0 (nI i)) b1 := by rw [q_R_shortestRound_47, k54]
      have take : 1 ≤ d → wkF N R U d i i → (∀ s, 1 ≤ s → s < d → ¬ wkF N R U s i i) → (∀ i', i' < i → U i' = true → ∀ s, 1 ≤ s → wkF N R U s i' i' → d < s) → ∃ A' b' v', R_shortestRound_47 (nI i) (nI d) A b1 = okI v' A' b' ∧ FZ A' A0 ∧ nxB N R b' ∧ rB 41 N U b' ∧ ((v' = 0 ∧ ∀ i', i' < N → U i' = true → ∀ s, 1 ≤ s → ¬ wkF N R U s i' i') ∨ ∃ j len, v' = nI len ∧ len ≤ 120 ∧ A' 35 0 = nI j ∧ BF N N R U j len) := fun g1 g2 g3 g4 => by
        rw [k47]
        refine ih (i + 1) (nI d) (zup A 35 0 (nI i)) b1 (by omega) ⟨fun q hq => by rw [zup_row hq]; exact hF.1 q hq, fun j hj => by rw [zup_nj hj]; exact hF.2 j hj⟩ y4 y5 (.inr ⟨i, d, rfl, y2, zup_eq _ _ _ _, by omega, cu, g1, g2, fun i' hi' hu s hs hw => ?_⟩)
        by_cases c : i' = i
        · rw [c] at hw ⊢
          by_cases c2 : s < d
          · exact absurd hw (g3 s hs c2)
          · omega
        · exact .inl (g4 i' (by omega) hu s hs hw)
      rcases y3 with ⟨d0, d1⟩ | ⟨d0, d1, d2⟩
      · rw [d0, zcond_f (show ¬ (0 : Int32) < nI 0 by decide)]
        exact skip b1 y4 y5 (fun _ s hs hw => absurd hw (d1 s hs))
      · rw [zcond_t (show (0 : Int32) < nI d from nI_lt (a := 0) d0 (by omega))]
        rcases id h with ⟨h1, h2⟩ | ⟨j, len, h1, h2, h3, h4, h5, h6, h7, h8⟩
        · rw [h1, zcond_t rfl]
          exact take d0 d1 d2 (fun i' hi' hu s hs hw => absurd hw (h2 i' hi' hu s hs))
        · rw [h1, zcond_f (show ¬ nI len = 0 from fun z => by have := (nI_eq (b := 0) (by omega) (by decide)).mp z; omega)]
          by_cases c : d < len
          · rw [zcond_t (nI_lt c (by omega))]
            exact take d0 d1 d2 (fun i' hi' hu s hs hw => by have := h8 i' hi' hu s hs hw; omega)
          · rw [zcond_f (nI_nlt (by omega) (by omega)), ← h1]
            refine skip b1 y4 y5 (fun _ s hs hw => ⟨j, len, h1, h6, h2, h3, h4, ?_⟩)
            by_cases c2 : s < d
            · exact absurd hw (d2 s hs c2)
            · omega
theorem wkF_front {N : Nat} {R : Nat → Nat → Bool} {U : Nat → Bool} {i : Nat} (hi : i < N) : ∀ s x, x < N → (wkF N R U (s + 1) i x ↔ ∃ m, m < N ∧ U m = true ∧ R i m = true ∧ wkF N R U s m x)
  | 0, x, hx => by
    constructor
    · rintro ⟨h1, y, h2, h3, h4⟩
      have h3' : y = i := h3
      rw [h3'] at h4
      exact ⟨x, hx, h1, h4, rfl⟩
    · rintro ⟨m, h1, h2, h3, h4⟩
      have h4' : x = m := h4
      rw [h4']
      exact ⟨h2, i, hi, rfl, h3⟩
  | s + 1, x, hx => by
    constructor
    · rintro ⟨h1, y, h2, h3, h4⟩
      obtain ⟨m, g1, g2, g3, g4⟩ := (wkF_front hi s y h2).mp h3
      exact ⟨m, g1, g2, g3, h1, y, h2, g4, h4⟩
    · rintro ⟨m, g1, g2, g3, h1, y, h2, g4, h4⟩
      exact ⟨h1, y, h2, (wkF_front hi s y h2).mpr ⟨m, g1, g2, g3, g4⟩, h4⟩
theorem x_nextOn {N : Nat} {R : Nat → Nat → Bool} {U : Nat → Bool} {A : zA} {j len : Nat} (hN : N ≤ 120) (h18 : A 35 18 = nI N) (hl : len ≤ 120) (hB : BF N N R U j len) : ∀ k m b, m + k = N → nxB N R b → rB 41 N U b → (∀ m', m' < m → U m' = true → R j m' = true → ¬ wkF N R U (len - 1) m' j) → ∃ b' x, R_nextOnRound_2 (nI j) (nI len) (nI m) A b = okI (nI x) A b' ∧ x < N ∧ U x = true ∧ R j x = true ∧ wkF N R U (len - 1) x j ∧ ∀ m', m' < x → U m' = true → R j m' = true → ¬ wkF N R U (len - 1) m' j := by
  obtain ⟨h1, h2, h3, h4, h5⟩ := hB
  intro k
  induction k with
  | zero =>
    intro m b e hn hU hno
    have e1 : len - 1 + 1 = len := by omega
    rw [← e1] at h4
    obtain ⟨x, g1, g2, g3, g4⟩ := (wkF_front h1 (len - 1) j h1).mp h4
    exact absurd g4 (hno x (by omega) g2 g3)
  | succ k ih =>
    intro m b e hn hU hno
    have hm : m < N := by omega
    have k61 : ∀ b, R_nextOnRound_61 (nI j) (nI len) (nI m) A b = R_nextOnRound_2 (nI j) (nI len) (nI (m + 1)) A b := fun b => by rw [q_R_nextOnRound_61, nI_1]
    have k59 : ∀ b, R_nextOnRound_59 (nI m) A b = okI (nI m) A b := fun b => by rw [q_R_nextOnRound_59]; exact okI_ret _ _ _
    have skip : ∀ b, nxB N R b → rB 41 N U b → (U m = true → R j m = true → ¬ wkF N R U (len - 1) m j) → ∃ b' x, R_nextOnRound_2 (nI j) (nI len) (nI (m + 1)) A b = okI (nI x) A b' ∧ x < N ∧ U x = true ∧ R j x = true ∧ wkF N R U (len - 1) x j ∧ ∀ m', m' < x → U m' = true → R j m' = true → ¬ wkF N R U (len - 1) m' j := fun b hn hU g => ih (m + 1) b (by omega) hn hU (fun m' hm' hu hr => by
      by_cases c : m' = m
      · rw [c] at hu hr ⊢; exact g hu hr
      · exact hno m' (by omega) hu hr)
    rw [q_R_nextOnRound_2, h18, zcond_t (nI_lt hm (by omega)), k_has kc_41 (by omega), zcI_ok, zc_b0, hU m (by omega), decide_eq_true hm, Bool.true_and, zin_nI (n := 120) (show j < 120 by omega) (by decide), show (nI j).toNatClampNeg = j from nI_clamp (by omega), kc_rs (by omega), kc_rg (by omega), kc_k (by omega), k_has (kc_k (by omega)) (by omega), zcI_ok, zc_b0, hn j h1 m (by omega), decide_eq_true hm, Bool.true_and, k61]
    cases cu : U m
    · exact skip b hn hU (fun z => by rw [cu] at z; exact absurd z (by decide))
    · cases cr : R j m
      · exact skip b hn hU (fun _ z => by rw [cr] at z; exact absurd z (by decide))
      · show ∃ b' x, cond (decide (nI len = 1)) (cond (decide (nI m = nI j)) (R_nextOnRound_59 (nI m) A b) (R_nextOnRound_2 (nI j) (nI len) (nI (m + 1)) A b)) (zcI (R_stepsTo (nI m) (nI j) A b) (fun y3 a3 b3 => cond (decide (y3 = (nI len - 1))) (R_nextOnRound_59 (nI m) a3 b3) (R_nextOnRound_61 (nI j) (nI len) (nI m) a3 b3))) = okI (nI x) A b' ∧ _
        by_cases c1 : len = 1
        · rw [zcond_t (show nI len = 1 by rw [c1]; rfl)]
          by_cases c2 : m = j
          · rw [zcond_t (show nI m = nI j by rw [c2]), k59]
            refine ⟨b, m, rfl, hm, cu, cr, ?_, hno⟩
            rw [c1]
            exact c2.symm
          · rw [zcond_f (show ¬ nI m = nI j from fun z => c2 ((nI_eq (by omega) (by omega)).mp z))]
            refine skip b hn hU (fun _ _ z => ?_)
            rw [c1] at z
            have z' : j = m := z
            exact c2 z'.symm
        · obtain ⟨b1, d, y1, y2, y3, y4, y5⟩ := x_steps hN h18 hm h1 b hn hU
          rw [zcond_f (show ¬ nI len = 1 from fun z => c1 ((nI_eq (b := 1) (by omega) (by decide)).mp z)), y1, zcI_ok, k59, k61, show nI len - 1 = nI (len - 1) from pk_sub (b := 1) h3]
          have key : d = len - 1 ↔ wkF N R U (len - 1) m j := by
            constructor
            · intro z
              rcases y3 with ⟨d0, d1⟩ | ⟨d0, d1, d2⟩
              · omega
              · rw [← z]; exact d1
            · intro z
              rcases y3 with ⟨d0, d1⟩ | ⟨d0, d1, d2⟩
              · exact absurd z (d1 (len - 1) (by omega))
              · have a1 : ¬ len - 1 < d := fun c => d2 (len - 1) (by omega) c z
                have a2 : wkF N R U (d + 1) j j := (wkF_front h1 d j h1).mpr ⟨m, hm, cu, cr, d1⟩
                have a3 := h5 j h1 h2 (d + 1) (by omega) a2
                omega
          by_cases c2 : d = len - 1
          · rw [zcond_t (show nI d = nI (len - 1) by rw [c2])]
            exact ⟨b1, m, rfl, hm, cu, cr, key.mp c2, hno⟩
          · rw [zcond_f (show ¬ nI d = nI (len - 1) from fun z => c2 ((nI_eq (by omega) (by omega)).mp z))]
            exact skip b1 y4 y5 (fun _ _ z => c2 (key.mpr z))
/-- the class's round is the reference's -/
theorem bf_bc {n m : Nat} {ok : Nat → Bool} {e : Nat → Nat} {R R' : Nat → Nat → Bool} {a nx len : Nat} (he : embO n m ok e) (hR : ∀ k k', k < m → k' < m → R' k k' = R (e k) (e k')) (ha : a < m) (hx : nx < m) (hB : BF n n R ok (e a) len) (hr : R (e a) (e nx) = true) (hw : wkF n R ok (len - 1) (e nx) (e a)) (hno : ∀ m', m' < e nx → ok m' = true → R (e a) m' = true → ¬ wkF n R ok (len - 1) m' (e a)) : BC m m R' a len nx := by
  obtain ⟨h1, h2, h3, h4, h5⟩ := hB
  have wk := wk_emb he hR
  refine ⟨ha, ⟨hx, by rw [hR a nx ha hx]; exact hr, h3, (wk _ nx a hx ha).mp hw, fun s hs hc => ?_, fun b hb hrb hc => ?_⟩, fun a' ha' s hs hc => ?_⟩
  · have := h5 (e a) h1 h2 s hs ((wk s a a ha ha).mpr hc)
    omega
  · have hbm : b < m := by omega
    exact hno (e b) (he.2.1 b nx hb hx) (he.1 b hbm).2 (by rw [← hR a b ha hbm]; exact hrb) ((wk _ b a hbm ha).mpr hc)
  · have := h5 (e a') (he.1 a' ha').1 (he.1 a' ha').2 s hs ((wk s a' a' ha' ha').mpr hc)
    rcases this with g | ⟨g1, g2⟩
    · exact .inl g
    · refine .inr ⟨g1, ?_⟩
      by_cases c : a' < a
      · have := he.2.1 a' a c ha
        omega
      · omega
