/-! What a line may tell, and what is noted of it. -/
def actOk (s : Nat × Nat × Nat × Nat) : Prop := (s.1 ≤ 2 ∧ s.2.1 ≤ 9) ∨ (s.1 = 3 ∧ s.2.1 ≤ 9 ∧ s.2.2.1 ≤ 9) ∨ (s.1 = 4 ∧ s.2.1 ≤ 9 ∧ s.2.2.1 ≤ s.2.2.2 ∧ s.2.2.2 ≤ 99)
def resOk (E n : Nat) (r : Nat × Option (Nat × Nat × Nat × Nat)) : Prop := r.1 ≤ E ∧ ∀ s, r.2 = some s → n + 2 ≤ r.1 ∧ actOk s ∧ (s.1 = 4 → n + 6 ≤ r.1)
theorem resOk_n {E n m : Nat} (h : m ≤ E) : resOk E n (m, none) := ⟨h, fun s e => absurd e (by simp)⟩
theorem sp_ok {E n k : Nat} {tp : Nat → Int32} (hn : n + 1 ≤ E) (hk : k ≤ 2) : resOk E n (spP E tp k (n + 1)) := by
  unfold spP
  cases h1 : dgP E tp (n + 1) with
  | none => exact resOk_n hn
  | some v =>
    obtain ⟨a1, a2, -⟩ := dg_v h1
    refine ⟨show n + 1 + 1 ≤ E by omega, fun s e => ?_⟩
    have e := Option.some.inj e
    subst e
    exact ⟨show n + 2 ≤ n + 1 + 1 by omega, .inl ⟨hk, a2⟩, fun z => absurd (show k = 4 from z) (by omega)⟩
theorem br_ok {E n : Nat} {tp : Nat → Int32} (hn : n + 1 ≤ E) : resOk E n (brP E tp (n + 1)) := by
  unfold brP
  cases h1 : dgP E tp (n + 1) with
  | none => exact resOk_n hn
  | some v =>
    obtain ⟨a1, a2, -⟩ := dg_v h1
    simp only [Option.elim_some]
    cases t1 : tkP E tp 45 (n + 1 + 1)
    · exact resOk_n (by omega)
    · have l := (tk_lt t1).1
      simp only [cond_true]
      cases h2 : dgP E tp (n + 1 + 2) with
      | none => exact resOk_n (by omega)
      | some w =>
        obtain ⟨b1, b2, -⟩ := dg_v h2
        refine ⟨show n + 1 + 3 ≤ E by omega, fun s e => ?_⟩
        have e := Option.some.inj e
        subst e
        exact ⟨show n + 2 ≤ n + 1 + 3 by omega, .inr (.inl ⟨rfl, a2, b2⟩), fun z => absurd (show 3 = 4 from z) (by decide)⟩
theorem aw_ok {E n : Nat} {tp : Nat → Int32} (hn : n + 1 ≤ E) : resOk E n (awP E tp (n + 1)) := by
  unfold awP
  cases h1 : dgP E tp (n + 1) with
  | none => exact resOk_n hn
  | some w =>
    obtain ⟨a1, a2, -⟩ := dg_v h1
    simp only [Option.elim_some]
    cases t1 : tkP E tp 44 (n + 1 + 1)
    · exact resOk_n (by omega)
    · have l := (tk_lt t1).1
      simp only [cond_true]
      cases h2 : d2P E tp (n + 1 + 2) with
      | none => exact resOk_n (by omega)
      | some r =>
        obtain ⟨b1, b2, b3⟩ := d2_v h2
        simp only [Option.elim_some]
        cases t2 : tkP E tp 45 r.2
        · exact resOk_n (by omega)
        · have l2 := (tk_lt t2).1
          simp only [cond_true]
          cases h3 : d2P E tp (r.2 + 1) with
          | none => exact resOk_n (by omega)
          | some q =>
            obtain ⟨d1, d2, d3⟩ := d2_v h3
            simp only [Option.elim_some]
            by_cases c : q.1 < r.1
            · rw [decide_eq_true c]
              exact resOk_n (show q.2 - 1 ≤ E by omega)
            · rw [decide_eq_false c]
              refine ⟨d3, fun s e => ?_⟩
              have e := Option.some.inj e
              subst e
              exact ⟨show n + 2 ≤ q.2 by omega, .inr (.inr ⟨rfl, a2, show r.1 ≤ q.1 by omega, d1⟩), fun _ => show n + 6 ≤ q.2 by omega⟩
theorem line_ok {E n : Nat} {tp : Nat → Int32} (hn : n ≤ E) : resOk E n (lineP E tp n) := by
  unfold lineP
  cases t1 : tkP E tp 119 n
  · cases t2 : tkP E tp 98 n
    · cases t3 : tkP E tp 102 n
      · cases t4 : tkP E tp 120 n
        · cases t5 : tkP E tp 97 n
          · exact resOk_n hn
          · exact aw_ok (by have := (tk_lt t5).1; omega)
        · exact br_ok (by have := (tk_lt t4).1; omega)
      · exact sp_ok (by have := (tk_lt t3).1; omega) (by decide)
    · exact sp_ok (by have := (tk_lt t2).1; omega) (by decide)
  · exact sp_ok (by have := (tk_lt t1).1; omega) (by decide)
def fRX (A a : zA) : Prop := ∀ q, ¬ (21 ≤ q ∧ q ≤ 25) → A q = a q
def fRM (C c : zA) : Prop := (∀ q, q ≠ 194 → ¬ (211 ≤ q ∧ q ≤ 214) → C q = c q) ∧ ∀ j, ¬ (25 ≤ j ∧ j ≤ 29) → j ≠ 35 → C 194 j = c 194 j
/-- read alike so far -/
def rRd (K : Nat) (A C : zA) : Prop := ((∃ v, v ≤ 9 ∧ A 23 0 = nI v ∧ C 194 25 = nI v) ∧ (∃ v, v ≤ 9 ∧ A 23 1 = nI v ∧ C 194 26 = nI v) ∧ ∃ v, v < 1024 ∧ A 22 3 = nI v ∧ C 194 27 = nI v) ∧ (∀ j, j < 10 → ∃ v, v < 1024 ∧ A 24 j = nI v ∧ C 211 j = nI v) ∧ C 194 29 = nI K ∧ (∀ k, k < K → ∃ p f t, p < 10 ∧ f ≤ t ∧ t < 100 ∧ C 212 k = nI p ∧ C 213 k = nI f ∧ C 214 k = nI t) ∧ ∀ p d, p < 10 → d < 100 → (A 25 (100 * p + d) = 0 ∨ A 25 (100 * p + d) = 1) ∧ (A 25 (100 * p + d) = 1 ↔ ∃ k f t, k < K ∧ t < 100 ∧ C 212 k = nI p ∧ C 213 k = nI f ∧ C 214 k = nI t ∧ f ≤ d ∧ d ≤ t)
theorem bit_ok {v i : Nat} (hv : v < 1024) (hi : i ≤ 9) : nI v ||| (1 <<< (nI i &&& 31)) = nI (v ||| 2 ^ i) ∧ v ||| 2 ^ i < 1024 := ⟨orB hv (by omega), or_lt (P := 10) hv (by omega)⟩
theorem rRd_p {K : Nat} {A C : zA} (h : rRd K A C) (x y : Int32) : rRd K (zup A 21 3 x) (zup C 194 35 y) := by
  have e : ∀ j, j ≠ 35 → zup C 194 35 y 194 j = C 194 j := fun j hj => zup_nj hj
  unfold rRd
  rw [zup_row (q' := 23) (by decide), zup_row (q' := 22) (by decide), zup_row (q' := 24) (by decide), zup_row (q' := 25) (by decide), zup_row (q' := 211) (by decide), zup_row (q' := 212) (by decide), zup_row (q' := 213) (by decide), zup_row (q' := 214) (by decide), e 25 (by decide), e 26 (by decide), e 27 (by decide), e 29 (by decide)]
  exact h
theorem act_ok {K : Nat} {s : Nat × Nat × Nat × Nat} {A C : zA} (hs : actOk s) (h : rRd K A C) : rRd (if s.1 = 4 then K + 1 else K) (actX s A) (actM K s C) := by
  obtain ⟨k, x, y, z⟩ := s
  obtain ⟨⟨h1, h2, v3, w3, h3, h3'⟩, h4, h5, h6, h7⟩ := id h
  rcases hs with ⟨k1, k2⟩ | ⟨k1, k2, k3⟩ | ⟨k1, k2, k3, k4⟩
  · have k1 : k ≤ 2 := k1
    have k2 : x ≤ 9 := k2
    have e4 : ¬ k = 4 := by omega
    show rRd (if k = 4 then K + 1 else K) _ _
    rw [if_neg e4]
    have c3 : k = 0 ∨ k = 1 ∨ k = 2 := by omega
    rcases c3 with rfl | rfl | rfl
    · show rRd K (zup A 23 0 (nI x)) (zup C 194 25 (nI x))
      refine ⟨⟨⟨x, k2, zup_eq _ _ _ _, zup_eq _ _ _ _⟩, ?_, ?_⟩, ?_, ?_, ?_, ?_⟩
      · rw [zup_nj (by decide), zup_nj (by decide)]; exact h2
      · rw [zup_ne (by decide), zup_nj (by decide)]; exact ⟨v3, w3, h3, h3'⟩
      · rw [zup_row (by decide), zup_row (by decide)]; exact h4
      · rw [zup_nj (by decide)]; exact h5
      · rw [zup_row (by decide), zup_row (by decide), zup_row (by decide)]; exact h6
      · rw [zup_row (by decide), zup_row (by decide), zup_row (by decide), zup_row (by decide)]; exact h7
    · show rRd K (zup A 23 1 (nI x)) (zup C 194 26 (nI x))
      refine ⟨⟨?_, ⟨x, k2, zup_eq _ _ _ _, zup_eq _ _ _ _⟩, ?_⟩, ?_, ?_, ?_, ?_⟩
      · rw [zup_nj (by decide), zup_nj (by decide)]; exact h1
      · rw [zup_ne (by decide), zup_nj (by decide)]; exact ⟨v3, w3, h3, h3'⟩
      · rw [zup_row (by decide), zup_row (by decide)]; exact h4
      · rw [zup_nj (by decide)]; exact h5
      · rw [zup_row (by decide), zup_row (by decide), zup_row (by decide)]; exact h6
      · rw [zup_row (by decide), zup_row (by decide), zup_row (by decide), zup_row (by decide)]; exact h7
    · show rRd K (zup A 22 3 (A 22 3 ||| (1 <<< (nI x &&& 31)))) (zup C 194 27 (C 194 27 ||| (1 <<< (nI x &&& 31))))
      have bo := bit_ok w3 k2
      refine ⟨⟨?_, ?_, v3 ||| 2 ^ x, bo.2, ?_, ?_⟩, ?_, ?_, ?_, ?_⟩
      · rw [zup_ne (by decide), zup_nj (by decide)]; exact h1
      · rw [zup_ne (by decide), zup_nj (by decide)]; exact h2
      · rw [zup_eq, h3, bo.1]
      · rw [zup_eq, h3', bo.1]
      · rw [zup_row (by decide), zup_row (by decide)]; exact h4
      · rw [zup_nj (by decide)]; exact h5
      · rw [zup_row (by decide), zup_row (by decide), zup_row (by decide)]; exact h6
      · rw [zup_row (by decide), zup_row (by decide), zup_row (by decide), zup_row (by decide)]; exact h7
  · have k1 : k = 3 := k1
    subst k1
    have k2 : x ≤ 9 := k2
    have k3 : y ≤ 9 := k3
    show rRd K (zup A 24 x (A 24 x ||| (1 <<< (nI y &&& 31)))) (zup C 211 x (C 211 x ||| (1 <<< (nI y &&& 31))))
    refine ⟨⟨?_, ?_, ?_⟩, fun j hj => ?_, ?_, ?_, ?_⟩
    · rw [zup_ne (by decide), zup_ne (by decide)]; exact h1
    · rw [zup_ne (by decide), zup_ne (by decide)]; exact h2
    · rw [zup_ne (by decide), zup_ne (by decide)]; exact ⟨v3, w3, h3, h3'⟩
    · by_cases c : j = x
      · obtain ⟨v, g1, g2, g3⟩ := h4 x (by omega)
        have bo := bit_ok g1 k3
        rw [c, zup_eq, zup_eq, g2, g3, bo.1]
        exact ⟨_, bo.2, rfl, rfl⟩
      · rw [zup_nj c, zup_nj c]; exact h4 j hj
    · rw [zup_ne (by decide)]; exact h5
    · rw [zup_row (by decide), zup_row (by decide), zup_row (by decide)]; exact h6
    · rw [zup_row (by decide), zup_row (by decide), zup_row (by decide), zup_row (by decide)]; exact h7
  · have k1 : k = 4 := k1
    subst k1
    have k2 : x ≤ 9 := k2
    have k3 : y ≤ z := k3
    have k4 : z ≤ 99 := k4
    obtain ⟨D, hD⟩ : ∃ D, D = zup (zup (zup (zup C 212 K (nI x)) 213 K (nI y)) 214 K (nI z)) 194 29 (nI (K + 1)) := ⟨_, rfl⟩
    show rRd (K + 1) (sendX x y z A) (zup (zup (zup (zup C 212 K (nI x)) 213 K (nI y)) 214 K (nI z)) 194 29 (nI (K + 1)))
    rw [← hD]
    have rX : ∀ q, q ≠ 25 → sendX x y z A q = A q := fun q hq => funext fun j => if_neg (fun w => hq w.1)
    have rM : ∀ q, q ≠ 194 → q ≠ 212 → q ≠ 213 → q ≠ 214 → D q = C q := fun q g1 g2 g3 g4 => by rw [hD, zup_row g1, zup_row g4, zup_row g3, zup_row g2]
    have rJ : ∀ j, j ≠ 29 → D 194 j = C 194 j := fun j hj => by rw [hD, zup_nj hj, zup_ne (by decide), zup_ne (by decide), zup_ne (by decide)]
    have p1 : ∀ j, D 212 j = if j = K then nI x else C 212 j := fun j => by
      rw [hD, zup_ne (by decide), zup_ne (by decide), zup_ne (by decide)]
      by_cases c : j = K
      · rw [if_pos c, c, zup_eq]
      · rw [if_neg c, zup_nj c]
    have p2 : ∀ j, D 213 j = if j = K then nI y else C 213 j := fun j => by
      rw [hD, zup_ne (by decide), zup_ne (by decide)]
      by_cases c : j = K
      · rw [if_pos c, c, zup_eq]
      · rw [if_neg c, zup_nj c, zup_ne (by decide)]
    have p3 : ∀ j, D 214 j = if j = K then nI z else C 214 j := fun j => by
      rw [hD, zup_ne (by decide)]
      by_cases c : j = K
      · rw [if_pos c, c, zup_eq]
      · rw [if_neg c, zup_nj c, zup_ne (by decide), zup_ne (by decide)]
    refine ⟨⟨?_, ?_, ?_⟩, fun j hj => ?_, by rw [hD]; exact zup_eq _ _ _ _, fun k hk => ?_, fun p d hp hd => ?_⟩
    · rw [rX 23 (by decide), rJ 25 (by decide)]; exact h1
    · rw [rX 23 (by decide), rJ 26 (by decide)]; exact h2
    · rw [rX 22 (by decide), rJ 27 (by decide)]; exact ⟨v3, w3, h3, h3'⟩
    · rw [rX 24 (by decide), rM 211 (by decide) (by decide) (by decide) (by decide)]; exact h4 j hj
    · rw [p1, p2, p3]
      by_cases c : k = K
      · rw [if_pos c, if_pos c, if_pos c]; exact ⟨x, y, z, by omega, k3, by omega, rfl, rfl, rfl⟩
      · rw [if_neg c, if_neg c, if_neg c]; exact h6 k (by omega)
    · obtain ⟨g1, g2⟩ := h7 p d hp hd
      have ex : (∃ k f t, k < K + 1 ∧ t < 100 ∧ D 212 k = nI p ∧ D 213 k = nI f ∧ D 214 k = nI t ∧ f ≤ d ∧ d ≤ t) ↔ (x = p ∧ y ≤ d ∧ d ≤ z) ∨ ∃ k f t, k < K ∧ t < 100 ∧ C 212 k = nI p ∧ C 213 k = nI f ∧ C 214 k = nI t ∧ f ≤ d ∧ d ≤ t := by
        constructor
        · rintro ⟨k, f, t, q1, q2, q3, q4, q5, q6, q7⟩
          rw [p1] at q3
          rw [p2] at q4
          rw [p3] at q5
          by_cases c : k = K
          · rw [if_pos c] at q3 q4 q5
            have e3 := (nI_eq (by omega) (by omega)).mp q5
            have e1 := (nI_eq (by omega) (by omega)).mp q3
            have e2 := (nI_eq (show y < 2147483648 by omega) (show f < 2147483648 by omega)).mp q4
            exact .inl ⟨e1, by omega, by omega⟩
          · rw [if_neg c] at q3 q4 q5
            exact .inr ⟨k, f, t, by omega, q2, q3, q4, q5, q6, q7⟩
        · rintro (⟨q1, q2, q3⟩ | ⟨k, f, t, q1, q2, q3, q4, q5, q6, q7⟩)
          · refine ⟨K, y, z, by omega, by omega, ?_, ?_, ?_, q2, q3⟩
            · rw [p1, if_pos rfl, q1]
            · rw [p2, if_pos rfl]
            · rw [p3, if_pos rfl]
          · have c : ¬ k = K := by omega
            refine ⟨k, f, t, by omega, q2, ?_, ?_, ?_, q6, q7⟩
            · rw [p1, if_neg c]; exact q3
            · rw [p2, if_neg c]; exact q4
            · rw [p3, if_neg c]; exact q5
      rw [ex]
      by_cases c : x = p ∧ y ≤ d ∧ d ≤ z
      · have e : sendX x y z A 25 (100 * p + d) = 1 := if_pos ⟨rfl, by omega, by omega⟩
        rw [e]
        exact ⟨.inr rfl, fun _ => .inl c, fun _ => rfl⟩
      · have e : sendX x y z A 25 (100 * p + d) = A 25 (100 * p + d) := if_neg (fun w => c (by omega))
        rw [e]
        exact ⟨g1, fun w => .inr (g2.mp w), fun w => w.elim (fun w => absurd w c) g2.mpr⟩
