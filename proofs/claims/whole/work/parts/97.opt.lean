/-! The best filling, as a thing of its own: posts from one on, who is used, who stands ahead. -/
def gnO (sc tg : Nat → Nat → Option Int) (p l w : Nat) : Option Int := (sc p w).elim none (fun s => cond (decide (l < 10)) ((tg l w).elim none (fun t => some (s + t))) (some s))
def opV (sc tg : Nat → Nat → Option Int) (bl : Nat → Int) (P : Nat) : Nat → Nat → Nat → Nat → Int
  | 0, _, _, _ => 0
  | k + 1, p, u, l => fF (fun w m => cond (Nat.testBit u w) m ((gnO sc tg p l w).elim m (fun g => max m (g + opV sc tg bl P k (p + 1) (u ||| 2 ^ w) w)))) 0 P (bl p + opV sc tg bl P k (p + 1) u 10)
theorem fF_mono {f : Nat → Int → Int} (h : ∀ w m, m ≤ f w m) : ∀ k j x, x ≤ fF f j k x
  | 0, _, _ => Int.le_refl _
  | k + 1, j, x => Int.le_trans (h j x) (fF_mono h k (j + 1) (f j x))
theorem fF_at {f : Nat → Int → Int} (h : ∀ w m, m ≤ f w m) : ∀ k j x i, j ≤ i → i < j + k → ∃ m, f i m ≤ fF f j k x
  | 0, j, x, i, h1, h2 => absurd h2 (by omega)
  | k + 1, j, x, i, h1, h2 => by
    by_cases e : i = j
    · subst e
      exact ⟨x, fF_mono h k (i + 1) (f i x)⟩
    · exact fF_at h k (j + 1) (f j x) i (by omega) (by omega)
theorem fF_ex {f : Nat → Int → Int} {X : Int → Prop} (h : ∀ w m, f w m = m ∨ X (f w m)) : ∀ k j x, fF f j k x = x ∨ X (fF f j k x)
  | 0, _, _ => .inl rfl
  | k + 1, j, x => by
    show fF f (j + 1) k (f j x) = x ∨ X (fF f (j + 1) k (f j x))
    rcases fF_ex h k (j + 1) (f j x) with e | e
    · rcases h j x with e2 | e2
      · exact .inl (e.trans e2)
      · exact .inr (by rw [e]; exact e2)
    · exact .inr e
theorem fF_exr {f : Nat → Int → Int} {X : Nat → Int → Prop} : ∀ k j x, (∀ w m, j ≤ w → w < j + k → f w m = m ∨ X w (f w m)) → fF f j k x = x ∨ ∃ w, j ≤ w ∧ w < j + k ∧ X w (fF f j k x)
  | 0, _, _, _ => .inl rfl
  | k + 1, j, x, h => by
    show fF f (j + 1) k (f j x) = x ∨ _
    rcases fF_exr k (j + 1) (f j x) (fun w m h1 h2 => h w m (by omega) (by omega)) with e | ⟨w, h1, h2, h3⟩
    · rcases h j x (Nat.le_refl _) (by omega) with e2 | e2
      · exact .inl (e.trans e2)
      · exact .inr ⟨j, Nat.le_refl _, by omega, by rw [show fF f j (k + 1) x = fF f (j + 1) k (f j x) from rfl, e]; exact e2⟩
    · exact .inr ⟨w, by omega, by omega, h3⟩
theorem opV_st {sc tg : Nat → Nat → Option Int} {bl : Nat → Int} {P k p u l : Nat} : ∀ w m, m ≤ cond (Nat.testBit u w) m ((gnO sc tg p l w).elim m (fun g => max m (g + opV sc tg bl P k (p + 1) (u ||| 2 ^ w) w))) := by
  intro w m
  cases Nat.testBit u w
  · cases gnO sc tg p l w
    · exact Int.le_refl _
    · exact Int.le_max_left _ _
  · exact Int.le_refl _
theorem opV_b {sc tg : Nat → Nat → Option Int} {bl : Nat → Int} {P k p u l : Nat} : bl p + opV sc tg bl P k (p + 1) u 10 ≤ opV sc tg bl P (k + 1) p u l := fF_mono opV_st P 0 _
theorem opV_o {sc tg : Nat → Nat → Option Int} {bl : Nat → Int} {P k p u l w : Nat} {g : Int} (hw : w < P) (hu : Nat.testBit u w = false) (hg : gnO sc tg p l w = some g) : g + opV sc tg bl P k (p + 1) (u ||| 2 ^ w) w ≤ opV sc tg bl P (k + 1) p u l := by
  obtain ⟨m, hm⟩ := fF_at (opV_st (sc := sc) (tg := tg) (bl := bl) (P := P) (k := k) (p := p) (u := u) (l := l)) P 0 (bl p + opV sc tg bl P k (p + 1) u 10) w (Nat.zero_le _) (by omega)
  rw [hu, hg] at hm
  exact Int.le_trans (Int.le_max_right _ _) hm
theorem opV_x {sc tg : Nat → Nat → Option Int} {bl : Nat → Int} {P k p u l : Nat} : opV sc tg bl P (k + 1) p u l = bl p + opV sc tg bl P k (p + 1) u 10 ∨ ∃ w g, w < P ∧ Nat.testBit u w = false ∧ gnO sc tg p l w = some g ∧ opV sc tg bl P (k + 1) p u l = g + opV sc tg bl P k (p + 1) (u ||| 2 ^ w) w := by
  have := fF_exr (f := fun w m => cond (Nat.testBit u w) m ((gnO sc tg p l w).elim m (fun g => max m (g + opV sc tg bl P k (p + 1) (u ||| 2 ^ w) w)))) (X := fun w x => ∃ g, Nat.testBit u w = false ∧ gnO sc tg p l w = some g ∧ x = g + opV sc tg bl P k (p + 1) (u ||| 2 ^ w) w) P 0 (bl p + opV sc tg bl P k (p + 1) u 10) (fun w m _ _ => by
    show cond (Nat.testBit u w) m _ = m ∨ ∃ g, Nat.testBit u w = false ∧ gnO sc tg p l w = some g ∧ cond (Nat.testBit u w) m _ = _
    cases h1 : Nat.testBit u w
    · cases h2 : gnO sc tg p l w with
      | none => exact .inl rfl
      | some g =>
        show max m (g + opV sc tg bl P k (p + 1) (u ||| 2 ^ w) w) = m ∨ _
        by_cases c : g + opV sc tg bl P k (p + 1) (u ||| 2 ^ w) w ≤ m
        · exact .inl (Int.max_eq_left c)
        · exact .inr ⟨g, rfl, rfl, Int.max_eq_right (by omega)⟩
    · exact .inl rfl)
  rcases this with h | ⟨w, _, h2, g, h3, h4, h5⟩
  · exact .inl h
  · exact .inr ⟨w, g, by omega, h3, h4, h5⟩
/-- what bounds gains -/
def opB (sc tg : Nat → Nat → Option Int) (bl : Nat → Int) : Prop := (∀ p w s, sc p w = some s → -5000 ≤ s ∧ s ≤ 16161) ∧ (∀ l w t, tg l w = some t → -5000 ≤ t ∧ t ≤ 0) ∧ ∀ p, 0 ≤ bl p ∧ bl p ≤ 1
theorem gnO_b {sc tg : Nat → Nat → Option Int} {bl : Nat → Int} (h : opB sc tg bl) {p l w : Nat} {g : Int} (hg : gnO sc tg p l w = some g) : -10000 ≤ g ∧ g ≤ 16161 ∧ ∃ s, sc p w = some s ∧ g ≤ s := by
  unfold gnO at hg
  cases hs : sc p w with
  | none => rw [hs] at hg; exact absurd hg (by simp)
  | some s =>
    obtain ⟨b1, b2⟩ := h.1 p w s hs
    rw [hs] at hg
    have hg : cond (decide (l < 10)) ((tg l w).elim none (fun t => some (s + t))) (some s) = some g := hg
    cases hl : decide (l < 10)
    · rw [hl] at hg
      have : s = g := Option.some.inj hg
      exact ⟨by omega, by omega, s, rfl, by omega⟩
    · rw [hl] at hg
      cases ht : tg l w with
      | none => rw [ht] at hg; exact absurd hg (by simp)
      | some t =>
        obtain ⟨b3, b4⟩ := h.2.1 l w t ht
        rw [ht] at hg
        have : s + t = g := Option.some.inj hg
        exact ⟨by omega, by omega, s, rfl, by omega⟩
theorem opV_0 {sc tg : Nat → Nat → Option Int} {bl : Nat → Int} (h : opB sc tg bl) {P : Nat} : ∀ k p u l, 0 ≤ opV sc tg bl P k p u l ∧ opV sc tg bl P k p u l ≤ 16161 * k
  | 0, _, _, _ => ⟨Int.le_refl _, Int.le_refl _⟩
  | k + 1, p, u, l => by
    have ih := opV_0 h (P := P) k
    have hb := h.2.2 p
    have h1 := opV_b (sc := sc) (tg := tg) (bl := bl) (P := P) (k := k) (p := p) (u := u) (l := l)
    have i1 := ih (p + 1) u 10
    refine ⟨by omega, ?_⟩
    rcases opV_x (sc := sc) (tg := tg) (bl := bl) (P := P) (k := k) (p := p) (u := u) (l := l) with e | ⟨w, g, _, _, hg, e⟩
    · rw [e]; omega
    · have i2 := ih (p + 1) (u ||| 2 ^ w) w
      have := gnO_b h hg
      rw [e]; omega
/-- how many are used -/
def pop (u : Nat) : Nat := cnt (fun i => Nat.testBit u i) 10
theorem tb_or {u w i : Nat} : Nat.testBit (u ||| 2 ^ w) i = (Nat.testBit u i || decide (w = i)) := by
  rw [Nat.testBit_or, Nat.testBit_two_pow]
theorem cnt_up {f g : Nat → Bool} {w : Nat} (hf : f w = false) (hg : g w = true) (h : ∀ i, i ≠ w → g i = f i) : ∀ k, cnt g k = cnt f k + cond (decide (w < k)) 1 0
  | 0 => rfl
  | k + 1 => by
    have ih := cnt_up hf hg h k
    unfold cnt
    by_cases e : k = w
    · subst e
      rw [ih, hf, hg, decide_eq_false (Nat.lt_irrefl k), decide_eq_true (Nat.lt_succ_self k)]
    · rw [ih, h k e]
      by_cases c : w < k
      · rw [decide_eq_true c, decide_eq_true (show w < k + 1 by omega)]
        show cnt f k + 1 + cond (f k) 1 0 = cnt f k + cond (f k) 1 0 + 1
        omega
      · rw [decide_eq_false c, decide_eq_false (show ¬ w < k + 1 by omega)]
        rfl
theorem pop_up {u w : Nat} (hw : w < 10) (hu : Nat.testBit u w = false) : pop (u ||| 2 ^ w) = pop u + 1 := by
  have := cnt_up (f := fun i => Nat.testBit u i) (g := fun i => Nat.testBit (u ||| 2 ^ w) i) (w := w) hu (by rw [tb_or, decide_eq_true rfl, Bool.or_true]) (fun i hi => by rw [tb_or, decide_eq_false (fun z => hi z.symm), Bool.or_false]) 10
  rw [decide_eq_true hw] at this
  exact this
theorem pop_le {u P : Nat} (hP : P ≤ 10) (h : u < 2 ^ P) : pop u ≤ P := by
  have : pop u = cnt (fun i => Nat.testBit u i) P := cnt_tail (fun i hi => Nat.testBit_lt_two_pow (Nat.lt_of_lt_of_le h (Nat.pow_le_pow_right (by decide) hi))) 10 hP
  rw [this]
  exact cnt_le _ _
theorem pop_lt {u P w : Nat} (hP : P ≤ 10) (h : u < 2 ^ P) (hw : w < P) (hu : Nat.testBit u w = false) : pop u + 1 ≤ P := by
  have : pop u = cnt (fun i => Nat.testBit u i) P := cnt_tail (fun i hi => Nat.testBit_lt_two_pow (Nat.lt_of_lt_of_le h (Nat.pow_le_pow_right (by decide) hi))) 10 hP
  have := cnt_lt (f := fun i => Nat.testBit u i) hu P hw
  omega
theorem or_lt {u P w : Nat} (h : u < 2 ^ P) (hw : w < P) : u ||| 2 ^ w < 2 ^ P := Nat.or_lt_two_pow h (Nat.pow_lt_pow_right (by decide) hw)
/-- the ceiling -/
def topS (sc : Nat → Nat → Option Int) (bl : Nat → Int) (P p : Nat) : Int := fF (fun w m => max m ((sc p w).elim (-1000000) id)) 0 P (bl p)
def ceiV (sc : Nat → Nat → Option Int) (bl : Nat → Int) (P : Nat) : Nat → Nat → Nat → Int
  | 0, _, _ => 0
  | k + 1, p, c => max (bl p + ceiV sc bl P k (p + 1) c) (cond (decide (c = 0)) (bl p + ceiV sc bl P k (p + 1) c) (topS sc bl P p + ceiV sc bl P k (p + 1) (c - 1)))
theorem topS_o {sc : Nat → Nat → Option Int} {bl : Nat → Int} {P p w : Nat} {s : Int} (hw : w < P) (hs : sc p w = some s) : s ≤ topS sc bl P p := by
  obtain ⟨m, hm⟩ := fF_at (f := fun w m => max m ((sc p w).elim (-1000000) id)) (fun w m => Int.le_max_left _ _) P 0 (bl p) w (Nat.zero_le _) (by omega)
  rw [hs] at hm
  exact Int.le_trans (Int.le_max_right m s) hm
theorem ceiV_le {sc tg : Nat → Nat → Option Int} {bl : Nat → Int} (h : opB sc tg bl) {P : Nat} (hP : P ≤ 10) : ∀ k p u l, u < 2 ^ P → opV sc tg bl P k p u l ≤ ceiV sc bl P k p (P - pop u)
  | 0, _, _, _, _ => Int.le_refl _
  | k + 1, p, u, l, hu => by
    have ih := ceiV_le h hP k
    unfold ceiV
    rcases opV_x (sc := sc) (tg := tg) (bl := bl) (P := P) (k := k) (p := p) (u := u) (l := l) with e | ⟨w, g, h1, h2, h3, e⟩
    · rw [e]
      have := ih (p + 1) u 10 hu
      exact Int.le_trans (by omega) (Int.le_max_left _ _)
    · have i1 := ih (p + 1) (u ||| 2 ^ w) w (or_lt hu h1)
      rw [pop_up (by omega) h2] at i1
      obtain ⟨_, _, s, hs, hg⟩ := gnO_b h h3
      have i2 := topS_o (bl := bl) h1 hs
      have i3 := pop_lt hP hu h1 h2
      rw [e, decide_eq_false (show ¬ P - pop u = 0 by omega), cond_false, show P - pop u - 1 = P - (pop u + 1) by omega]
      exact Int.le_trans (by omega) (Int.le_max_right _ _)
