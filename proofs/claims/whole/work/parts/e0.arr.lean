/-! All fillings of all posts in order: one list for both; the reference's is the class's, filtered. -/
def updN (t : Nat → Nat) (p w : Nat) : Nat → Nat := fun q => if q = p then w else t q
def enL (g : Nat → List (Nat → Nat)) : Nat → Nat → List (Nat → Nat)
  | _, 0 => []
  | w, n + 1 => g w ++ enL g (w + 1) n
def enN (f : Nat → Nat → Bool) (P : Nat) : Nat → Nat → Nat → (Nat → Nat) → List (Nat → Nat)
  | 0, _, _, t => [t]
  | k + 1, p, u, t => enL (fun w => cond (Nat.testBit u w || !f w p) [] (enN f P k (p + 1) (u ||| 2 ^ w) (updN t p w))) 0 P
theorem enL_mem {g : Nat → List (Nat → Nat)} {s : Nat → Nat} : ∀ n w, s ∈ enL g w n → ∃ i, w ≤ i ∧ i < w + n ∧ s ∈ g i
  | 0, _, h => absurd h (by unfold enL; exact List.not_mem_nil)
  | n + 1, w, h => by
    unfold enL at h
    rcases List.mem_append.mp h with h | h
    · exact ⟨w, Nat.le_refl _, by omega, h⟩
    · obtain ⟨i, h1, h2, h3⟩ := enL_mem n (w + 1) h
      exact ⟨i, by omega, by omega, h3⟩
theorem enL_filter {g : Nat → List (Nat → Nat)} (F : (Nat → Nat) → Bool) : ∀ n w, (enL g w n).filter F = enL (fun i => (g i).filter F) w n
  | 0, _ => rfl
  | n + 1, w => by
    show (g w ++ enL g (w + 1) n).filter F = (g w).filter F ++ enL (fun i => (g i).filter F) (w + 1) n
    rw [List.filter_append, enL_filter F n]
theorem enL_c {g h : Nat → List (Nat → Nat)} : ∀ n w, (∀ i, w ≤ i → i < w + n → g i = h i) → enL g w n = enL h w n
  | 0, _, _ => rfl
  | n + 1, w, e => by
    unfold enL
    rw [e w (Nat.le_refl _) (by omega), enL_c n (w + 1) (fun i h1 h2 => e i (by omega) (by omega))]
theorem enN_pre {f : Nat → Nat → Bool} {P : Nat} {s : Nat → Nat} : ∀ k p u t, s ∈ enN f P k p u t → ∀ q, q < p → s q = t q
  | 0, p, u, t, h, q, hq => by
    unfold enN at h
    rw [List.mem_singleton.mp h]
  | k + 1, p, u, t, h, q, hq => by
    unfold enN at h
    obtain ⟨i, _, _, h3⟩ := enL_mem _ _ h
    cases c : Nat.testBit u i || !f i p
    · rw [c] at h3
      rw [enN_pre k (p + 1) _ _ h3 q (by omega)]
      exact if_neg (by omega)
    · rw [c] at h3
      exact absurd h3 List.not_mem_nil
theorem enN_at {f : Nat → Nat → Bool} {P k p u w : Nat} {s t : Nat → Nat} (h : s ∈ enN f P k (p + 1) u (updN t p w)) : s p = w :=
  (enN_pre k (p + 1) _ _ h p (Nat.lt_succ_self p)).trans (if_pos rfl)
theorem enN_lt {f : Nat → Nat → Bool} {P : Nat} {s : Nat → Nat} : ∀ k p u t, s ∈ enN f P k p u t → ∀ q, p ≤ q → q < p + k → s q < P
  | 0, p, u, t, h, q, h1, h2 => absurd h2 (by omega)
  | k + 1, p, u, t, h, q, h1, h2 => by
    unfold enN at h
    obtain ⟨i, _, hi, h3⟩ := enL_mem _ _ h
    cases c : Nat.testBit u i || !f i p
    · rw [c] at h3
      by_cases e : q = p
      · rw [e, enN_at h3]; omega
      · exact enN_lt k (p + 1) _ _ h3 q (by omega) (by omega)
    · rw [c] at h3
      exact absurd h3 List.not_mem_nil
def okN (f : Nat → Nat → Bool) (p k : Nat) (s : Nat → Nat) : Bool := !aF (fun q => !f (s q) q) p k
theorem enN_filter (f : Nat → Nat → Bool) (P : Nat) : ∀ k p u t, enN f P k p u t = (enN (fun _ _ => true) P k p u t).filter (okN f p k)
  | 0, p, u, t => rfl
  | k + 1, p, u, t => by
    unfold enN
    rw [enL_filter]
    refine enL_c P 0 (fun w _ hw => ?_)
    cases Nat.testBit u w
    · cases c : f w p
      · show [] = _
        refine (List.filter_eq_nil_iff.mpr fun s hs => ?_).symm
        have e : s p = w := enN_at hs
        show ¬ (!((!f (s p) p) || aF (fun q => !f (s q) q) (p + 1) k)) = true
        rw [e, c, Bool.not_false, Bool.true_or]
        decide
      · show enN f P k (p + 1) (u ||| 2 ^ w) (updN t p w) = _
        rw [enN_filter f P k]
        refine List.filter_congr fun s hs => ?_
        have e : s p = w := enN_at hs
        show _ = !((!f (s p) p) || aF (fun q => !f (s q) q) (p + 1) k)
        rw [e, c]
        rfl
    · rfl
theorem enL_len {g h : Nat → List (Nat → Nat)} : ∀ n w, (∀ i, (g i).length = (h i).length) → (enL g w n).length = (enL h w n).length
  | 0, _, _ => rfl
  | n + 1, w, e => by
    unfold enL
    rw [List.length_append, List.length_append, e w, enL_len n (w + 1) e]
theorem enN_len (f : Nat → Nat → Bool) (P : Nat) : ∀ k p u t t', (enN f P k p u t).length = (enN f P k p u t').length
  | 0, _, _, _, _ => rfl
  | k + 1, p, u, t, t' => by
    unfold enN
    refine enL_len _ _ (fun i => ?_)
    cases Nat.testBit u i || !f i p
    · exact enN_len f P k _ _ _ _
    · rfl
theorem en_tab : ∀ P : Fin 6, ∀ Q : Fin 6, (enN (fun _ _ => true) P.val Q.val 0 0 (fun _ => 0)).length ≤ 120 := by decide +kernel
theorem en_120 {P Q : Nat} (hP : P ≤ 5) (hQ : Q ≤ 5) (t : Nat → Nat) : (enN (fun _ _ => true) P Q 0 0 t).length ≤ 120 := by
  rw [enN_len _ P Q 0 0 t (fun _ => 0)]
  exact en_tab ⟨P, by omega⟩ ⟨Q, by omega⟩
theorem en_f120 {P Q : Nat} (f : Nat → Nat → Bool) (hP : P ≤ 5) (hQ : Q ≤ 5) (t : Nat → Nat) : (enN f P Q 0 0 t).length ≤ 120 := by
  rw [enN_filter]
  exact Nat.le_trans (List.length_filter_le _ _) (en_120 hP hQ t)
/-- the node of a number -/
def nd (l : List (Nat → Nat)) (i : Nat) : Nat → Nat := l.getD i (fun _ => 0)
theorem nd_mem {l : List (Nat → Nat)} {i : Nat} (h : i < l.length) : nd l i ∈ l := by
  unfold nd
  rw [List.getD_eq_getElem?_getD, List.getElem?_eq_getElem h]
  exact List.getElem_mem h
/-- numbers of a filtered list among all -/
def embO (n m : Nat) (ok : Nat → Bool) (e : Nat → Nat) : Prop := (∀ k, k < m → e k < n ∧ ok (e k) = true) ∧ (∀ k k', k < k' → k' < m → e k < e k') ∧ ∀ i, i < n → ok i = true → ∃ k, k < m ∧ e k = i
theorem emb_of (F : (Nat → Nat) → Bool) : ∀ l : List (Nat → Nat), ∃ e, embO l.length (l.filter F).length (fun i => F (nd l i)) e ∧ ∀ k, k < (l.filter F).length → nd (l.filter F) k = nd l (e k)
  | [] => ⟨fun _ => 0, ⟨fun k h => absurd h (Nat.not_lt_zero k), fun _ k h1 h2 => absurd h2 (Nat.not_lt_zero k), fun i h => absurd h (Nat.not_lt_zero i)⟩, fun k h => absurd h (Nat.not_lt_zero k)⟩
  | s :: l => by
    obtain ⟨e, ⟨h1, h2, h3⟩, h4⟩ := emb_of F l
    cases c : F s
    · have e1 : (s :: l).filter F = l.filter F := List.filter_cons_of_neg (by rw [c]; decide)
      rw [e1]
      refine ⟨fun k => e k + 1, ⟨fun k hk => ⟨by have := (h1 k hk).1; rw [List.length_cons]; show e k + 1 < l.length + 1; omega, (h1 k hk).2⟩, fun k k' g1 g2 => by have := h2 k k' g1 g2; show e k + 1 < e k' + 1; omega, fun i hi ho => ?_⟩, fun k hk => h4 k hk⟩
      cases i with
      | zero =>
        have : F s = true := ho
        rw [c] at this
        exact absurd this (by decide)
      | succ i =>
        obtain ⟨k, g1, g2⟩ := h3 i (by rw [List.length_cons] at hi; omega) ho
        exact ⟨k, g1, by show e k + 1 = i + 1; omega⟩
    · have e1 : (s :: l).filter F = s :: l.filter F := List.filter_cons_of_pos c
      rw [e1]
      refine ⟨fun k => match k with | 0 => 0 | k + 1 => e k + 1, ⟨fun k hk => ?_, fun k k' g1 g2 => ?_, fun i hi ho => ?_⟩, fun k hk => ?_⟩
      · cases k with
        | zero => exact ⟨by rw [List.length_cons]; exact Nat.succ_pos _, c⟩
        | succ k =>
          have := h1 k (by rw [List.length_cons] at hk; omega)
          exact ⟨by rw [List.length_cons]; show e k + 1 < _; omega, this.2⟩
      · cases k' with
        | zero => exact absurd g1 (Nat.not_lt_zero k)
        | succ k' => cases k with
          | zero => exact Nat.succ_pos _
          | succ k =>
            have := h2 k k' (by omega) (by rw [List.length_cons] at g2; omega)
            show e k + 1 < e k' + 1
            omega
      · cases i with
        | zero => exact ⟨0, by rw [List.length_cons]; exact Nat.succ_pos _, rfl⟩
        | succ i =>
          obtain ⟨k, g1, g2⟩ := h3 i (by rw [List.length_cons] at hi; omega) ho
          exact ⟨k + 1, by rw [List.length_cons]; omega, by show e k + 1 = i + 1; omega⟩
      · cases k with
        | zero => rfl
        | succ k => exact h4 k (by rw [List.length_cons] at hk; omega)
theorem emb_s {n m : Nat} {ok : Nat → Bool} {e : Nat → Nat} (h : embO (n + 1) m ok e) : (ok n = true ∧ ∃ m', m = m' + 1 ∧ e m' = n ∧ embO n m' ok e) ∨ (ok n = false ∧ embO n m ok e) := by
  obtain ⟨h1, h2, h3⟩ := h
  cases c : ok n
  · refine .inr ⟨rfl, fun k hk => ⟨?_, (h1 k hk).2⟩, h2, fun i hi ho => h3 i (by omega) ho⟩
    have g := h1 k hk
    by_cases e1 : e k = n
    · rw [e1, c] at g
      exact absurd g.2 (by decide)
    · omega
  · obtain ⟨k, g1, g2⟩ := h3 n (by omega) c
    have last : k + 1 = m := by
      by_cases e1 : k + 1 < m
      · have a1 := h2 k (k + 1) (by omega) e1
        have a2 := (h1 (k + 1) e1).1
        omega
      · omega
    refine .inl ⟨rfl, k, last.symm, g2, fun k' hk' => ⟨?_, (h1 k' (by omega)).2⟩, fun k1 k2 a1 a2 => h2 k1 k2 a1 (by omega), fun i hi ho => ?_⟩
    · have := h2 k' k hk' g1
      omega
    · obtain ⟨k', a1, a2⟩ := h3 i (by omega) ho
      refine ⟨k', ?_, a2⟩
      by_cases e1 : k' = k
      · rw [e1] at a2; omega
      · omega
theorem emb_cnt {ok g : Nat → Bool} {e : Nat → Nat} : ∀ n m, embO n m ok e → cnt (fun i => ok i && g i) n = cnt (fun k => g (e k)) m
  | 0, m, h => by
    cases m with
    | zero => rfl
    | succ m => exact absurd (h.1 0 (Nat.succ_pos m)).1 (Nat.not_lt_zero _)
  | n + 1, m, h => by
    rcases emb_s h with ⟨c, m', rfl, g1, g2⟩ | ⟨c, g2⟩
    · show cnt _ n + cond (ok n && g n) 1 0 = cnt _ m' + cond (g (e m')) 1 0
      rw [emb_cnt n m' g2, c, g1, Bool.true_and]
    · show cnt _ n + cond (ok n && g n) 1 0 = _
      rw [emb_cnt n m g2, c, Bool.false_and]
      rfl
theorem fF_snoc {α : Type} {st : Nat → α → α} : ∀ k j x, fF st j (k + 1) x = st (j + k) (fF st j k x)
  | 0, j, x => rfl
  | k + 1, j, x => by
    show fF st (j + 1) (k + 1) (st j x) = st (j + (k + 1)) (fF st (j + 1) k (st j x))
    rw [fF_snoc k, show j + 1 + k = j + (k + 1) by omega]
theorem emb_fold {α : Type} {ok : Nat → Bool} {st : Nat → α → α} {e : Nat → Nat} (x : α) : ∀ n m, embO n m ok e → fF (fun i y => cond (ok i) (st i y) y) 0 n x = fF (fun k y => st (e k) y) 0 m x
  | 0, m, h => by
    cases m with
    | zero => rfl
    | succ m => exact absurd (h.1 0 (Nat.succ_pos m)).1 (Nat.not_lt_zero _)
  | n + 1, m, h => by
    rcases emb_s h with ⟨c, m', rfl, g1, g2⟩ | ⟨c, g2⟩
    · rw [fF_snoc, fF_snoc, emb_fold x n m' g2, Nat.zero_add, Nat.zero_add, c, g1]
      rfl
    · rw [fF_snoc, emb_fold x n m g2, Nat.zero_add, c]
      rfl
theorem emb_ex {n m : Nat} {ok g : Nat → Bool} {e : Nat → Nat} (h : embO n m ok e) : (∃ i, i < n ∧ ok i = true ∧ g i = true) ↔ ∃ k, k < m ∧ g (e k) = true := by
  constructor
  · rintro ⟨i, h1, h2, h3⟩
    obtain ⟨k, g1, g2⟩ := h.2.2 i h1 h2
    exact ⟨k, g1, by rw [g2]; exact h3⟩
  · rintro ⟨k, h1, h2⟩
    exact ⟨e k, (h.1 k h1).1, (h.1 k h1).2, h2⟩
