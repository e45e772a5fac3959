/-! Loops: one pass of a block, taken n times. -/
def aF (f : Nat → Bool) : Nat → Nat → Bool
  | _, 0 => false
  | j, k + 1 => f j || aF f (j + 1) k
theorem aF_i {f : Nat → Bool} : ∀ k j, aF f j k = true ↔ ∃ i, j ≤ i ∧ i < j + k ∧ f i = true
  | 0, j => ⟨fun h => absurd h (by unfold aF; decide), fun ⟨i, h1, h2, _⟩ => absurd h2 (by omega)⟩
  | k + 1, j => by
    show (f j || aF f (j + 1) k) = true ↔ _
    rw [Bool.or_eq_true, aF_i k (j + 1)]
    constructor
    · rintro (h | ⟨i, h1, h2, h3⟩)
      · exact ⟨j, Nat.le_refl _, by omega, h⟩
      · exact ⟨i, by omega, by omega, h3⟩
    · rintro ⟨i, h1, h2, h3⟩
      by_cases e : i = j
      · subst e; exact .inl h3
      · exact .inr ⟨i, by omega, by omega, h3⟩
theorem aF_c {f : Nat → Bool} {j k : Nat} {p : Prop} (h : (∃ i, j ≤ i ∧ i < j + k ∧ f i = true) ↔ p) : aF f j k = cB p := by
  rw [Bool.eq_iff_iff, aF_i, cB_i]
  exact h
def fF {α : Type} (st : Nat → α → α) : Nat → Nat → α → α
  | _, 0, x => x
  | j, k + 1, x => fF st (j + 1) k (st j x)
theorem lpF {α β : Type} {F : α → Nat → β} {K : α → β} {st : Nat → α → α} {lo n : Nat} (hs : ∀ x i, lo ≤ i → i < n → F x i = F (st i x) (i + 1)) (he : ∀ x, F x n = K x) : ∀ k x i, lo ≤ i → i + k = n → F x i = K (fF st i k x)
  | 0, x, i, _, h => by
    have e : i = n := by omega
    subst e
    exact he x
  | k + 1, x, i, g, h => by
    rw [hs x i g (by omega)]
    exact lpF hs he k (st i x) (i + 1) (by omega) (by omega)
theorem lpB {β : Type} {F : Bool → Nat → β} {K : Bool → β} {f : Nat → Bool} {lo n : Nat} (hs : ∀ v i, lo ≤ i → i < n → F v i = F (v || f i) (i + 1)) (he : ∀ v, F v n = K v) : ∀ k v i, lo ≤ i → i + k = n → F v i = K (v || aF f i k)
  | 0, v, i, _, h => by
    have e : i = n := by omega
    subst e
    rw [he v]
    show K v = K (v || false)
    rw [Bool.or_false]
  | k + 1, v, i, g, h => by
    rw [hs v i g (by omega), lpB hs he k (v || f i) (i + 1) (by omega) (by omega), Bool.or_assoc]
    rfl
theorem lpE {β : Type} {F : Nat → β} {R K : β} {f : Nat → Bool} {lo n : Nat} (hs : ∀ i, lo ≤ i → i < n → F i = cond (f i) R (F (i + 1))) (he : F n = K) : ∀ k i, lo ≤ i → i + k = n → F i = cond (aF f i k) R K
  | 0, i, _, h => by
    have e : i = n := by omega
    subst e
    exact he
  | k + 1, i, g, h => by
    rw [hs i g (by omega), lpE hs he k (i + 1) (by omega) (by omega)]
    show cond (f i) R _ = cond (f i || aF f (i + 1) k) R K
    cases f i <;> rfl
/-- what a loop keeps -/
theorem fF_inv {α : Type} {st : Nat → α → α} (I : Nat → α → Prop) {n : Nat} (hs : ∀ i x, i < n → I i x → I (i + 1) (st i x)) : ∀ k j x, j + k = n → I j x → I n (fF st j k x)
  | 0, j, x, h, g => by
    have e : j = n := by omega
    subst e
    exact g
  | k + 1, j, x, h, g => fF_inv I hs k (j + 1) (st j x) (by omega) (hs j x (by omega) g)
/-- or of bits -/
theorem fF_or {f : Nat → Int32} {i : Nat} : ∀ k j x, hB (fF (fun n y => y ||| f n) j k x) i = (hB x i || aF (fun n => hB (f n) i) j k)
  | 0, j, x => (Bool.or_false _).symm
  | k + 1, j, x => by
    show hB (fF (fun n y => y ||| f n) (j + 1) k (x ||| f j)) i = (hB x i || (hB (f j) i || aF (fun n => hB (f n) i) (j + 1) k))
    rw [fF_or k, hB_or, Bool.or_assoc]
