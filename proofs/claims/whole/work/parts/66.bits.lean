/-! Bits of whole numbers: who is in a set. -/
def hB (x : Int32) (y : Nat) : Bool := x.toBitVec.getLsbD y
def bI (b : Bool) : Int32 := cond b 1 0
theorem bI_t : bI true = 1 := rfl
theorem bI_f : bI false = 0 := rfl
theorem hB_sh {y : Nat} (h : y < 32) : ((nI y &&& 31).toBitVec.smod 32).toNat = y := by
  have : ∀ j : Fin 32, (((nI j.val) &&& 31).toBitVec.smod 32).toNat = j.val := by decide
  exact this ⟨y, h⟩
theorem hB_one (i : Nat) : (1#32).getLsbD i = decide (i = 0) := by
  by_cases h : i < 32
  · have : ∀ j : Fin 32, (1#32).getLsbD j.val = decide (j.val = 0) := by decide
    exact this ⟨i, h⟩
  · rw [BitVec.getLsbD_of_ge _ _ (by omega), decide_eq_false (by omega)]
theorem hB_bI (b : Bool) (i : Nat) : hB (bI b) i = (b && decide (i = 0)) := by
  cases b
  · show (0#32).getLsbD i = _
    rw [BitVec.getLsbD_zero]; rfl
  · exact (hB_one i).trans (Bool.true_and _).symm
theorem hB_ext {x y : Int32} (h : ∀ i, i < 32 → hB x i = hB y i) : x = y :=
  Int32.toBitVec_inj.mp (BitVec.eq_of_getLsbD_eq h)
theorem hB_and (x y : Int32) (i : Nat) : hB (x &&& y) i = (hB x i && hB y i) := by
  unfold hB
  rw [Int32.toBitVec_and, BitVec.getLsbD_and]
theorem hB_or (x y : Int32) (i : Nat) : hB (x ||| y) i = (hB x i || hB y i) := by
  unfold hB
  rw [Int32.toBitVec_or, BitVec.getLsbD_or]
theorem hB_zero (i : Nat) : hB 0 i = false := by
  show (0#32).getLsbD i = _
  rw [BitVec.getLsbD_zero]
theorem hB_not (x : Int32) {i : Nat} (h : i < 32) : hB (~~~x) i = !hB x i := by
  unfold hB
  rw [Int32.toBitVec_not, BitVec.getLsbD_not, decide_eq_true h, Bool.true_and]
theorem hB_shr {y : Nat} (h : y < 32) (x : Int32) {i : Nat} (hi : y + i < 32) : hB (x >>> (nI y &&& 31)) i = hB x (y + i) := by
  show (x.toBitVec.sshiftRight ((nI y &&& 31).toBitVec.smod 32).toNat).getLsbD i = x.toBitVec.getLsbD (y + i)
  rw [hB_sh h, BitVec.getLsbD_sshiftRight]
  have h1 : i < 32 := by omega
  simp [hi, Nat.not_le.mpr h1]
theorem hB_test {y : Nat} (h : y < 32) (x : Int32) : (x >>> (nI y &&& 31)) &&& 1 = bI (hB x y) := by
  apply hB_ext
  intro i hi
  rw [hB_and, hB_bI, show hB 1 i = decide (i = 0) from hB_one i]
  by_cases e : i = 0
  · subst e
    rw [hB_shr h x (by omega), Nat.add_zero]
  · rw [decide_eq_false e, Bool.and_false, Bool.and_false]
theorem hB_bit {w : Nat} (h : w < 32) (i : Nat) (hi : i < 32) : hB (1 <<< (nI w &&& 31)) i = decide (i = w) := by
  show ((1#32) <<< ((nI w &&& 31).toBitVec.smod 32).toNat).getLsbD i = _
  rw [hB_sh h, BitVec.getLsbD_shiftLeft, hB_one]
  by_cases e : i = w
  · subst e
    simp [hi]
  · rw [decide_eq_false e]
    by_cases e2 : i < w
    · simp [hi, e2]
    · have : ¬ i - w = 0 := by omega
      simp [this]
theorem bI_0 (b : Bool) : (bI b = 0) = (b = false) := by cases b <;> decide
theorem bI_1 (b : Bool) : (bI b = 1) = (b = true) := by cases b <;> decide
theorem zc_b0 {α : Type} (b : Bool) (x y : α) : cond (decide (bI b = 0)) x y = cond b y x := by cases b <;> rfl
theorem zc_b1 {α : Type} (b : Bool) (x y : α) : cond (decide (bI b = 1)) x y = cond b x y := by cases b <;> rfl
/-- a property as a truth value -/
noncomputable def cB (p : Prop) : Bool := @decide p (Classical.propDecidable p)
theorem cB_t {p : Prop} (h : p) : cB p = true := @decide_eq_true p (Classical.propDecidable p) h
theorem cB_f {p : Prop} (h : ¬ p) : cB p = false := @decide_eq_false p (Classical.propDecidable p) h
theorem cB_i {p : Prop} : cB p = true ↔ p := ⟨fun h => Classical.byContradiction fun n => by rw [cB_f n] at h; exact absurd h (by decide), cB_t⟩
theorem cB_n {p : Prop} : cB p = false ↔ ¬ p := ⟨fun h n => by rw [cB_t n] at h; exact absurd h (by decide), cB_f⟩
theorem cB_c {p q : Prop} (h : p ↔ q) : cB p = cB q := by rw [propext h]
theorem cB_d {p : Prop} [Decidable p] : cB p = decide p := by
  by_cases h : p
  · rw [cB_t h, decide_eq_true h]
  · rw [cB_f h, decide_eq_false h]
theorem cB_b (b : Bool) : cB (b = true) = b := by
  cases b
  · exact cB_f (by decide)
  · exact cB_t rfl
