/-! A sign's bytes. -/
theorem s_byteV (x : BitVec 32) (s : Nat) (hs : s ≤ 24) : (x >>> s) &&& 255#32 = (x.sshiftRight s) &&& 255#32 := by
  apply BitVec.eq_of_getLsbD_eq
  intro i hi
  rw [BitVec.getLsbD_and, BitVec.getLsbD_and]
  by_cases h : i < 8
  · rw [BitVec.getLsbD_ushiftRight, BitVec.getLsbD_sshiftRight]
    have h1 : s + i < 32 := by omega
    simp [h1, hi, Nat.not_le.mpr hi]
  · have h2 : (255#32).getLsbD i = false := by
      have : ∀ j : Fin 32, ¬ j.val < 8 → (255#32).getLsbD j.val = false := by decide
      exact this ⟨i, hi⟩ h
    rw [h2, Bool.and_false, Bool.and_false]
theorem s_byte24 (v : Int32) : (v.toUInt32 >>> ((24 : Int32).toUInt32 &&& Int32.toUInt32 31)).toInt32 &&& 255 = (v >>> ((24 - (8 * (0 : Int32))) &&& 31)) &&& 255 := by
  apply Int32.toBitVec_inj.mp
  exact s_byteV v.toBitVec 24 (by decide)
theorem s_byte16 (v : Int32) : (v.toUInt32 >>> ((16 : Int32).toUInt32 &&& Int32.toUInt32 31)).toInt32 &&& 255 = (v >>> ((24 - (8 * (1 : Int32))) &&& 31)) &&& 255 := by
  apply Int32.toBitVec_inj.mp
  exact s_byteV v.toBitVec 16 (by decide)
theorem s_byte8 (v : Int32) : (v.toUInt32 >>> ((8 : Int32).toUInt32 &&& Int32.toUInt32 31)).toInt32 &&& 255 = (v >>> ((24 - (8 * (2 : Int32))) &&& 31)) &&& 255 := by
  apply Int32.toBitVec_inj.mp
  exact s_byteV v.toBitVec 8 (by decide)
theorem s_byte0 (v : Int32) : (v.toUInt32 >>> ((0 : Int32).toUInt32 &&& Int32.toUInt32 31)).toInt32 &&& 255 = (v >>> ((24 - (8 * (3 : Int32))) &&& 31)) &&& 255 := by
  apply Int32.toBitVec_inj.mp
  exact s_byteV v.toBitVec 0 (by decide)
theorem s_255 (x : Int32) : 0 ≤ x &&& 255 ∧ x &&& 255 ≤ 255 := by
  have h : (x &&& 255).toBitVec.toNat ≤ 255 := by
    rw [Int32.toBitVec_and, BitVec.toNat_and]
    exact Nat.and_le_right
  have e : (x &&& 255).toInt = ((x &&& 255).toBitVec.toNat : Int) := by
    show (x &&& 255).toBitVec.toInt = _
    exact BitVec.toInt_eq_toNat_of_lt (by omega)
  rw [Int32.le_iff_toInt_le, Int32.le_iff_toInt_le, e, show (0 : Int32).toInt = 0 from by decide, show (255 : Int32).toInt = 255 from by decide]
  omega
