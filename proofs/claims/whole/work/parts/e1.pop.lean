/-! How many bits a long has. -/
def vaN (w : Nat) : (Nat → Nat) → Nat → Nat
  | _, 0 => 0
  | d, k + 1 => 2 ^ w * vaN w (fun i => d (i + 1)) k + d 0
theorem va_c {w : Nat} : ∀ k (d d' : Nat → Nat), (∀ i, i < k → d i = d' i) → vaN w d k = vaN w d' k
  | 0, _, _, _ => rfl
  | k + 1, d, d', h => by
    unfold vaN
    rw [h 0 (by omega), va_c k _ _ (fun i hi => h (i + 1) (by omega))]
theorem va_and {w s m : Nat} (hs : s ≤ w) (hm : m < 2 ^ (w - s)) : ∀ k (d : Nat → Nat), (∀ i, d i < 2 ^ w) → (vaN w d k >>> s) &&& vaN w (fun _ => m) k = vaN w (fun i => (d i >>> s) &&& m) k
  | 0, _, _ => by
    unfold vaN
    rw [Nat.zero_shiftRight]
    rfl
  | k + 1, d, h => by
    have ih := va_and hs hm k (fun i => d (i + 1)) (fun i => h (i + 1))
    have mw : m < 2 ^ w := Nat.lt_of_lt_of_le hm (Nat.pow_le_pow_right (by decide) (by omega))
    have dm : (d 0 >>> s) &&& m < 2 ^ w := Nat.lt_of_le_of_lt Nat.and_le_right mw
    refine Nat.eq_of_testBit_eq (fun i => ?_)
    unfold vaN
    rw [Nat.testBit_and, Nat.testBit_shiftRight, Nat.testBit_two_pow_mul_add _ (h 0), Nat.testBit_two_pow_mul_add _ mw, Nat.testBit_two_pow_mul_add _ dm]
    by_cases c : i < w
    · rw [if_pos c, if_pos c, Nat.testBit_and, Nat.testBit_shiftRight]
      by_cases c2 : s + i < w
      · rw [if_pos c2]
      · have e : m.testBit i = false := Nat.testBit_lt_two_pow (Nat.lt_of_lt_of_le hm (Nat.pow_le_pow_right (by decide) (by omega)))
        rw [e, Bool.and_false, Bool.and_false]
    · rw [if_neg (by omega), if_neg c, if_neg c, show s + i - w = s + (i - w) by omega]
      have g := congrArg (fun x => Nat.testBit x (i - w)) ih
      simp only [Nat.testBit_and, Nat.testBit_shiftRight] at g
      exact g
theorem va_top {w : Nat} : ∀ k (d : Nat → Nat), vaN w d (k + 1) = vaN w d k + 2 ^ (w * k) * d k
  | 0, d => by
    unfold vaN vaN
    rw [Nat.mul_zero, Nat.mul_zero, Nat.pow_zero, Nat.one_mul]
  | k + 1, d => by
    have ih := va_top (w := w) k (fun i => d (i + 1))
    have e1 : vaN w d (k + 1 + 1) = 2 ^ w * vaN w (fun i => d (i + 1)) (k + 1) + d 0 := rfl
    have e2 : vaN w d (k + 1) = 2 ^ w * vaN w (fun i => d (i + 1)) k + d 0 := rfl
    rw [e1, e2, ih, Nat.mul_add, ← Nat.mul_assoc, ← Nat.pow_add, show w + w * k = w * (k + 1) by rw [Nat.mul_succ, Nat.add_comm]]
    omega
theorem va_add {w : Nat} : ∀ k (d e : Nat → Nat), vaN w d k + vaN w e k = vaN w (fun i => d i + e i) k
  | 0, _, _ => rfl
  | k + 1, d, e => by
    unfold vaN
    rw [← va_add k (fun i => d (i + 1)) (fun i => e (i + 1)), Nat.mul_add]
    show 2 ^ w * vaN w (fun i => d (i + 1)) k + d 0 + (2 ^ w * vaN w (fun i => e (i + 1)) k + e 0) = 2 ^ w * vaN w (fun i => d (i + 1)) k + 2 ^ w * vaN w (fun i => e (i + 1)) k + (d 0 + e 0)
    omega
theorem va_sub {w : Nat} (d e : Nat → Nat) (k : Nat) (h : ∀ i, e i ≤ d i) : vaN w d k - vaN w e k = vaN w (fun i => d i - e i) k := by
  have g := va_add (w := w) k (fun i => d i - e i) e
  have g2 : vaN w (fun i => d i - e i + e i) k = vaN w d k := va_c k _ _ (fun i _ => by have := h i; omega)
  rw [g2] at g
  omega
theorem va_lt {w : Nat} : ∀ k (d : Nat → Nat), (∀ i, d i < 2 ^ w) → vaN w d k < 2 ^ (w * k)
  | 0, _, _ => by unfold vaN; rw [Nat.mul_zero]; decide
  | k + 1, d, h => by
    have ih := va_lt k (fun i => d (i + 1)) (fun i => h (i + 1))
    have e : 2 ^ (w * (k + 1)) = 2 ^ w * 2 ^ (w * k) := by rw [← Nat.pow_add, Nat.mul_succ, Nat.add_comm]
    have h0 := h 0
    unfold vaN
    rw [e]
    have : 2 ^ w * (vaN w (fun i => d (i + 1)) k + 1) ≤ 2 ^ w * 2 ^ (w * k) := Nat.mul_le_mul_left _ ih
    rw [Nat.mul_add, Nat.mul_one] at this
    omega
theorem va_sh {w : Nat} {d : Nat → Nat} {k : Nat} (h : d 0 < 2 ^ w) (h0 : d k = 0) : vaN w d k >>> w = vaN w (fun i => d (i + 1)) k := by
  have e := va_top (w := w) k d
  rw [h0, Nat.mul_zero] at e
  have e2 : vaN w d (k + 1) = vaN w d k := e
  rw [← e2, Nat.shiftRight_eq_div_pow]
  show (2 ^ w * vaN w (fun i => d (i + 1)) k + d 0) / 2 ^ w = _
  rw [Nat.mul_add_div (Nat.two_pow_pos w), Nat.div_eq_of_lt h, Nat.add_zero]
theorem va_two {w : Nat} : ∀ k (d : Nat → Nat), vaN w d (2 * k) = vaN (w + w) (fun i => 2 ^ w * d (2 * i + 1) + d (2 * i)) k
  | 0, _ => rfl
  | k + 1, d => by
    have ih := va_two (w := w) k (fun i => d (i + 2))
    have e1 : vaN w d (2 * (k + 1)) = 2 ^ w * (2 ^ w * vaN w (fun i => d (i + 2)) (2 * k) + d 1) + d 0 := rfl
    have e2 : vaN (w + w) (fun i => 2 ^ w * d (2 * i + 1) + d (2 * i)) (k + 1) = 2 ^ (w + w) * vaN (w + w) (fun i => 2 ^ w * d (2 * i + 1 + 2) + d (2 * i + 2)) k + (2 ^ w * d 1 + d 0) := rfl
    rw [e1, e2, ih, Nat.pow_add, Nat.mul_add, Nat.mul_assoc, Nat.add_assoc]
def dgN (n i : Nat) : Nat := n / 4 ^ i % 4
theorem va_dg : ∀ k n, n < 4 ^ k → vaN 2 (dgN n) k = n
  | 0, n, h => by unfold vaN; rw [Nat.pow_zero] at h; omega
  | k + 1, n, h => by
    have e : ∀ i, dgN n (i + 1) = dgN (n / 4) i := fun i => by
      unfold dgN
      rw [Nat.pow_succ, Nat.div_div_eq_div_mul, Nat.mul_comm 4]
    have ih := va_dg k (n / 4) (by rw [Nat.pow_succ] at h; omega)
    unfold vaN
    rw [va_c k (fun i => dgN n (i + 1)) (dgN (n / 4)) (fun i _ => e i), ih]
    unfold dgN
    rw [Nat.pow_zero, Nat.div_one]
    omega
def nL (x : Int64) : Nat := x.toBitVec.toNat
theorem nL_lt (x : Int64) : nL x < 18446744073709551616 := x.toBitVec.isLt
theorem nL_sh (x : Int64) {z : UInt64} (m : Fin 64) (e : z.toBitVec = BitVec.ofNat 64 m.val) : nL (x.toUInt64 >>> z).toInt64 = nL x >>> m.val := by
  show ((x.toUInt64 >>> z).toBitVec).toNat = _
  rw [UInt64.toBitVec_shiftRight, e]
  have : (BitVec.ofNat 64 m.val % 64).toNat = m.val := by
    have := m.isLt
    simp
  rw [BitVec.ushiftRight_eq', this, BitVec.toNat_ushiftRight]
  rfl
theorem nL_and (x y : Int64) : nL (x &&& y) = nL x &&& nL y := by
  unfold nL
  rw [Int64.toBitVec_and, BitVec.toNat_and]
theorem nL_add {x y : Int64} (h : nL x + nL y < 18446744073709551616) : nL (x + y) = nL x + nL y := by
  show (x.toBitVec + y.toBitVec).toNat = _
  rw [BitVec.toNat_add]
  exact Nat.mod_eq_of_lt h
theorem nL_sub {x y : Int64} (h : nL y ≤ nL x) : nL (x - y) = nL x - nL y := by
  show (x.toBitVec - y.toBitVec).toNat = _
  rw [BitVec.toNat_sub]
  have h1 := nL_lt x
  have h2 := nL_lt y
  unfold nL at *
  omega
def sL1 (x : Int64) : Int64 := x - ((x.toUInt64 >>> ((1 : Int32).toInt64.toUInt64 &&& Int64.toUInt64 63)).toInt64 &&& 6148914691236517205)
def sL2 (x : Int64) : Int64 := (x &&& 3689348814741910323) + ((x.toUInt64 >>> ((2 : Int32).toInt64.toUInt64 &&& Int64.toUInt64 63)).toInt64 &&& 3689348814741910323)
def sL3 (x : Int64) : Int64 := (x + (x.toUInt64 >>> ((4 : Int32).toInt64.toUInt64 &&& Int64.toUInt64 63)).toInt64) &&& 1085102592571150095
def sL4 (x : Int64) : Int64 := x + (x.toUInt64 >>> ((8 : Int32).toInt64.toUInt64 &&& Int64.toUInt64 63)).toInt64
def sL5 (x : Int64) : Int64 := x + (x.toUInt64 >>> ((16 : Int32).toInt64.toUInt64 &&& Int64.toUInt64 63)).toInt64
def sL6 (x : Int64) : Int64 := x + (x.toUInt64 >>> ((32 : Int32).toInt64.toUInt64 &&& Int64.toUInt64 63)).toInt64
theorem nL_s1 {d : Nat → Nat} {x : Int64} (hx : nL x = vaN 2 d 32) (hd : ∀ i, d i < 4) : nL (sL1 x) = vaN 2 (fun i => d i - ((d i >>> 1) &&& 1)) 32 := by
  have f : ∀ i : Fin 4, (i.val >>> 1) &&& 1 ≤ i.val := by decide
  have h1 : nL ((x.toUInt64 >>> ((1 : Int32).toInt64.toUInt64 &&& Int64.toUInt64 63)).toInt64 &&& 6148914691236517205) = vaN 2 (fun i => (d i >>> 1) &&& 1) 32 := by
    rw [nL_and, nL_sh x (1 : Fin 64) (by decide), hx, show nL 6148914691236517205 = vaN 2 (fun _ => 1) 32 from by decide]
    exact va_and (w := 2) (s := 1) (m := 1) (by decide) (by decide) 32 d hd
  have h2 := va_sub (w := 2) d (fun i => (d i >>> 1) &&& 1) 32 (fun i => f ⟨d i, hd i⟩)
  have h3 := va_add (w := 2) 32 (fun i => d i - ((d i >>> 1) &&& 1)) (fun i => (d i >>> 1) &&& 1)
  rw [va_c 32 (fun i => d i - ((d i >>> 1) &&& 1) + ((d i >>> 1) &&& 1)) d (fun i _ => by have := f ⟨d i, hd i⟩; show d i - ((d i >>> 1) &&& 1) + ((d i >>> 1) &&& 1) = d i; have t : (d i >>> 1) &&& 1 ≤ d i := this; omega)] at h3
  unfold sL1
  rw [nL_sub (by rw [h1, hx]; omega), h1, hx, h2]
theorem nL_s2 {e : Nat → Nat} {x : Int64} (hx : nL x = vaN 2 e 32) (he : ∀ i, e i ≤ 2) : nL (sL2 x) = vaN 4 (fun i => e (2 * i) + e (2 * i + 1)) 16 := by
  have f : ∀ i j : Fin 3, (4 * j.val + i.val < 16 ∧ ((4 * j.val + i.val) >>> 0) &&& 3 = i.val) ∧ ((4 * j.val + i.val) >>> 2) &&& 3 = j.val := by decide
  have f2 := fun i => f ⟨e (2 * i), by have := he (2 * i); omega⟩ ⟨e (2 * i + 1), by have := he (2 * i + 1); omega⟩
  have g : nL x = vaN 4 (fun i => 4 * e (2 * i + 1) + e (2 * i)) 16 := by
    rw [hx]
    exact va_two (w := 2) 16 e
  have lt : ∀ i, 4 * e (2 * i + 1) + e (2 * i) < 2 ^ 4 := fun i => (f2 i).1.1
  have h1 : nL (x &&& 3689348814741910323) = vaN 4 (fun i => e (2 * i)) 16 := by
    rw [nL_and, g, show nL 3689348814741910323 = vaN 4 (fun _ => 3) 16 from by decide]
    have := va_and (w := 4) (s := 0) (m := 3) (by decide) (by decide) 16 _ lt
    rw [Nat.shiftRight_zero] at this
    exact this.trans (va_c 16 _ _ (fun i _ => (f2 i).1.2))
  have h2 : nL ((x.toUInt64 >>> ((2 : Int32).toInt64.toUInt64 &&& Int64.toUInt64 63)).toInt64 &&& 3689348814741910323) = vaN 4 (fun i => e (2 * i + 1)) 16 := by
    rw [nL_and, nL_sh x (2 : Fin 64) (by decide), g, show nL 3689348814741910323 = vaN 4 (fun _ => 3) 16 from by decide]
    exact (va_and (w := 4) (s := 2) (m := 3) (by decide) (by decide) 16 _ lt).trans (va_c 16 _ _ (fun i _ => (f2 i).2))
  have h3 := va_add (w := 4) 16 (fun i => e (2 * i)) (fun i => e (2 * i + 1))
  have h4 := va_lt (w := 4) 16 (fun i => e (2 * i) + e (2 * i + 1)) (fun i => by have := he (2 * i); have := he (2 * i + 1); show _ < 16; omega)
  unfold sL2
  rw [nL_add (by rw [h1, h2, h3]; exact h4), h1, h2, h3]
theorem nL_s3 {f : Nat → Nat} {x : Int64} (hx : nL x = vaN 4 f 16) (hf : ∀ i, f i ≤ 4) (h0 : f 16 = 0) : nL (sL3 x) = vaN 8 (fun i => f (2 * i) + f (2 * i + 1)) 8 := by
  have t : ∀ i j : Fin 9, 16 * j.val + i.val < 256 ∧ ((16 * j.val + i.val) >>> 0) &&& 15 = i.val := by decide
  have b : ∀ i, f i + f (i + 1) < 9 := fun i => by have := hf i; have := hf (i + 1); omega
  have h1 : nL (x.toUInt64 >>> ((4 : Int32).toInt64.toUInt64 &&& Int64.toUInt64 63)).toInt64 = vaN 4 (fun i => f (i + 1)) 16 := by
    rw [nL_sh x (4 : Fin 64) (by decide), hx]
    exact va_sh (by have := hf 0; show _ < 16; omega) h0
  have h3 := va_add (w := 4) 16 f (fun i => f (i + 1))
  have h4 := va_lt (w := 4) 16 (fun i => f i + f (i + 1)) (fun i => by have := b i; show _ < 16; omega)
  have f2 := fun i => t ⟨f (2 * i) + f (2 * i + 1), b (2 * i)⟩ ⟨f (2 * i + 1) + f (2 * i + 1 + 1), b (2 * i + 1)⟩
  unfold sL3
  rw [nL_and, nL_add (by rw [h1, hx, h3]; exact h4), h1, hx, h3, show nL 1085102592571150095 = vaN 8 (fun _ => 15) 8 from by decide, show vaN 4 (fun i => f i + f (i + 1)) 16 = vaN 8 (fun i => 16 * (f (2 * i + 1) + f (2 * i + 1 + 1)) + (f (2 * i) + f (2 * i + 1))) 8 from va_two (w := 4) 8 _]
  have := va_and (w := 8) (s := 0) (m := 15) (by decide) (by decide) 8 _ (fun i => (f2 i).1)
  rw [Nat.shiftRight_zero] at this
  exact this.trans (va_c 8 _ _ (fun i _ => (f2 i).2))
theorem nL_s4 {h : Nat → Nat} {x : Int64} (hx : nL x = vaN 8 h 8) (hh : ∀ i, h i ≤ 8) (h0 : ∀ i, 8 ≤ i → h i = 0) : nL (sL6 (sL5 (sL4 x))) % 128 = h 0 + h 1 + h 2 + h 3 + h 4 + h 5 + h 6 + h 7 := by
  have k4 : ∀ {g : Nat → Nat} {M : Nat}, M ≤ 100 → (∀ i, g i ≤ M) → (∀ i, 8 ≤ i → g i = 0) → vaN 8 g 8 >>> 8 = vaN 8 (fun i => g (i + 1)) 8 := fun hM hg g0 => va_sh (by have := hg 0; show _ < 256; omega) (g0 8 (Nat.le_refl _))
  have ad : ∀ {g g' : Nat → Nat} {y z : Int64}, nL y = vaN 8 g 8 → nL z = vaN 8 g' 8 → (∀ i, g i + g' i ≤ 200) → nL (y + z) = vaN 8 (fun i => g i + g' i) 8 := fun {g g' y z} hy hz hb => by
    have h3 := va_add (w := 8) 8 g g'
    have h4 := va_lt (w := 8) 8 (fun i => g i + g' i) (fun i => by have := hb i; show _ < 256; omega)
    rw [nL_add (by rw [hy, hz, h3]; exact h4), hy, hz, h3]
  have s8 : ∀ n : Nat, n >>> 16 = (n >>> 8) >>> 8 := fun n => Nat.shiftRight_add n 8 8
  have s16 : ∀ n : Nat, n >>> 32 = (n >>> 16) >>> 16 := fun n => Nat.shiftRight_add n 16 16
  have a4 : nL (sL4 x) = vaN 8 (fun i => h i + h (i + 1)) 8 := by
    refine ad hx ?_ (fun i => by have := hh i; have := hh (i + 1); omega)
    rw [nL_sh x (8 : Fin 64) (by decide), hx]
    exact k4 (M := 8) (by decide) hh h0
  have a5 : nL (sL5 (sL4 x)) = vaN 8 (fun i => (h i + h (i + 1)) + (h (i + 2) + h (i + 2 + 1))) 8 := by
    refine ad a4 ?_ (fun i => by have := hh i; have := hh (i + 1); have := hh (i + 2); have := hh (i + 2 + 1); omega)
    rw [nL_sh _ (16 : Fin 64) (by decide), a4]
    show _ >>> 16 = _
    rw [s8, k4 (M := 16) (by decide) (fun i => by have := hh i; have := hh (i + 1); omega) (fun i hi => by rw [h0 i hi, h0 (i + 1) (by omega)]), k4 (M := 16) (by decide) (fun i => by have := hh (i + 1); have := hh (i + 1 + 1); omega) (fun i hi => by rw [h0 (i + 1) (by omega), h0 (i + 1 + 1) (by omega)])]
  have g0 : ∀ i, 8 ≤ i → (h i + h (i + 1)) + (h (i + 2) + h (i + 2 + 1)) = 0 := fun i hi => by rw [h0 i hi, h0 (i + 1) (by omega), h0 (i + 2) (by omega), h0 (i + 2 + 1) (by omega)]
  have gb : ∀ i, (h i + h (i + 1)) + (h (i + 2) + h (i + 2 + 1)) ≤ 32 := fun i => by have := hh i; have := hh (i + 1); have := hh (i + 2); have := hh (i + 2 + 1); omega
  have a6 : nL (sL6 (sL5 (sL4 x))) = vaN 8 (fun i => ((h i + h (i + 1)) + (h (i + 2) + h (i + 2 + 1))) + ((h (i + 4) + h (i + 4 + 1)) + (h (i + 4 + 2) + h (i + 4 + 2 + 1)))) 8 := by
    refine ad a5 ?_ (fun i => by have := gb i; have := gb (i + 4); omega)
    rw [nL_sh _ (32 : Fin 64) (by decide), a5]
    show _ >>> 32 = _
    rw [s16, s8, s8, k4 (M := 32) (by decide) gb g0, k4 (M := 32) (by decide) (fun i => gb (i + 1)) (fun i hi => g0 (i + 1) (by omega)), k4 (M := 32) (by decide) (fun i => gb (i + 1 + 1)) (fun i hi => g0 (i + 1 + 1) (by omega)), k4 (M := 32) (by decide) (fun i => gb (i + 1 + 1 + 1)) (fun i hi => g0 (i + 1 + 1 + 1) (by omega))]
  rw [a6]
  have t := gb 0
  have t2 := gb 4
  unfold vaN
  show (256 * _ + (((h 0 + h 1) + (h 2 + h 3)) + ((h 4 + h 5) + (h 6 + h 7)))) % 128 = _
  have t' : (h 0 + h 1) + (h 2 + h 3) ≤ 32 := t
  have t2' : (h 4 + h 5) + (h 6 + h 7) ≤ 32 := t2
  omega
def pcL (x : Int64) : Int32 := (sL6 (sL5 (sL4 (sL3 (sL2 (sL1 x)))))).toInt32 &&& 127
theorem x_pcL (x : Int64) (a : zA) (b : zB) : J_bitCountL x a b = okI (pcL x) a b := (q_J_bitCountL x a b).trans (okI_ret _ _ _)
theorem dg_bits (n i : Nat) : dgN n i - ((dgN n i >>> 1) &&& 1) = cond (n.testBit (2 * i)) 1 0 + cond (n.testBit (2 * i + 1)) 1 0 := by
  have f : ∀ j : Fin 4, j.val - ((j.val >>> 1) &&& 1) = cond (j.val.testBit 0) 1 0 + cond (j.val.testBit 1) 1 0 := by decide
  have e : dgN n i = (n >>> (2 * i)) % 2 ^ 2 := by
    unfold dgN
    rw [Nat.shiftRight_eq_div_pow, Nat.pow_mul]
  have f1 := f ⟨dgN n i, by rw [e]; exact Nat.mod_lt _ (by decide)⟩
  have b0 : (dgN n i).testBit 0 = n.testBit (2 * i) := by
    rw [e, Nat.testBit_mod_two_pow, Nat.testBit_shiftRight]
    rfl
  have b1 : (dgN n i).testBit 1 = n.testBit (2 * i + 1) := by
    rw [e, Nat.testBit_mod_two_pow, Nat.testBit_shiftRight]
    rfl
  rw [← b0, ← b1]
  exact f1
theorem pcL_cnt (x : Int64) : pcL x = nI (cnt (fun i => x.toBitVec.getLsbD i) 64) := by
  have hn := nL_lt x
  have d4 : ∀ i, dgN (nL x) i < 4 := fun i => Nat.mod_lt _ (by decide)
  have d0 : ∀ i, 32 ≤ i → dgN (nL x) i = 0 := fun i hi => by
    unfold dgN
    rw [Nat.div_eq_of_lt (Nat.lt_of_lt_of_le hn (show 4 ^ 32 ≤ 4 ^ i from Nat.pow_le_pow_right (by decide) hi))]
  obtain ⟨e, he⟩ : ∃ e : Nat → Nat, e = fun i => dgN (nL x) i - ((dgN (nL x) i >>> 1) &&& 1) := ⟨_, rfl⟩
  have e2 : ∀ i, e i ≤ 2 := fun i => by
    rw [he]
    show dgN (nL x) i - _ ≤ 2
    rw [dg_bits]
    cases (nL x).testBit (2 * i) <;> cases (nL x).testBit (2 * i + 1) <;> decide
  have e0 : ∀ i, 32 ≤ i → e i = 0 := fun i hi => by
    rw [he]
    show dgN (nL x) i - _ = 0
    rw [d0 i hi, Nat.zero_sub]
  have s1 := nL_s1 (x := x) (va_dg 32 (nL x) hn).symm d4
  rw [← he] at s1
  have s2 := nL_s2 s1 e2
  have s3 := nL_s3 s2 (fun i => by have := e2 (2 * i); have := e2 (2 * i + 1); omega) (by rw [e0 (2 * 16) (by decide), e0 (2 * 16 + 1) (by decide)])
  have s4 := nL_s4 s3 (fun i => by have := e2 (2 * (2 * i)); have := e2 (2 * (2 * i) + 1); have := e2 (2 * (2 * i + 1)); have := e2 (2 * (2 * i + 1) + 1); omega) (fun i hi => by rw [e0 (2 * (2 * i)) (by omega), e0 (2 * (2 * i) + 1) (by omega), e0 (2 * (2 * i + 1)) (by omega), e0 (2 * (2 * i + 1) + 1) (by omega)])
  have ec : ∀ i, e i = cond ((nL x).testBit (2 * i)) 1 0 + cond ((nL x).testBit (2 * i + 1)) 1 0 := fun i => by
    rw [he]
    exact dg_bits _ i
  have fin : nL (sL6 (sL5 (sL4 (sL3 (sL2 (sL1 x)))))) % 128 = cnt (fun i => (nL x).testBit i) 64 := by
    rw [s4]
    simp only [ec, cnt]
    simp only [Nat.reduceMul, Nat.reduceAdd]
    omega
  have cb : cnt (fun i => (nL x).testBit i) 64 = cnt (fun i => x.toBitVec.getLsbD i) 64 := rfl
  rw [← cb, ← fin]
  unfold pcL
  generalize sL6 (sL5 (sL4 (sL3 (sL2 (sL1 x))))) = z
  apply Int32.toBitVec_inj.mp
  apply BitVec.eq_of_toNat_eq
  have z1 : (z.toInt32 &&& 127).toBitVec.toNat = (nL z % 2 ^ 32) &&& 127 := by
    rw [Int32.toBitVec_and, BitVec.toNat_and]
    show (z.toBitVec.signExtend 32).toNat &&& 127 = _
    rw [BitVec.signExtend_eq_setWidth_of_le _ (by decide), BitVec.toNat_setWidth]
    rfl
  rw [z1]
  show _ = (nL z % 128) % 2 ^ 32
  rw [show (127 : Nat) = 2 ^ 7 - 1 from rfl, Nat.and_two_pow_sub_one_eq_mod]
  omega
theorem cnt_add {f : Nat → Bool} (m : Nat) : ∀ k, cnt f (m + k) = cnt f m + cnt (fun i => f (m + i)) k
  | 0 => rfl
  | k + 1 => by
    show cnt f (m + k) + cond (f (m + k)) 1 0 = cnt f m + (cnt (fun i => f (m + i)) k + cond (f (m + k)) 1 0)
    rw [cnt_add m k, Nat.add_assoc]
theorem k_size {q : Nat} (hq : zokc zSH q 3 = true) (a : zA) (b : zB) : K_size q a b = okI (nI (cnt (hK b q) 128)) a b := by
  have e1 : cnt (fun i => (b q 0).toBitVec.getLsbD i) 64 = cnt (hK b q) 64 := cnt_c 64 (fun i hi => by
    unfold hK
    rw [if_pos hi])
  have e2 : cnt (fun i => (b q 1).toBitVec.getLsbD i) 64 = cnt (fun i => hK b q (64 + i)) 64 := cnt_c 64 (fun i hi => by
    unfold hK
    rw [if_neg (by omega), Nat.add_sub_cancel_left])
  rw [q_K_size, hq, cond_true, x_pcL, zcI_ok, cond_true, x_pcL, zcI_ok, pcL_cnt, pcL_cnt, nI_add, e1, e2, ← cnt_add 64 64]
  exact okI_ret _ _ _
