/-! Laws broken at a price: the reference's tables. -/
def bn (c : Bool) : Nat := cond c 1 0
def brkO (a : zA) (T W Q S l p : Nat) (o : Option Nat) : Nat := o.elim 0 (fun w => bn (!decide (yWhy a T W Q w p T = 0)) + bn (decide (l < 10) && metB (xE a) Q T S T l w))
def scB (c : Int) (a : zA) (T W Q : Nat) : Nat → Nat → Option Int := scP (some c) 0 a T W Q
def tgB (c : Int) (a : zA) (Q T S : Nat) : Nat → Nat → Option Int := tgP (some c) 0 a Q T S
theorem scB_v (c : Int) (a : zA) (T W Q p w : Nat) : scB c a T W Q p w = cond (yAble a w p && decide (a 11 (100 * w + T) = 0)) (some (prz a p - c * (bn (!decide (yWhy a T W Q w p T = 0)) : Nat))) none := by
  unfold scB scP
  rw [hB_zero, Bool.false_or]
  cases yAble a w p && decide (a 11 (100 * w + T) = 0)
  · rfl
  · cases decide (yWhy a T W Q w p T = 0)
    · show some (prz a p - c) = some (prz a p - c * ((1 : Nat) : Int))
      rw [show c * ((1 : Nat) : Int) = c from Int.mul_one c]
    · show some (prz a p) = some (prz a p - c * ((0 : Nat) : Int))
      rw [show c * ((0 : Nat) : Int) = 0 from Int.mul_zero c, Int.sub_zero]
theorem gnB (c : Int) (a : zA) (T W Q S p l w : Nat) : gnO (scB c a T W Q) (tgB c a Q T S) p l w = cond (yAble a w p && decide (a 11 (100 * w + T) = 0)) (some (prz a p - c * (brkO a T W Q S l p (some w) : Nat))) none := by
  unfold gnO
  rw [scB_v]
  cases yAble a w p && decide (a 11 (100 * w + T) = 0)
  · rfl
  · show cond (decide (l < 10)) ((tgB c a Q T S l w).elim none (fun t => some (prz a p - c * (bn (!decide (yWhy a T W Q w p T = 0)) : Nat) + t))) (some (prz a p - c * (bn (!decide (yWhy a T W Q w p T = 0)) : Nat))) = some (prz a p - c * ((bn (!decide (yWhy a T W Q w p T = 0)) + bn (decide (l < 10) && metB (xE a) Q T S T l w) : Nat) : Int))
    generalize bn (!decide (yWhy a T W Q w p T = 0)) = n
    have key : ∀ m : Nat, prz a p - c * ((n + m : Nat) : Int) = prz a p - c * (n : Int) - c * (m : Int) := fun m => by
      rw [Int.natCast_add, Int.mul_add]
      omega
    rw [key]
    cases decide (l < 10)
    · show some (prz a p - c * (n : Int)) = some (prz a p - c * (n : Int) - c * ((0 : Nat) : Int))
      rw [show c * ((0 : Nat) : Int) = 0 from Int.mul_zero c, Int.sub_zero]
    · unfold tgB tgP
      rw [hB_zero, hB_zero]
      cases metB (xE a) Q T S T l w
      · show some (prz a p - c * (n : Int) + 0) = some (prz a p - c * (n : Int) - c * ((0 : Nat) : Int))
        rw [show c * ((0 : Nat) : Int) = 0 from Int.mul_zero c, Int.sub_zero, Int.add_zero]
      · show some (prz a p - c * (n : Int) + -c) = some (prz a p - c * (n : Int) - c * ((1 : Nat) : Int))
        rw [show c * ((1 : Nat) : Int) = c from Int.mul_one c, Int.sub_eq_add_neg (b := c)]
def okA (a : zA) (T w p : Nat) : Bool := yAble a w p && decide (a 11 (100 * w + T) = 0)
def X3 (l : Nat) (x : Int32) : Prop := x + 1 = nI (aiM l) ∧ (x < 0 ↔ l = 10) ∧ (l ≠ 10 → x = nI l)
/-- what the reference has noted for the price -/
def PGo (c : Int) (P Q T W S : Nat) (a A : zA) : Prop := (vw P Q T W S a A ∧ v0 A ∧ A 194 45 = kI c) ∧ ∀ l, l < P → A 219 l = bitsN (fun y => yWith 0 a Q T S l y) P
theorem PGo_f {c : Int} {P Q T W S : Nat} {a A A' : zA} (h : PGo c P Q T W S a A) (e : ∀ q, q ≠ 217 → q ≠ 220 → A' q = A q) : PGo c P Q T W S a A' := by
  obtain ⟨⟨h1, h2, h3⟩, h4⟩ := h
  refine ⟨⟨vw_c h1 (fun j hj => by rw [e 194 (by decide) (by decide)]) (fun q g1 g2 => e q (by omega) (by omega)), ?_, ?_⟩, ?_⟩
  · unfold v0
    rw [e 194 (by decide) (by decide)]
    exact h2
  · rw [e 194 (by decide) (by decide)]; exact h3
  · rw [e 219 (by decide) (by decide)]; exact h4
theorem pg_able {c : Int} {P Q T W S p w : Nat} {a A : zA} {b : zB} (h : PGo c P Q T W S a A) (hp : p < Q) (hw : w < P) : M_isAble (nI p) (nI w) A b = okI (bI (okA a T w p)) A b := by
  obtain ⟨⟨hv, h0, -⟩, -⟩ := h
  have hA := fun K => v_away (K := K) hv (w := w) (d := T)
  obtain ⟨⟨h1, h2, h3, h4, h5⟩, ⟨-, -, ⟨-, t2⟩, -⟩, ⟨f1, f2, K, k1, k2, -⟩, -⟩ := id hv
  have k29 : M_isAble_29 A b = okI 0 A b := by rw [q_M_isAble_29, q_M_isAble_30]; exact okI_ret _ _ _
  have k25 : M_isAble_25 A b = okI 1 A b := by rw [q_M_isAble_25, q_M_isAble_30]; exact okI_ret _ _ _
  rw [q_M_isAble, zcond_f (nI_pos (by omega)), v_ableM hv hw hp, zcI_ok, zc_b0, k29, t2, m_away k1 k2 h0.1, hA K (by omega) (by omega) k2 k1, zcI_ok, zc_b0, decide_eq_false (nI_m1 (w := w) (by omega)), Bool.false_and, Bool.false_or, k25, k29]
  unfold okA
  cases yAble a w p <;> cases decide (a 11 (100 * w + T) = 0) <;> rfl
theorem pg_brk {c : Int} {P Q T W S p l : Nat} {x3 : Int32} {o : Option Nat} {a A : zA} {b : zB} (h : PGo c P Q T W S a A) (hp : p < Q) (hl : l = 10 ∨ l < P) (hx : X3 l x3) (ho : o = none ∨ ∃ w, w < P ∧ w ≠ l ∧ o = some w) : M_breaksAt (nI p) x3 (encW o) A b = okI (nI (brkO a T W Q S l p o)) A b := by
  obtain ⟨⟨hv, h0, -⟩, h4⟩ := h
  have hT := hv.2.1.2.2.1.2
  have hP := hv.1.1
  rcases ho with e | ⟨w, hw, hwl, e⟩
  · subst e
    rw [q_M_breaksAt, zcond_t (show encW none < 0 by decide)]
    exact okI_ret _ _ _
  · subst e
    have k49 : ∀ (x y : Bool), M_breaksAt_49 (bI x) (bI y) A b = okI (nI (bn x + bn y)) A b := fun x y => by
      rw [q_M_breaksAt_49, m_flag, zcI_ok]
      refine (okI_ret _ _ _).trans ?_
      cases x <;> cases y <;> rfl
    have k24 : ∀ x : Bool, M_breaksAt_24 x3 (nI w) (bI x) A b = okI (nI (bn x + bn (decide (l < 10) && metB (xE a) Q T S T l w))) A b := fun x => by
      have e48 : M_breaksAt_48 (bI x) A b = okI (nI (bn x + bn false)) A b := by rw [q_M_breaksAt_48]; exact k49 x false
      rw [q_M_breaksAt_24, m_flag, zcI_ok]
      rcases hl with h1 | h1
      · rw [zcond_t (hx.2.1.mpr h1), decide_eq_false (show ¬ l < 10 by omega), Bool.false_and, e48]
      · have e1 := hx.2.2 (by omega)
        rw [zcond_f (fun z => by have := hx.2.1.mp z; omega), e1, zin_nI (n := 10) (by omega) (by decide), cond_true, show (nI l).toNatClampNeg = l from nI_clamp (by omega), m_has _ (by omega), zcI_ok, zc_b0, h4 l h1, hB_bitsN (by omega) (by omega), decide_eq_true hw, Bool.true_and, decide_eq_true (show l < 10 by omega), Bool.true_and, e48, show M_breaksAt_49 (bI x) 1 A b = _ from k49 x true]
        unfold yWith
        rw [decide_eq_false (show ¬ l = w from fun z => hwl z.symm), hB_zero, hB_zero]
        cases metB (xE a) Q T S T l w <;> rfl
    rw [q_M_breaksAt, show encW (some w) = nI w from rfl, zcond_f (nI_pos (by omega)), hT, v_why hv h0 hw hp (Nat.le_refl T), zcI_ok]
    show _ = okI (nI (bn (!decide (yWhy a T W Q w p T = 0)) + bn (decide (l < 10) && metB (xE a) Q T S T l w))) A b
    rcases yWhy_4 a T W Q w p T with hy | ⟨hy, -⟩
    · rw [hy, zcond_f (by decide)]
      exact k24 false
    · rw [zcond_t hy, decide_eq_false (fun z => by rw [z] at hy; exact absurd hy (by decide))]
      exact k24 true
theorem pg_worth {c : Int} {P Q T W S p : Nat} {o : Option Nat} {a A : zA} {b : zB} (h : PGo c P Q T W S a A) (hp : p < Q) (ho : o = none ∨ ∃ w, w < P ∧ o = some w) : M_worthAt (nI p) (encW o) A b = okI (kI (opW a p o)) A b := by
  rw [m_prize h.1.1 hp (rOne_enc ho), yPrize_e h.1.1.1.1 ho]
/-- the value of a choice -/
def chV (c : Int) (a : zA) (P Q T W S k p u l : Nat) (o : Option Nat) : Int := opW a p o - c * (brkO a T W Q S l p o : Nat) + opV (scB c a T W Q) (tgB c a Q T S) bl0 P k (p + 1) (usO u o) (laO o)
theorem x3_enc {o : Option Nat} (h : ∀ w, o = some w → w < 10) : X3 (laO o) (encW o) := by
  cases o with
  | none => exact ⟨by decide, ⟨fun _ => rfl, fun _ => by decide⟩, fun z => absurd rfl z⟩
  | some w =>
    have hw := h w rfl
    refine ⟨?_, ⟨fun z => absurd z (nI_pos (by omega)), fun z => ?_⟩, fun _ => rfl⟩
    · show nI w + 1 = nI (aiM w)
      rw [nI_1, show aiM w = w + 1 from if_neg (by omega)]
    · have z : w = 10 := z
      omega
theorem opV_bB {c : Int} (hc : 0 ≤ c ∧ c ≤ 5000) (a : zA) (P Q T W S k p u l : Nat) : 0 ≤ opV (scB c a T W Q) (tgB c a Q T S) bl0 P k p u l ∧ opV (scB c a T W Q) (tgB c a Q T S) bl0 P k p u l ≤ 16161 * k := opV_0 (opB_P (pr := some c) (fun d h => by have := Option.some.inj h; omega) 0 a T W Q S) k p u l
theorem pg_priced {c : Int} {P Q T W S k p u l : Nat} {x3 : Int32} {o : Option Nat} {a A : zA} {b : zB} (hc : 0 ≤ c ∧ c ≤ 5000) (h : PGo c P Q T W S a A) (hp : p + (k + 1) = Q) (hu : u < 2 ^ P) (hl : l = 10 ∨ l < P) (hx : X3 l x3) (ho : o = none ∨ ∃ w, w < P ∧ w ≠ l ∧ o = some w) (hT : TOk (scB c a T W Q) (tgB c a Q T S) bl0 P Q (fun _ v => v) (p + 1) A) : M_priced (nI p) (nI u) x3 (encW o) A b = okI (kI (chV c a P Q T W S k p u l o)) A b := by
  have hP := h.1.1.1.1
  have hQ := h.1.1.1.2.1
  have p2 : 2 ^ P ≤ 1024 := Nat.pow_le_pow_right (by decide) hP
  have ho2 : o = none ∨ ∃ w, w < P ∧ o = some w := by
    rcases ho with e | ⟨w, h1, _, e⟩
    · exact .inl e
    · exact .inr ⟨w, h1, e⟩
  have lo : laO o = 10 ∨ (laO o < P ∧ Nat.testBit (usO u o) (laO o) = true) := by
    rcases ho2 with e | ⟨w, hw, e⟩
    · rw [e]; exact .inl rfl
    · rw [e]
      refine .inr ⟨hw, ?_⟩
      show Nat.testBit (u ||| 2 ^ w) w = true
      rw [tb_or, decide_eq_true rfl, Bool.or_true]
  have uo : usO u o < 2 ^ P := by
    rcases ho2 with e | ⟨w, hw, e⟩
    · rw [e]; exact hu
    · rw [e]; exact or_lt hu hw
  have ai : aiM (laO o) ≤ 10 := by unfold aiM; split <;> omega
  have xo := x3_enc (o := o) (fun w e => by
    rcases ho2 with e2 | ⟨w', hw, e2⟩
    · rw [e2] at e; exact absurd e (by simp)
    · rw [e2] at e
      have := Option.some.inj e
      omega)
  have T1 := hT (p + 1) (Nat.le_refl _) (by omega) (usO u o) uo (laO o) lo
  rw [show Q - (p + 1) = k by omega] at T1
  have ilt := ixM_lt (p := p + 1) (u := usO u o) (i := aiM (laO o)) (by omega) (by omega) ai
  have k15 : ∀ y : Int32, y = nI (usO u o) → M_priced_15 (nI p) x3 (encW o) y A b = okI (kI (chV c a P Q T W S k p u l o)) A b := fun y hy => by
    rw [hy, q_M_priced_15, pg_worth h (by omega) ho2, zcI_ok, pg_brk h (by omega) hl hx ho, zcI_ok, nI_1, m_index (by omega) (by omega) ai xo.1, zcI_ok, zin_nI (n := 123904) ilt (by decide), cond_true, show (nI (ixM (p + 1) (usO u o) (aiM (laO o)))).toNatClampNeg = ixM (p + 1) (usO u o) (aiM (laO o)) from nI_clamp (by omega), T1, h.1.2.2, ← kI_n, show kI c * kI (brkO a T W Q S l p o : Nat) = kI (c * (brkO a T W Q S l p o : Nat)) from (Int32.ofInt_mul c _).symm, kI_sub, kI_add]
    exact okI_ret _ _ _
  rw [q_M_priced]
  rcases ho2 with e | ⟨w, hw, e⟩
  · rw [zcond_t (show encW o < 0 by rw [e]; decide)]
    exact k15 _ (by rw [e]; rfl)
  · rw [zcond_f (show ¬ encW o < 0 by rw [e]; exact nI_pos (by omega))]
    exact k15 _ (by rw [e]; exact orB (by omega) (by omega))
