/-! Fresh: the best filling that was on no day. -/
def wasB (a : zA) (Q T : Nat) (t : Nat → Int32) : Bool := aF (fun d => !aF (fun q => !decide (xE a d q = t q)) 0 Q) 0 T
theorem wasB_c {a : zA} {Q T : Nat} {t t' : Nat → Int32} (h : ∀ q, q < Q → t q = t' q) : wasB a Q T t = wasB a Q T t' := by
  unfold wasB
  refine aF_congr T 0 (fun d _ _ => ?_)
  rw [aF_congr (f := fun q => !decide (xE a d q = t q)) (g := fun q => !decide (xE a d q = t' q)) Q 0 (fun q _ hq => by rw [h q (by omega)])]
theorem x_was {P Q T W S : Nat} {a A c : zA} {b : zB} {t : Nat → Int32} (hv : vw P Q T W S A c) (hs : sameX A a) (ht : ∀ q, q < Q → A 34 q = t q) : C_wasOnNoDay A b = okI (bI (!wasB a Q T t)) A b := by
  obtain ⟨⟨g1, g2, g3, g4, g5⟩, ⟨-, ⟨q1, -⟩, ⟨t1, -⟩, -⟩, -⟩ := id hv
  have inner : ∀ d, d < T → C_wasOnNoDay_17 (nI d) 1 0 A b = C_wasOnNoDay_62 (nI d) (bI (!aF (fun q => !decide (xE a d q = t q)) 0 Q)) A b := by
    intro d hd
    have off : ∀ i, i ≤ Q → C_wasOnNoDay_17 (nI d) 0 (nI i) A b = C_wasOnNoDay_62 (nI d) 0 A b := fun i hi => by
      rw [q_C_wasOnNoDay_17]
      cases decide (nI i < A 2 1)
      · rfl
      · rfl
    have hs2 : ∀ v i, 0 ≤ i → i < Q → C_wasOnNoDay_17 (nI d) (bI (!v)) (nI i) A b = C_wasOnNoDay_17 (nI d) (bI (!(v || !decide (xE a d i = t i)))) (nI (i + 1)) A b := by
      intro v i _ hi
      cases v
      · rw [q_C_wasOnNoDay_17, q1, zcond_t (nI_lt hi (by omega)), zcond_f (show ¬ bI (!false) = 0 by decide), s_onePlaced (by omega) (by omega), zcI_ok, zin_nI (n := 10) (by omega) (by decide), cond_true, show (nI i).toNatClampNeg = i from nI_clamp (by omega), ht i hi, hs 13 (by decide) (by decide), show a 13 (10 * d + i) = xE a d i from rfl, q_C_wasOnNoDay_55, q_C_wasOnNoDay_55, nI_1, Bool.false_or]
        cases decide (xE a d i = t i) <;> rfl
      · show C_wasOnNoDay_17 (nI d) 0 (nI i) A b = C_wasOnNoDay_17 (nI d) 0 (nI (i + 1)) A b
        rw [off i (by omega), off (i + 1) (by omega)]
    have he : ∀ v, C_wasOnNoDay_17 (nI d) (bI (!v)) (nI Q) A b = C_wasOnNoDay_62 (nI d) (bI (!v)) A b := fun v => by
      rw [q_C_wasOnNoDay_17, q1, zcond_f (nI_nlt (Nat.le_refl _) (by omega))]
    exact lpB (F := fun v i => C_wasOnNoDay_17 (nI d) (bI (!v)) (nI i) A b) hs2 he Q false 0 (Nat.le_refl _) (Nat.zero_add _)
  have step : ∀ d, 0 ≤ d → d < T → C_wasOnNoDay_2 (nI d) A b = cond (!aF (fun q => !decide (xE a d q = t q)) 0 Q) (okI 0 A b) (C_wasOnNoDay_2 (nI (d + 1)) A b) := by
    intro d _ hd
    rw [q_C_wasOnNoDay_2, t1, zcond_t (nI_lt hd (by omega)), inner d hd, q_C_wasOnNoDay_62, nI_1, zc_b0]
    cases (!aF (fun q => !decide (xE a d q = t q)) 0 Q)
    · rfl
    · exact okI_ret _ _ _
  have fin : C_wasOnNoDay_2 (nI T) A b = okI 1 A b := by
    rw [q_C_wasOnNoDay_2, t1, zcond_f (nI_nlt (Nat.le_refl _) (by omega))]
    exact okI_ret _ _ _
  rw [q_C_wasOnNoDay]
  refine (lpE (F := fun d => C_wasOnNoDay_2 (nI d) A b) step fin T 0 (Nat.le_refl _) (Nat.zero_add _)).trans ?_
  unfold wasB
  cases aF (fun d => !aF (fun q => !decide (xE a d q = t q)) 0 Q) 0 T <;> rfl
theorem m_ever {P Q T W S : Nat} {a C : zA} {b : zB} {t : Nat → Int32} (hv : vw P Q T W S a C) (ht : ∀ q, q < Q → C 224 q = t q) : M_wasEver C b = okI (bI (wasB a Q T t)) C b := by
  obtain ⟨⟨g1, g2, g3, g4, g5⟩, ⟨-, ⟨-, q2⟩, ⟨-, t2⟩, -⟩, -⟩ := id hv
  have inner : ∀ v d, d < T → M_wasEver_17 (bI v) (nI d) 1 0 C b = M_wasEver_4 (bI (v || !aF (fun q => !decide (xE a d q = t q)) 0 Q)) (nI (d + 1)) C b := by
    intro v d hd
    have hE := fun q hq => vw_E hv (Nat.le_refl T) d q hd hq
    have k51 : ∀ i, M_wasEver_51 (bI v) (nI d) (nI i) C b = M_wasEver_17 (bI v) (nI d) 0 (nI (i + 1)) C b := fun i => by
      rw [q_M_wasEver_51, q_M_wasEver_52, nI_1]
    have hs2 : ∀ w i, 0 ≤ i → i < Q → M_wasEver_17 (bI v) (nI d) (bI (!w)) (nI i) C b = M_wasEver_17 (bI v) (nI d) (bI (!(w || !decide (xE a d i = t i)))) (nI (i + 1)) C b := by
      intro w i _ hi
      cases w
      · rw [q_M_wasEver_17, q2, zcond_t (nI_lt hi (by omega)), zcond_f (show ¬ bI (!false) = 0 by decide), s_on (by omega), zcI_ok, zin_nI (n := 10) (by omega) (by decide), cond_true, show (nI i).toNatClampNeg = i from nI_clamp (by omega), ht i hi, hE i hi, k51, q_M_wasEver_52, nI_1, Bool.false_or]
        cases decide (xE a d i = t i) <;> rfl
      · rw [q_M_wasEver_17, q2, zcond_t (nI_lt hi (by omega)), zcond_t (show bI (!true) = 0 from rfl), k51]
        rfl
    have k67 : M_wasEver_67 (nI d) C b = M_wasEver_4 (bI true) (nI (d + 1)) C b := by rw [q_M_wasEver_67, q_M_wasEver_72, nI_1]; rfl
    have k72 : M_wasEver_72 (nI d) 0 C b = M_wasEver_4 (bI false) (nI (d + 1)) C b := by rw [q_M_wasEver_72, nI_1]; rfl
    have he : ∀ w, M_wasEver_17 (bI v) (nI d) (bI (!w)) (nI Q) C b = M_wasEver_4 (bI (v || !w)) (nI (d + 1)) C b := fun w => by
      rw [q_M_wasEver_17, q2, zcond_f (nI_nlt (Nat.le_refl _) (by omega)), k67, k72, zc_b0, zc_b0]
      cases v <;> cases w <;> rfl
    exact lpB (F := fun w i => M_wasEver_17 (bI v) (nI d) (bI (!w)) (nI i) C b) (K := fun w => M_wasEver_4 (bI (v || !w)) (nI (d + 1)) C b) hs2 he Q false 0 (Nat.le_refl _) (Nat.zero_add _)
  have step : ∀ v d, 0 ≤ d → d < T → M_wasEver_4 (bI v) (nI d) C b = M_wasEver_4 (bI (v || !aF (fun q => !decide (xE a d q = t q)) 0 Q)) (nI (d + 1)) C b := by
    intro v d _ hd
    rw [q_M_wasEver_4, t2, zcond_t (nI_lt hd (by omega)), inner v d hd]
  have fin : ∀ v, M_wasEver_4 (bI v) (nI T) C b = okI (bI v) C b := fun v => by
    rw [q_M_wasEver_4, t2, zcond_f (nI_nlt (Nat.le_refl _) (by omega))]
    cases v
    · exact okI_ret _ _ _
    · exact okI_ret _ _ _
  rw [q_M_wasEver]
  exact lpB (F := fun v d => M_wasEver_4 (bI v) (nI d) C b) step fin T false 0 (Nat.le_refl _) (Nat.zero_add _)
/-- the search without ceilings -/
def upT (t : Nat → Int32) (p : Nat) (x : Int32) : Nat → Int32 := fun q => if q = p then x else t q
def lfO (was : (Nat → Int32) → Bool) (v : Int) (t : Nat → Int32) (s : Int × (Nat → Int32)) : Int × (Nat → Int32) := cond (decide (s.1 < v) && !was t) (v, t) s
def dfO (sc tg : Nat → Nat → Option Int) (P : Nat) (was : (Nat → Int32) → Bool) : Nat → Nat → Nat → Nat → Int → (Nat → Int32) → Int × (Nat → Int32) → Int × (Nat → Int32)
  | 0, _, _, _, v, t, s => lfO was v t s
  | k + 1, p, u, l, v, t, s => fF (fun w s => cond (Nat.testBit u w) s ((gnO sc tg p l w).elim s (fun g => dfO sc tg P was k (p + 1) (u ||| 2 ^ w) w (v + g) (upT t p (nI w)) s))) 0 P (dfO sc tg P was k (p + 1) u 10 v (upT t p (-1)) s)
theorem fF_same {α : Type} {f : Nat → α → α} : ∀ k j (x : α), (∀ w, j ≤ w → w < j + k → f w x = x) → fF f j k x = x
  | 0, _, _, _ => rfl
  | k + 1, j, x, h => by
    show fF f (j + 1) k (f j x) = x
    rw [h j (Nat.le_refl _) (by omega), fF_same k (j + 1) x (fun w h1 h2 => h w (by omega) (by omega))]
/-- nothing greater below: nothing changes -/
theorem dfO_dead {sc tg : Nat → Nat → Option Int} {P : Nat} {was : (Nat → Int32) → Bool} : ∀ k p u l v t s, v + opV sc tg bl0 P k p u l ≤ s.1 → dfO sc tg P was k p u l v t s = s
  | 0, p, u, l, v, t, s, h => by
    have h : v + 0 ≤ s.1 := h
    show cond (decide (s.1 < v) && !was t) (v, t) s = s
    rw [decide_eq_false (by omega)]
    rfl
  | k + 1, p, u, l, v, t, s, h => by
    have hb := opV_b (sc := sc) (tg := tg) (bl := bl0) (P := P) (k := k) (p := p) (u := u) (l := l)
    have e0 : dfO sc tg P was k (p + 1) u 10 v (upT t p (-1)) s = s := dfO_dead k (p + 1) u 10 v _ s (by
      have h1 : bl0 p + opV sc tg bl0 P k (p + 1) u 10 ≤ opV sc tg bl0 P (k + 1) p u l := hb
      have : bl0 p = 0 := rfl
      omega)
    show fF _ 0 P (dfO sc tg P was k (p + 1) u 10 v (upT t p (-1)) s) = s
    rw [e0]
    refine fF_same P 0 s (fun w _ hw => ?_)
    show cond (Nat.testBit u w) s _ = s
    cases tb : Nat.testBit u w
    · cases hg : gnO sc tg p l w with
      | none => rfl
      | some g =>
        have := opV_o (sc := sc) (tg := tg) (bl := bl0) (k := k) (p := p) (l := l) (show w < P by omega) tb hg
        exact dfO_dead k (p + 1) _ w (v + g) _ s (by omega)
    · rfl
