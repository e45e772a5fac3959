/-! The reference's layers: the same values by a map that keeps the order; the same filling. -/
def ixM (p u i : Nat) : Nat := (p * 1024 + u) * 11 + i
def aiM (l : Nat) : Nat := if l = 10 then 0 else l + 1
theorem m_index {p u i : Nat} {x : Int32} {a : zA} {b : zB} (hp : p ≤ 10) (hu : u < 1024) (hi : i ≤ 10) (hx : x + 1 = nI i) : M_indexOf (nI p) (nI u) x a b = okI (nI (ixM p u i)) a b := by
  have e1 : (nI p <<< (10 &&& 31)) ||| nI u = nI (p * 1024 + u) := by
    rw [pk_shlN (n := p) (10 &&& 31) 10 (by decide) (by omega)]
    refine hB_ext fun j hj => ?_
    rw [hB_or, hB_n hj, hB_n hj, hB_n hj, ← Nat.testBit_or]
    have := Nat.shiftLeft_add_eq_or_of_lt (a := p) (b := u) (i := 10) (by omega)
    rw [Nat.shiftLeft_eq] at this
    rw [← this]
  rw [q_M_indexOf, e1]
  have e2 : nI (p * 1024 + u) * 11 + x + 1 = nI (ixM p u i) := by
    rw [Int32.add_assoc, hx]
    exact s_mul (p * 1024 + u) 11 i
  rw [e2]
  exact okI_ret _ _ _
theorem ixM_lt {p u i : Nat} (hp : p ≤ 10) (hu : u < 1024) (hi : i ≤ 10) : ixM p u i < 123904 := by unfold ixM; omega
/-- a map that keeps the order, level by level -/
def simO (sc tg : Nat → Nat → Option Int) (bl : Nat → Int) (P Q : Nat) (hM : Nat → Option Nat → Int) (f : Nat → Int → Int) (D : Nat → Int → Prop) : Prop := (f 0 0 = 0 ∧ D 0 0) ∧ (∀ k p v, p + (k + 1) = Q → D k v → D (k + 1) (bl p + v) ∧ f (k + 1) (bl p + v) = hM p none + f k v) ∧ (∀ k p w l g v, p + (k + 1) = Q → w < P → gnO sc tg p l w = some g → D k v → D (k + 1) (g + v) ∧ f (k + 1) (g + v) = hM p (some w) + f k v) ∧ (∀ k v v', D k v → D k v' → (f k v < f k v' ↔ v < v')) ∧ ∀ k v, D k v → -100000000 ≤ f k v ∧ f k v ≤ 100000000
theorem simO_D {sc tg : Nat → Nat → Option Int} {bl : Nat → Int} {P Q : Nat} {hM : Nat → Option Nat → Int} {f : Nat → Int → Int} {D : Nat → Int → Prop} (h : simO sc tg bl P Q hM f D) : ∀ k p u l, p + k = Q → D k (opV sc tg bl P k p u l)
  | 0, _, _, _, _ => h.1.2
  | k + 1, p, u, l, hp => by
    rcases opV_x (sc := sc) (tg := tg) (bl := bl) (P := P) (k := k) (p := p) (u := u) (l := l) with e | ⟨w, g, h1, h2, h3, e⟩
    · rw [e]
      exact (h.2.1 k p _ hp (simO_D h k (p + 1) u 10 (by omega))).1
    · rw [e]
      exact (h.2.2.1 k p w l g _ hp h1 h3 (simO_D h k (p + 1) _ w (by omega))).1
theorem simO_max {sc tg : Nat → Nat → Option Int} {bl : Nat → Int} {P Q : Nat} {hM : Nat → Option Nat → Int} {f : Nat → Int → Int} {D : Nat → Int → Prop} (h : simO sc tg bl P Q hM f D) {k : Nat} {x y : Int} (hx : D k x) (hy : D k y) : max (f k x) (f k y) = f k (max x y) ∧ D k (max x y) := by
  by_cases c : x < y
  · have := (h.2.2.2.1 k x y hx hy).mpr c
    rw [Int.max_eq_right (show x ≤ y by omega), Int.max_eq_right (by omega)]
    exact ⟨rfl, hy⟩
  · have : ¬ f k x < f k y := fun z => c ((h.2.2.2.1 k x y hx hy).mp z)
    rw [Int.max_eq_left (show y ≤ x by omega), Int.max_eq_left (by omega)]
    exact ⟨rfl, hx⟩
theorem simO_eq {sc tg : Nat → Nat → Option Int} {bl : Nat → Int} {P Q : Nat} {hM : Nat → Option Nat → Int} {f : Nat → Int → Int} {D : Nat → Int → Prop} (h : simO sc tg bl P Q hM f D) {k : Nat} {x y : Int} (hx : D k x) (hy : D k y) : f k x = f k y ↔ x = y := by
  constructor
  · intro e
    have h1 := h.2.2.2.1 k x y hx hy
    have h2 := h.2.2.2.1 k y x hy hx
    omega
  · intro e
    rw [e]
/-- what the reference has noted, and how it values -/
def MGo (sc tg : Nat → Nat → Option Int) (P Q : Nat) (hM wM : Nat → Option Nat → Int) (a : zA) : Prop := (a 194 3 = nI P ∧ a 194 7 = nI Q) ∧ (∀ p l w, p < Q → w < P → (l = 10 ∨ l < P) → l ≠ w → (hB (a 218 p) w && (decide (l = 10) || hB (a 219 l) w)) = (gnO sc tg p l w).isSome) ∧ ∀ A, (∀ q, q ≠ 217 → q ≠ 220 → A q = a q) → ∀ p o b, p < Q → (o = none ∨ ∃ w, w < P ∧ o = some w) → M_gain (nI p) (encW o) A b = okI (kI (hM p o)) A b ∧ M_worthAt (nI p) (encW o) A b = okI (kI (wM p o)) A b
theorem MGo_f {sc tg : Nat → Nat → Option Int} {P Q : Nat} {hM wM : Nat → Option Nat → Int} {a a' : zA} (h : MGo sc tg P Q hM wM a) (e : ∀ q, q ≠ 217 → q ≠ 220 → a' q = a q) : MGo sc tg P Q hM wM a' := by
  obtain ⟨h1, h2, h3⟩ := h
  refine ⟨?_, ?_, fun A hA => h3 A (fun q g1 g2 => (hA q g1 g2).trans (e q g1 g2))⟩
  · rw [e 194 (by decide) (by decide)]; exact h1
  · rw [e 218 (by decide) (by decide), e 219 (by decide) (by decide)]; exact h2
/-- layers from one on are right -/
def TOk (sc tg : Nat → Nat → Option Int) (bl : Nat → Int) (P Q : Nat) (f : Nat → Int → Int) (p : Nat) (a : zA) : Prop := ∀ r, p ≤ r → r ≤ Q → ∀ u, u < 2 ^ P → ∀ l, (l = 10 ∨ (l < P ∧ Nat.testBit u l = true)) → a 217 (ixM r u (aiM l)) = kI (f (Q - r) (opV sc tg bl P (Q - r) r u l))
theorem m_cell {sc tg : Nat → Nat → Option Int} {bl : Nat → Int} {P Q k p u i l : Nat} {hM wM : Nat → Option Nat → Int} {f : Nat → Int → Int} {D : Nat → Int → Prop} {a : zA} {b : zB} (hS : simO sc tg bl P Q hM f D) (hG : MGo sc tg P Q hM wM a) (hP : P ≤ 10) (hQ : Q ≤ 10) (hp : p + (k + 1) = Q) (hu : u < 2 ^ P) (hi : i ≤ P) (hl : (i = 0 ∧ l = 10) ∨ (1 ≤ i ∧ l = i - 1)) (hlu : l = 10 ∨ Nat.testBit u l = true) (hT : TOk sc tg bl P Q f (p + 1) a) : M_layers_37 (nI p) (nI u) (nI i - 1) a b = M_layers_168 (nI p) (nI u) (nI i - 1) (zup a 217 (ixM p u i) (kI (f (k + 1) (opV sc tg bl P (k + 1) p u l)))) b := by
  have p2 : 2 ^ P ≤ 1024 := Nat.pow_le_pow_right (by decide) hP
  have hu2 : u < 1024 := by omega
  have hl2 : l = 10 ∨ l < P := by omega
  have hkq : Q - (p + 1) = k := by omega
  have hD := simO_D hS
  have hx1 : (-1 : Int32) + 1 = nI 0 := by decide
  obtain ⟨gn, gw⟩ := hG.2.2 a (fun _ _ _ => rfl) p none b (by omega) (.inl rfl)
  have T1 := hT (p + 1) (Nat.le_refl _) (by omega) u hu 10 (.inl rfl)
  rw [hkq, show aiM 10 = 0 from rfl] at T1
  have sb := hS.2.1 k p _ hp (hD k (p + 1) u 10 (by omega))
  have z1 : zin (nI (ixM (p + 1) u 0)) 123904 = true := zin_nI (ixM_lt (by omega) hu2 (by omega)) (by decide)
  have k1 : (nI (ixM (p + 1) u 0)).toNatClampNeg = ixM (p + 1) u 0 := nI_clamp (by have := ixM_lt (p := p + 1) (u := u) (i := 0) (by omega) hu2 (by omega); omega)
  have e37 : M_layers_37 (nI p) (nI u) (nI i - 1) a b = M_layers_63 (nI p) (nI u) (nI i - 1) (kI (f (k + 1) (bl p + opV sc tg bl P k (p + 1) u 10))) 0 a b := by
    rw [q_M_layers_37, show M_gain (nI p) (-1) a b = okI (kI (hM p none)) a b from gn, zcI_ok, nI_1, m_index (by omega) hu2 (by omega) hx1, zcI_ok, z1, cond_true, k1, T1, kI_add, sb.2]
  have neg : (nI i - 1 < 0) ↔ i = 0 := by
    constructor
    · intro z
      refine Classical.byContradiction fun c => ?_
      rw [show nI i - 1 = nI (i - 1) from pk_sub (b := 1) (by omega)] at z
      exact nI_pos (by omega) z
    · rintro rfl
      decide
  have hs : ∀ x w, D (k + 1) x → 0 ≤ w → w < P → M_layers_63 (nI p) (nI u) (nI i - 1) (kI (f (k + 1) x)) (nI w) a b = M_layers_63 (nI p) (nI u) (nI i - 1) (kI (f (k + 1) (cond (Nat.testBit u w) x ((gnO sc tg p l w).elim x (fun g => max x (g + opV sc tg bl P k (p + 1) (u ||| 2 ^ w) w)))))) (nI (w + 1)) a b ∧ D (k + 1) (cond (Nat.testBit u w) x ((gnO sc tg p l w).elim x (fun g => max x (g + opV sc tg bl P k (p + 1) (u ||| 2 ^ w) w)))) := by
    intro x w hx _ hw
    have nx : ∀ v, M_layers_148 (nI p) (nI u) (nI i - 1) v (nI w) a b = M_layers_63 (nI p) (nI u) (nI i - 1) v (nI (w + 1)) a b := fun v => by rw [q_M_layers_148, nI_1]
    have e63 : M_layers_63 (nI p) (nI u) (nI i - 1) (kI (f (k + 1) x)) (nI w) a b = cond (Nat.testBit u w) (M_layers_63 (nI p) (nI u) (nI i - 1) (kI (f (k + 1) x)) (nI (w + 1)) a b) (cond (gnO sc tg p l w).isSome (M_layers_113 (nI p) (nI u) (nI i - 1) (kI (f (k + 1) x)) (nI w) a b) (M_layers_63 (nI p) (nI u) (nI i - 1) (kI (f (k + 1) x)) (nI (w + 1)) a b)) := by
      have zp : zin (nI p) 10 = true := zin_nI (by omega) (by decide)
      rw [q_M_layers_63, hG.1.1, zcond_t (nI_lt hw (by omega)), zp, cond_true, show (nI p).toNatClampNeg = p from nI_clamp (by omega), m_has _ (by omega), zcI_ok, zc_b0, m_has _ (by omega), zcI_ok, zc_b0, tbB (by omega), nx]
      cases tb : Nat.testBit u w
      case true => cases hB (a 218 p) w <;> rfl
      have may := hG.2.1 p l w (by omega) hw hl2 (fun z => by
        rcases hlu with h | h
        · omega
        · rw [z, tb] at h; exact absurd h (by decide))
      rw [← may]
      rcases hl with ⟨h1, h2⟩ | ⟨h1, h2⟩
      · rw [zcond_t (neg.mpr h1), decide_eq_true h2, Bool.true_or, Bool.and_true]
        cases hB (a 218 p) w <;> rfl
      · have e1 : nI i - 1 = nI l := by rw [h2]; exact pk_sub (b := 1) h1
        rw [zcond_f (fun z => by have := neg.mp z; omega), e1, zin_nI (n := 10) (by omega) (by decide), cond_true, show (nI l).toNatClampNeg = l from nI_clamp (by omega), m_has _ (by omega), zcI_ok, zc_b0, show M_layers_148 (nI p) (nI u) (nI l) (kI (f (k + 1) x)) (nI w) a b = M_layers_63 (nI p) (nI u) (nI l) (kI (f (k + 1) x)) (nI (w + 1)) a b from by rw [q_M_layers_148, nI_1], decide_eq_false (show ¬ l = 10 by omega), Bool.false_or]
        cases hB (a 218 p) w <;> cases hB (a 219 l) w <;> rfl
    rw [e63]
    cases tb : Nat.testBit u w
    · rw [cond_false, cond_false]
      cases hg : gnO sc tg p l w with
      | none => exact ⟨rfl, hx⟩
      | some g =>
        have hu3 := or_lt hu hw
        have so := hS.2.2.1 k p w l g _ hp hw hg (hD k (p + 1) (u ||| 2 ^ w) w (by omega))
        have mx := simO_max hS hx so.1
        obtain ⟨gn2, _⟩ := hG.2.2 a (fun _ _ _ => rfl) p (some w) b (by omega) (.inr ⟨w, hw, rfl⟩)
        have T2 := hT (p + 1) (Nat.le_refl _) (by omega) (u ||| 2 ^ w) hu3 w (.inr ⟨hw, by rw [tb_or, decide_eq_true rfl, Bool.or_true]⟩)
        have ai : aiM w = w + 1 := if_neg (by omega)
        rw [hkq, ai] at T2
        have ilt := ixM_lt (p := p + 1) (u := u ||| 2 ^ w) (i := w + 1) (by omega) (by omega) (by omega)
        have b1 := hS.2.2.2.2 (k + 1) x hx
        have b2 := hS.2.2.2.2 (k + 1) _ so.1
        refine ⟨?_, mx.2⟩
        show M_layers_113 (nI p) (nI u) (nI i - 1) (kI (f (k + 1) x)) (nI w) a b = M_layers_63 _ _ _ (kI (f (k + 1) (max x (g + opV sc tg bl P k (p + 1) (u ||| 2 ^ w) w)))) (nI (w + 1)) a b
        rw [q_M_layers_113, show M_gain (nI p) (nI w) a b = okI (kI (hM p (some w))) a b from gn2, zcI_ok, nI_1, orB hu2 (by omega), m_index (i := w + 1) (by omega) (by omega) (by omega) (nI_1 w), zcI_ok, zin_nI (n := 123904) ilt (by decide), cond_true, show (nI (ixM (p + 1) (u ||| 2 ^ w) (w + 1))).toNatClampNeg = ixM (p + 1) (u ||| 2 ^ w) (w + 1) from nI_clamp (by omega), T2, kI_add, ← so.2, kI_max (by omega) (by omega) (by omega) (by omega), mx.1, nx]
    · exact ⟨rfl, hx⟩
  have ilt := ixM_lt (p := p) (u := u) (i := i) (by omega) hu2 (by omega)
  have he : ∀ x, D (k + 1) x → M_layers_63 (nI p) (nI u) (nI i - 1) (kI (f (k + 1) x)) (nI P) a b = M_layers_168 (nI p) (nI u) (nI i - 1) (zup a 217 (ixM p u i) (kI (f (k + 1) x))) b := by
    intro x _
    have hx : nI i - 1 + 1 = nI i := Int32.sub_add_cancel _ _
    rw [q_M_layers_63, hG.1.1, zcond_f (nI_nlt (Nat.le_refl _) (by omega)), m_index (by omega) hu2 (by omega) hx, zcI_ok, zin_nI (n := 123904) ilt (by decide), cond_true, show (nI (ixM p u i)).toNatClampNeg = ixM p u i from nI_clamp (by omega)]
  rw [e37]
  exact (lpI (F := fun x w => M_layers_63 (nI p) (nI u) (nI i - 1) (kI (f (k + 1) x)) (nI w) a b) (K := fun x => M_layers_168 (nI p) (nI u) (nI i - 1) (zup a 217 (ixM p u i) (kI (f (k + 1) x))) b) (st := fun w x => cond (Nat.testBit u w) x ((gnO sc tg p l w).elim x (fun g => max x (g + opV sc tg bl P k (p + 1) (u ||| 2 ^ w) w)))) (D (k + 1)) hs he P _ 0 sb.1 (Nat.le_refl _) (Nat.zero_add _)).1
/-- a layer -/
theorem m_layer {sc tg : Nat → Nat → Option Int} {bl : Nat → Int} {P Q k p : Nat} {hM wM : Nat → Option Nat → Int} {f : Nat → Int → Int} {D : Nat → Int → Prop} {a : zA} {b : zB} (hS : simO sc tg bl P Q hM f D) (hG : MGo sc tg P Q hM wM a) (hP : P ≤ 10) (hQ : Q ≤ 10) (hp : p + (k + 1) = Q) (hT : TOk sc tg bl P Q f (p + 1) a) : ∃ a', M_layers (nI p) a b = okV a' b ∧ (∀ q, q ≠ 217 → a' q = a q) ∧ TOk sc tg bl P Q f p a' := by
  have p2 : 2 ^ P ≤ 1024 := Nat.pow_le_pow_right (by decide) hP
  have tk : ∀ (A : zA), (∀ q, q ≠ 217 → A q = a q) → (∀ r, p + 1 ≤ r → ∀ u, u < 1024 → ∀ i, i ≤ 10 → A 217 (ixM r u i) = a 217 (ixM r u i)) → TOk sc tg bl P Q f (p + 1) A := fun A h1 h2 r g1 g2 u g3 l g4 => by
    have : aiM l ≤ 10 := by unfold aiM; split <;> omega
    rw [h2 r g1 u (by omega) _ this]
    exact hT r g1 g2 u g3 l g4
  -- the entries of one set
  have inner : ∀ u, u < 2 ^ P → ∀ (A : zA), (∀ q, q ≠ 217 → A q = a q) → (∀ r, p + 1 ≤ r → ∀ u, u < 1024 → ∀ i, i ≤ 10 → A 217 (ixM r u i) = a 217 (ixM r u i)) → ∃ A', M_layers_14 (nI p) (nI u) (-1) A b = M_layers_2 (nI p) (nI (u + 1)) A' b ∧ (∀ q, q ≠ 217 → A' q = a q) ∧ (∀ r, p + 1 ≤ r → ∀ u, u < 1024 → ∀ i, i ≤ 10 → A' 217 (ixM r u i) = a 217 (ixM r u i)) ∧ (∀ u', u' < u → ∀ i, i ≤ 10 → A' 217 (ixM p u' i) = A 217 (ixM p u' i)) ∧ ∀ l, (l = 10 ∨ (l < P ∧ Nat.testBit u l = true)) → A' 217 (ixM p u (aiM l)) = kI (f (k + 1) (opV sc tg bl P (k + 1) p u l)) := by
    intro u hu A hA1 hA2
    have loop : ∀ n i, i + n = P + 1 → ∀ (A : zA), (∀ q, q ≠ 217 → A q = a q) → (∀ r, p + 1 ≤ r → ∀ u, u < 1024 → ∀ i, i ≤ 10 → A 217 (ixM r u i) = a 217 (ixM r u i)) → ∃ A', M_layers_14 (nI p) (nI u) (nI i - 1) A b = M_layers_2 (nI p) (nI (u + 1)) A' b ∧ (∀ q, q ≠ 217 → A' q = a q) ∧ (∀ r, p + 1 ≤ r → ∀ u, u < 1024 → ∀ i, i ≤ 10 → A' 217 (ixM r u i) = a 217 (ixM r u i)) ∧ (∀ u', u' ≤ u → ∀ j, j ≤ 10 → (u' < u ∨ j < i) → A' 217 (ixM p u' j) = A 217 (ixM p u' j)) ∧ ∀ l, (l = 10 ∨ (l < P ∧ Nat.testBit u l = true)) → i ≤ aiM l → A' 217 (ixM p u (aiM l)) = kI (f (k + 1) (opV sc tg bl P (k + 1) p u l)) := by
      intro n
      induction n with
      | zero =>
        intro i hi A h1 h2
        have : i = P + 1 := by omega
        subst this
        refine ⟨A, ?_, h1, h2, fun _ _ _ _ _ => rfl, fun l hl hi => ?_⟩
        · rw [q_M_layers_14, h1 194 (by decide), hG.1.1, show nI (P + 1) - 1 = nI P from nI_pred P, zcond_f (nI_nlt (Nat.le_refl _) (by omega)), nI_1]
        · unfold aiM at hi
          split at hi <;> omega
      | succ n ih =>
        intro i hi A h1 h2
        have lt : nI i - 1 < nI P := by
          by_cases c : i = 0
          · subst c
            rw [Int32.lt_iff_toInt_lt, show (nI 0 - 1).toInt = -1 from by decide, nI_toInt (by omega)]
            omega
          · rw [show nI i - 1 = nI (i - 1) from pk_sub (b := 1) (by omega)]
            exact nI_lt (by omega) (by omega)
        have nx : ∀ B : zA, M_layers_168 (nI p) (nI u) (nI i - 1) B b = M_layers_14 (nI p) (nI u) (nI (i + 1) - 1) B b := fun B => by
          rw [q_M_layers_168, Int32.sub_add_cancel, nI_pred]
        have gA : MGo sc tg P Q hM wM A := MGo_f hG (fun q g1 _ => h1 q g1)
        -- written
        have wr : ∀ l, ((i = 0 ∧ l = 10) ∨ (1 ≤ i ∧ l = i - 1)) → (l = 10 ∨ Nat.testBit u l = true) → ∃ A', M_layers_37 (nI p) (nI u) (nI i - 1) A b = M_layers_2 (nI p) (nI (u + 1)) A' b ∧ (∀ q, q ≠ 217 → A' q = a q) ∧ (∀ r, p + 1 ≤ r → ∀ u, u < 1024 → ∀ i, i ≤ 10 → A' 217 (ixM r u i) = a 217 (ixM r u i)) ∧ (∀ u', u' ≤ u → ∀ j, j ≤ 10 → (u' < u ∨ j < i) → A' 217 (ixM p u' j) = A 217 (ixM p u' j)) ∧ ∀ l, (l = 10 ∨ (l < P ∧ Nat.testBit u l = true)) → i ≤ aiM l → A' 217 (ixM p u (aiM l)) = kI (f (k + 1) (opV sc tg bl P (k + 1) p u l)) := by
          intro l hl hlu
          obtain ⟨B, hB0⟩ : ∃ B, B = zup A 217 (ixM p u i) (kI (f (k + 1) (opV sc tg bl P (k + 1) p u l))) := ⟨_, rfl⟩
          obtain ⟨A', y1, y2, y3, y4, y5⟩ := ih (i + 1) (by omega) B (fun q hq => by rw [hB0, zup_row hq]; exact h1 q hq) (fun r g1 u' g2 i' g3 => by
            rw [hB0, zup_nj (by unfold ixM; omega)]
            exact h2 r g1 u' g2 i' g3)
          refine ⟨A', ?_, y2, y3, fun u' g1 j g2 g3 => ?_, fun l' g1 g2 => ?_⟩
          · rw [m_cell hS gA hP hQ hp hu (by omega) hl hlu (tk A h1 h2), ← hB0, nx]
            exact y1
          · rw [y4 u' g1 j g2 (by omega), hB0, zup_nj (by unfold ixM; omega)]
          · by_cases c : aiM l' = i
            · have e : l' = l := by
                unfold aiM at c
                split at c <;> omega
              have ib : aiM l' ≤ 10 := by omega
              rw [y4 u (Nat.le_refl _) (aiM l') ib (.inr (by omega)), hB0, c, zup_eq, e]
            · exact y5 l' g1 (by omega)
        rw [q_M_layers_14, h1 194 (by decide), hG.1.1, zcond_t lt]
        by_cases c : i = 0
        · subst c
          rw [zcond_t (show nI 0 - 1 < 0 by decide)]
          exact wr 10 (.inl ⟨rfl, rfl⟩) (.inl rfl)
        · have e1 : nI i - 1 = nI (i - 1) := pk_sub (b := 1) (by omega)
          have ep : ¬ (nI i - 1 < 0) := by rw [e1]; exact nI_pos (by omega)
          rw [zcond_f ep, show M_has (nI u) (nI i - 1) A b = okI (bI (Nat.testBit u (i - 1))) A b from by rw [e1, m_has _ (by omega), tbB (by omega)], zcI_ok, zc_b0]
          cases tb : Nat.testBit u (i - 1)
          · rw [cond_false, nx]
            obtain ⟨A', y1, y2, y3, y4, y5⟩ := ih (i + 1) (by omega) A h1 h2
            refine ⟨A', y1, y2, y3, fun u' g1 j g2 g3 => y4 u' g1 j g2 (by omega), fun l' g1 g2 => ?_⟩
            by_cases c2 : aiM l' = i
            · exfalso
              unfold aiM at c2
              split at c2
              · omega
              · rcases g1 with g1 | ⟨_, g1⟩
                · omega
                · rw [show i - 1 = l' by omega] at tb
                  exact absurd (tb.symm.trans g1) (by decide)
            · exact y5 l' g1 (by omega)
          · rw [cond_true]
            exact wr (i - 1) (.inr ⟨by omega, rfl⟩) (.inr tb)
    obtain ⟨A', y1, y2, y3, y4, y5⟩ := loop (P + 1) 0 (Nat.zero_add _) A hA1 hA2
    exact ⟨A', y1, y2, y3, fun u' g1 i g2 => y4 u' (by omega) i g2 (.inl g1), fun l hl => y5 l hl (Nat.zero_le _)⟩
  have outer : ∀ u, u ≤ 2 ^ P → ∃ A, M_layers_2 (nI p) 0 a b = M_layers_2 (nI p) (nI u) A b ∧ (∀ q, q ≠ 217 → A q = a q) ∧ (∀ r, p + 1 ≤ r → ∀ u, u < 1024 → ∀ i, i ≤ 10 → A 217 (ixM r u i) = a 217 (ixM r u i)) ∧ ∀ u', u' < u → ∀ l, (l = 10 ∨ (l < P ∧ Nat.testBit u' l = true)) → A 217 (ixM p u' (aiM l)) = kI (f (k + 1) (opV sc tg bl P (k + 1) p u' l)) := by
    intro u
    induction u with
    | zero => intro _; exact ⟨a, rfl, fun _ _ => rfl, fun _ _ _ _ _ _ => rfl, fun u' h => absurd h (by omega)⟩
    | succ u ih =>
      intro hu
      obtain ⟨A, e1, e2, e3, e4⟩ := ih (by omega)
      obtain ⟨A', f1, f2, f3, f4, f5⟩ := inner u (by omega) A e2 e3
      refine ⟨A', ?_, f2, f3, fun u' g1 l g2 => ?_⟩
      · rw [e1, q_M_layers_2, e2 194 (by decide), hG.1.1, shl_n hP, zcond_t (nI_lt (by omega) (by omega))]
        exact f1
      · by_cases c : u' = u
        · subst c; exact f5 l g2
        · have : aiM l ≤ 10 := by unfold aiM; split <;> omega
          rw [f4 u' (by omega) _ this]
          exact e4 u' (by omega) l g2
  obtain ⟨A, e1, e2, e3, e4⟩ := outer (2 ^ P) (Nat.le_refl _)
  refine ⟨A, ?_, e2, fun r g1 g2 u g3 l g4 => ?_⟩
  · rw [q_M_layers, e1, q_M_layers_2, e2 194 (by decide), hG.1.1, shl_n hP, zcond_f (nI_nlt (Nat.le_refl _) (by omega))]
    exact okV_ret _ _
  · by_cases c : r = p
    · subst c
      rw [show Q - r = k + 1 by omega]
      exact e4 u g3 l g4
    · exact tk A e2 e3 r (by omega) g2 u g3 l g4
