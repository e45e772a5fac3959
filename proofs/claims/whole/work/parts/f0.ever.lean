/-! The reference: goesForEver; the call ever. -/
def MG (L : Nat) (G : Nat → Bool) (C : zA) : Prop := ∀ a, a < L → C 223 a = bI (G a)
def FE (C C0 : zA) : Prop := ∀ q, q ≠ 223 → C q = C0 q
theorem m_pass {L : Nat} {R : Nat → Nat → Bool} {C0 : zA} (b : zB) (hL : L ≤ 120) (h47 : C0 194 47 = nI L) (hR : LD L R C0) : ∀ k i s C, i + k = L → FE C C0 → MG L s.1 C → ∃ C', M_goesForEver_42 (nI (cnt s.1 L)) (bI s.2) (nI i) C b = M_goesForEver_34 (nI (cnt (fF (psN L R) i k s).1 L)) (bI (fF (psN L R) i k s).2) C' b ∧ FE C' C0 ∧ MG L (fF (psN L R) i k s).1 C' := by
  intro k
  induction k with
  | zero =>
    intro i s C e hF hG
    have : i = L := by omega
    subst this
    refine ⟨C, ?_, hF, hG⟩
    rw [q_M_goesForEver_42, hF 194 (by decide), h47, zcond_f (nI_nlt (Nat.le_refl _) (by omega))]
    rfl
  | succ k ih =>
    intro i s C e hF hG
    have hi : i < L := by omega
    have e47 : C 194 47 = nI L := by rw [hF 194 (by decide)]; exact h47
    have k100 : ∀ (v : Bool) j, M_goesForEver_100 (nI (cnt s.1 L)) (bI s.2) (nI i) (nI j) (bI v) C b = M_goesForEver_56 (nI (cnt s.1 L)) (bI s.2) (nI i) (bI v) (nI (j + 1)) C b := fun v j => by rw [q_M_goesForEver_100, nI_1]
    have k95 : ∀ j, M_goesForEver_95 (nI (cnt s.1 L)) (bI s.2) (nI i) (nI j) C b = M_goesForEver_56 (nI (cnt s.1 L)) (bI s.2) (nI i) (bI true) (nI (j + 1)) C b := fun j => by rw [q_M_goesForEver_95]; exact k100 true j
    have k99 : ∀ j, M_goesForEver_99 (nI (cnt s.1 L)) (bI s.2) (nI i) (nI j) C b = M_goesForEver_56 (nI (cnt s.1 L)) (bI s.2) (nI i) (bI false) (nI (j + 1)) C b := fun j => by rw [q_M_goesForEver_99]; exact k100 false j
    have step : ∀ (v : Bool) j, 0 ≤ j → j < L → M_goesForEver_56 (nI (cnt s.1 L)) (bI s.2) (nI i) (bI v) (nI j) C b = M_goesForEver_56 (nI (cnt s.1 L)) (bI s.2) (nI i) (bI (v || (R i j && s.1 j))) (nI (j + 1)) C b := fun v j _ hj => by
      rw [q_M_goesForEver_56, e47, zcond_t (nI_lt hj (by omega)), show (120 : Int32) * nI i + nI j = nI (120 * i + j) from s_mul 120 i j, zin_nI (n := 14400) (by omega) (by decide), cond_true, show (nI (120 * i + j)).toNatClampNeg = 120 * i + j from nI_clamp (by omega), congrFun (hF 222 (by decide)) (120 * i + j), hR i hi j hj, zin_nI (n := 120) (by omega) (by decide), cond_true, show (nI j).toNatClampNeg = j from nI_clamp (by omega), hG j hj, zc_b0, zc_b0, zc_b0, k95, k99]
      cases v <;> cases R i j <;> cases s.1 j <;> rfl
    have nx : ∀ v w C, M_goesForEver_134 v w (nI i) C b = M_goesForEver_42 v w (nI (i + 1)) C b := fun v w C => by rw [q_M_goesForEver_134, nI_1]
    have lp := lpB (F := fun v j => M_goesForEver_56 (nI (cnt s.1 L)) (bI s.2) (nI i) (bI v) (nI j) C b) (K := fun v => M_goesForEver_56 (nI (cnt s.1 L)) (bI s.2) (nI i) (bI v) (nI L) C b) (lo := 0) (n := L) step (fun _ => rfl) L false 0 (Nat.le_refl _) (Nat.zero_add _)
    rw [Bool.false_or] at lp
    have e1 : M_goesForEver_42 (nI (cnt s.1 L)) (bI s.2) (nI i) C b = cond (s.1 i && !aF (fun j => R i j && s.1 j) 0 L) (M_goesForEver_42 (nI (cnt s.1 L) + (-1)) 1 (nI (i + 1)) (zup C 223 i 0) b) (M_goesForEver_42 (nI (cnt s.1 L)) (bI s.2) (nI (i + 1)) C b) := by
      rw [q_M_goesForEver_42, e47, zcond_t (nI_lt hi (by omega)), show M_goesForEver_56 (nI (cnt s.1 L)) (bI s.2) (nI i) 0 0 C b = _ from lp, q_M_goesForEver_56, e47, zcond_f (nI_nlt (Nat.le_refl _) (by omega)), zin_nI (n := 120) (by omega) (by decide), cond_true, show (nI i).toNatClampNeg = i from nI_clamp (by omega), hG i hi, zc_b0, zc_b0, show zisB 0 = true from rfl, nx, nx]
      cases s.1 i <;> cases aF (fun j => R i j && s.1 j) 0 L <;> simp only [cond_true, cond_false, Bool.not_true, Bool.not_false, Bool.and_true, Bool.and_false, Bool.true_and, Bool.false_and]
    rw [e1]
    show ∃ C', _ = M_goesForEver_34 (nI (cnt (fF (psN L R) (i + 1) k (psN L R i s)).1 L)) (bI (fF (psN L R) (i + 1) k (psN L R i s)).2) C' b ∧ _ ∧ MG L (fF (psN L R) (i + 1) k (psN L R i s)).1 C'
    unfold psN
    cases c : s.1 i && !aF (fun j => R i j && s.1 j) 0 L
    · exact ih (i + 1) s C (by omega) hF hG
    · rw [Bool.and_eq_true] at c
      have dl := cnt_del (U := s.1) L hi c.1
      obtain ⟨C', y1, y2, y3⟩ := ih (i + 1) (fun x => s.1 x && !decide (x = i), true) (zup C 223 i 0) (by omega) (fun q hq => by rw [zup_row hq]; exact hF q hq) (fun a ha => by
        show zup C 223 i 0 223 a = bI (s.1 a && !decide (a = i))
        by_cases d : a = i
        · rw [d, zup_eq, decide_eq_true rfl, Bool.not_true, Bool.and_false]; rfl
        · rw [zup_nj d, decide_eq_false d, Bool.not_false, Bool.and_true]; exact hG a ha)
      refine ⟨C', ?_, y2, y3⟩
      have en : nI (cnt s.1 L) + (-1) = nI (cnt (fun x => s.1 x && !decide (x = i)) L) := by
        rw [← dl]
        rw [← Int32.sub_eq_add_neg]
        exact (pk_sub (b := 1) (by omega)).trans (by rw [Nat.add_sub_cancel])
      rw [cond_true, en]
      exact y1
theorem m_lastG {L : Nat} {R : Nat → Nat → Bool} {C0 : zA} (b : zB) (hL : L ≤ 120) (h47 : C0 194 47 = nI L) (hR : LD L R C0) : ∀ m U C, cnt U L ≤ m → FE C C0 → MG L U C → ∃ C' U', M_goesForEver_34 (nI (cnt U L)) 1 C b = okI (nI (cnt U' L)) C' b ∧ GF L R U U' ∧ FE C' C0 := by
  intro m
  induction m with
  | zero =>
    intro U C hm hF hG
    obtain ⟨C', y1, y2, y3⟩ := m_pass b hL h47 hR L 0 (U, false) C (Nat.zero_add _) hF hG
    have l := (ps_less (n := L) (R := R) (U := U)).2
    have nc : (psA L R U).2 = false := by
      cases c : (psA L R U).2
      · rfl
      · have := l c
        omega
    refine ⟨C', (psA L R U).1, ?_, gf_end nc, y2⟩
    rw [q_M_goesForEver_34, zcond_f (show ¬ (1 : Int32) = 0 by decide), show M_goesForEver_42 (nI (cnt U L)) 0 0 C b = M_goesForEver_34 (nI (cnt (psA L R U).1 L)) (bI (psA L R U).2) C' b from y1, nc, q_M_goesForEver_34, zcond_t (show bI false = 0 from rfl)]
    exact okI_ret _ _ _
  | succ m ih =>
    intro U C hm hF hG
    obtain ⟨C', y1, y2, y3⟩ := m_pass b hL h47 hR L 0 (U, false) C (Nat.zero_add _) hF hG
    have l := (ps_less (n := L) (R := R) (U := U)).2
    have e0 : M_goesForEver_34 (nI (cnt U L)) 1 C b = M_goesForEver_34 (nI (cnt (psA L R U).1 L)) (bI (psA L R U).2) C' b := by
      rw [q_M_goesForEver_34, zcond_f (show ¬ (1 : Int32) = 0 by decide)]
      exact y1
    cases nc : (psA L R U).2
    · refine ⟨C', (psA L R U).1, ?_, gf_end nc, y2⟩
      rw [e0, nc, q_M_goesForEver_34, zcond_t (show bI false = 0 from rfl)]
      exact okI_ret _ _ _
    · have := l nc
      obtain ⟨C2, U2, z1, z2, z3⟩ := ih (psA L R U).1 C' (by omega) y2 y3
      refine ⟨C2, U2, ?_, gf_step z2, z3⟩
      rw [e0, nc]
      exact z1
theorem cnt_all : ∀ L, cnt (fun _ => true) L = L
  | 0 => rfl
  | L + 1 => by
    show cnt (fun _ => true) L + 1 = L + 1
    rw [cnt_all L]
/-- what the reference writes there -/
def FV (C C0 : zA) : Prop := (∀ q, q ≠ 194 → ¬ (221 ≤ q ∧ q ≤ 228) → C q = C0 q) ∧ ∀ j, j ≠ 47 → C 194 j = C0 194 j
theorem FV_D {C C0 : zA} (h : FD C C0) : FV C C0 := ⟨fun q h1 h2 => h.1 q h1 (by omega) (by omega) (by omega), h.2⟩
theorem FV_t {C C1 C0 : zA} (h : FV C C1) (g : FV C1 C0) : FV C C0 := ⟨fun q h1 h2 => (h.1 q h1 h2).trans (g.1 q h1 h2), fun j hj => (h.2 j hj).trans (g.2 j hj)⟩
/-- how the reference begins -/
def mHas (P Q W S : Nat) (F : Int32) (N : Nat → Int32) (f : Nat → Nat → Bool) (C0 : zA) (b : zB) : Prop := C0 194 3 = nI P ∧ C0 194 7 = nI Q ∧ C0 194 17 = nI W ∧ C0 194 18 = nI S ∧ C0 194 19 = F ∧ (∀ p, p < 10 → C0 207 p = N p) ∧ ∀ C, FL C C0 → ∀ w p, w < P → p < Q → M_canDo (nI w) (nI p) C b = okI (bI (f w p)) C b
def fR (W S : Nat) (F : Int32) (N : Nat → Int32) (Q : Nat) (l : List (Nat → Nat)) (i j : Nat) : Bool := folB W S F N Q (VL l i) (VL l j)
theorem m_lead {P Q W S : Nat} {F : Int32} {N : Nat → Int32} {f : Nat → Nat → Bool} {C0 : zA} {b : zB} (hP : P ≤ 5) (hQ : Q ≤ 5) (hW : W ≤ 9) (hS : S ≤ 9) (h : mHas P Q W S F N f C0 b) : ∃ C', M_leadsAll C0 b = okV C' b ∧ FD C' C0 ∧ ML Q (LST f P Q) C' ∧ LD (LST f P Q).length (fR W S F N Q (LST f P Q)) C' := by
  obtain ⟨h1, h2, h3, h4, h5, h6, h7⟩ := h
  obtain ⟨C', y1, y2, y3, y4⟩ := m_leads b hP hQ h1 h2 h3 hW h4 hS h6 h7
  rw [h5] at y4
  exact ⟨C', y1, y2, y3, y4⟩
theorem m_everG {P Q W S : Nat} {F : Int32} {N : Nat → Int32} {f : Nat → Nat → Bool} {C0 : zA} {b : zB} (hP : P ≤ 5) (hQ : Q ≤ 5) (hW : W ≤ 9) (hS : S ≤ 9) (h : mHas P Q W S F N f C0 b) : ∃ C' G, M_goesForEver C0 b = okI (nI (cnt G (LST f P Q).length)) C' b ∧ FV C' C0 ∧ C' 194 47 = nI (LST f P Q).length ∧ GF (LST f P Q).length (fR W S F N Q (LST f P Q)) (fun _ => true) G := by
  obtain ⟨C1, y1, y2, y3, y4⟩ := m_lead hP hQ hW hS h
  have hl := lst_120 f hP hQ
  obtain ⟨l, el⟩ : ∃ l, l = LST f P Q := ⟨_, rfl⟩
  rw [← el] at y3 y4 hl ⊢
  have st : ∀ i, i < l.length → M_goesForEver_11 (nI l.length) (nI i) (zfn C1 223 i (fun _ => 1)) b = M_goesForEver_11 (nI l.length) (nI (i + 1)) (zfn C1 223 (i + 1) (fun _ => 1)) b := fun i hi => by
    rw [q_M_goesForEver_11, congrFun (zfn_q (by decide)) 47, y3.1, zcond_t (nI_lt hi (by omega)), zin_nI (n := 120) (by omega) (by decide), show zisB 1 = true from rfl, show (nI i).toNatClampNeg = i from nI_clamp (by omega), nI_1, zfn_s (g := fun _ => (1 : Int32))]
    rfl
  have lp := lpC (F := fun i => M_goesForEver_11 (nI l.length) (nI i) (zfn C1 223 i (fun _ => 1)) b) st l.length 0 (Nat.zero_add _)
  rw [show zfn C1 223 0 (fun _ => 1) = C1 from zfn_0 _ _ _] at lp
  obtain ⟨D, hD⟩ : ∃ D, D = zfn C1 223 l.length (fun _ => 1) := ⟨_, rfl⟩
  have d1 : ∀ q, q ≠ 223 → D q = C1 q := fun q hq => by rw [hD]; exact zfn_q hq
  have d47 : D 194 47 = nI l.length := by rw [d1 194 (by decide)]; exact y3.1
  obtain ⟨C', U', z1, z2, z3⟩ := m_lastG (C0 := D) b hl d47 (fun a ha j hj => by rw [d1 222 (by decide)]; exact y4 a ha j hj) l.length (fun _ => true) D (by rw [cnt_all]; exact Nat.le_refl _) (fun _ _ => rfl) (fun a ha => by rw [hD]; exact zfn_j ha)
  refine ⟨C', U', ?_, FV_t ⟨fun q h1 h2 => (z3 q (by omega)).trans (d1 q (by omega)), fun j _ => by rw [z3 194 (by decide), d1 194 (by decide)]⟩ (FV_D y2), by rw [z3 194 (by decide)]; exact d47, z2⟩
  rw [q_M_goesForEver, y1, zcV_ok, y3.1, show (0 : Int32) = nI 0 from rfl, lp, ← hD, q_M_goesForEver_11, d47, zcond_f (nI_nlt (Nat.le_refl _) (by omega))]
  rw [cnt_all] at z1
  exact z1
