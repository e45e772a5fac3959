/-! The reference lists the fillings by those who can. -/
def FL (C C0 : zA) : Prop := (∀ q, q ≠ 194 → q ≠ 221 → q ≠ 224 → C q = C0 q) ∧ ∀ j, j ≠ 47 → C 194 j = C0 194 j
def ML (Q : Nat) (l : List (Nat → Nat)) (C : zA) : Prop := C 194 47 = nI l.length ∧ ∀ i, i < l.length → ∀ q, q < Q → C 221 (5 * i + q) = nI (nd l i q)
theorem FL_r (C : zA) : FL C C := ⟨fun _ _ _ _ => rfl, fun _ _ => rfl⟩
theorem m_lleaf {Q d : Nat} {l : List (Nat → Nat)} {t : Nat → Nat} {C C0 : zA} (b : zB) (hQ : Q ≤ 5) (h7 : C0 194 7 = nI Q) (hF : FL C C0) (hR : ML Q l C) (ht : ∀ q, q < Q → C 224 q = nI (t q)) (hl : l.length < 120) : ∃ C', M_lists_10 d 0 C b = okV C' b ∧ FL C' C0 ∧ ML Q (l ++ [t]) C' ∧ ∀ q, C' 224 q = C 224 q := by
  have st : ∀ i, i < Q → M_lists_10 d (nI i) (zfo C 221 (5 * l.length) i (fun q => nI (t q))) b = M_lists_10 d (nI (i + 1)) (zfo C 221 (5 * l.length) (i + 1) (fun q => nI (t q))) b := fun i hi => by
    have e1 : ∀ j, zfo C 221 (5 * l.length) i (fun q => nI (t q)) 194 j = C 194 j := fun j => congrFun (zfo_q (by decide)) j
    have e2 : zfo C 221 (5 * l.length) i (fun q => nI (t q)) 224 i = nI (t i) := (congrFun (zfo_q (by decide)) i).trans (ht i hi)
    have ei : 5 * nI l.length + nI i = nI (5 * l.length + i) := s_mul 5 l.length i
    rw [q_M_lists_10, e1, e1, hF.2 7 (by decide), h7, zcond_t (nI_lt hi (by omega)), show zin (nI i) 10 = true from zin_nI (by omega) (by decide), cond_true, hR.1, ei, show zin (nI (5 * l.length + i)) 600 = true from zin_nI (by omega) (by decide), cond_true, show (nI (5 * l.length + i)).toNatClampNeg = 5 * l.length + i from nI_clamp (by omega), show (nI i).toNatClampNeg = i from nI_clamp (by omega), e2, nI_1, zfo_s (g := fun q => nI (t q))]
  have lp := lpC (F := fun i => M_lists_10 d (nI i) (zfo C 221 (5 * l.length) i (fun q => nI (t q))) b) st Q 0 (Nat.zero_add _)
  rw [show zfo C 221 (5 * l.length) 0 (fun q => nI (t q)) = C from zfo_0 _ _ _ _] at lp
  obtain ⟨D, hD⟩ : ∃ D, D = zfo C 221 (5 * l.length) Q (fun q => nI (t q)) := ⟨_, rfl⟩
  have d1 : ∀ q, q ≠ 221 → D q = C q := fun q h => by rw [hD]; exact zfo_q h
  have lp2 : M_lists_10 d 0 C b = M_lists_10 d (nI Q) D b := by rw [hD]; exact lp
  refine ⟨zup D 194 47 (nI (l.length + 1)), ?_, ⟨fun q e1 e2 e3 => ?_, fun j hj => ?_⟩, ⟨?_, fun i hi q hq => ?_⟩, fun q => ?_⟩
  · rw [lp2, q_M_lists_10, d1 194 (by decide), hF.2 7 (by decide), h7, zcond_f (nI_nlt (Nat.le_refl _) (by omega)), hR.1, nI_1]
    exact okV_ret _ _
  · rw [zup_row e1, d1 q e2]; exact hF.1 q e1 e2 e3
  · rw [zup_nj hj, d1 194 (by decide)]; exact hF.2 j hj
  · rw [zup_eq, List.length_append]; rfl
  · rw [List.length_append, List.length_cons, List.length_nil] at hi
    rw [zup_ne (by decide), hD]
    by_cases e : i = l.length
    · rw [e, nd_e, zfo_j hq]
    · rw [nd_l (by omega), zfo_o (by omega)]; exact hR.2 i (by omega) q hq
  · rw [zup_ne (by decide), d1 224 (by decide)]
theorem m_listF {P Q : Nat} {f : Nat → Nat → Bool} {C0 : zA} (b : zB) (hP : P ≤ 5) (hQ : Q ≤ 5) (h3 : C0 194 3 = nI P) (h7 : C0 194 7 = nI Q) (hcan : ∀ C, FL C C0 → ∀ w p, w < P → p < Q → M_canDo (nI w) (nI p) C b = okI (bI (f w p)) C b) : ∀ (k d p u : Nat) (t : Nat → Nat) (l : List (Nat → Nat)) (C : zA), p + k = Q → k < d → u < 2 ^ P → FL C C0 → ML Q l C → (∀ q, q < p → C 224 q = nI (t q)) → l.length + (enN f P k p u t).length ≤ 120 → ∃ C', M_lists d (nI p) (nI u) C b = okV C' b ∧ FL C' C0 ∧ ML Q (l ++ enN f P k p u t) C' ∧ ∀ q, q < p → C' 224 q = nI (t q) := by
  intro k
  have p2 : 2 ^ P ≤ 32 := Nat.pow_le_pow_right (by decide) hP
  induction k with
  | zero =>
    intro d p u t l C hp hd hu hF hR ht hl
    obtain ⟨d, rfl⟩ : ∃ d', d = d' + 1 := ⟨d - 1, by omega⟩
    have : p = Q := by omega
    subst this
    have hl2 : l.length + 1 ≤ 120 := hl
    obtain ⟨C', y1, y2, y3, y4⟩ := m_lleaf (d := d) b hQ h7 hF hR ht (by omega)
    refine ⟨C', ?_, y2, y3, fun q hq => (y4 q).trans (ht q hq)⟩
    rw [q_M_lists, hF.2 7 (by decide), h7, zcond_t rfl, y1]
  | succ k ih =>
    intro d p u t l C hp hd hu hF hR ht hl
    obtain ⟨d, rfl⟩ : ∃ d', d = d' + 1 := ⟨d - 1, by omega⟩
    have loop : ∀ n w, w + n = P → ∀ l C, FL C C0 → ML Q l C → (∀ q, q < p → C 224 q = nI (t q)) → l.length + (enL (fun w => cond (Nat.testBit u w || !f w p) [] (enN f P k (p + 1) (u ||| 2 ^ w) (updN t p w))) w n).length ≤ 120 → ∃ C', M_lists_56 d (nI p) (nI u) (nI w) C b = okV C' b ∧ FL C' C0 ∧ ML Q (l ++ enL (fun w => cond (Nat.testBit u w || !f w p) [] (enN f P k (p + 1) (u ||| 2 ^ w) (updN t p w))) w n) C' ∧ ∀ q, q < p → C' 224 q = nI (t q) := by
      intro n
      induction n with
      | zero =>
        intro w hw l C hF hR ht hl
        have : w = P := by omega
        subst this
        refine ⟨C, ?_, hF, ?_, ht⟩
        · rw [q_M_lists_56, hF.2 3 (by decide), h3, zcond_f (nI_nlt (Nat.le_refl _) (by omega))]
          exact okV_ret _ _
        · unfold enL; rw [List.append_nil]; exact hR
      | succ n ihn =>
        intro w hw l C hF hR ht hl
        have hwP : w < P := by omega
        have ee : enL (fun w => cond (Nat.testBit u w || !f w p) [] (enN f P k (p + 1) (u ||| 2 ^ w) (updN t p w))) w (n + 1) = cond (Nat.testBit u w || !f w p) [] (enN f P k (p + 1) (u ||| 2 ^ w) (updN t p w)) ++ enL (fun w => cond (Nat.testBit u w || !f w p) [] (enN f P k (p + 1) (u ||| 2 ^ w) (updN t p w))) (w + 1) n := rfl
        have nx : ∀ C, M_lists_100 d (nI p) (nI u) (nI w) C b = M_lists_56 d (nI p) (nI u) (nI (w + 1)) C b := fun C => by rw [q_M_lists_100, nI_1]
        rw [ee] at hl ⊢
        rw [List.length_append] at hl
        rw [q_M_lists_56, hF.2 3 (by decide), h3, zcond_t (nI_lt hwP (by omega)), m_has _ (by omega), zcI_ok, zc_b0, tbB (by omega), nx]
        cases tb : Nat.testBit u w
        · rw [cond_false, hcan C hF w p hwP (by omega), zcI_ok, zc_b0, nx]
          rw [tb] at hl
          cases cf : f w p
          · rw [cf] at hl
            rw [cond_false]
            have := ihn (w + 1) (by omega) l C hF hR ht (by simp only [Bool.not_false, Bool.or_true, cond_true, List.length_nil] at hl; omega)
            exact this
          · rw [cf] at hl
            rw [cond_true, show zin (nI p) 10 = true from zin_nI (by omega) (by decide), cond_true, show (nI p).toNatClampNeg = p from nI_clamp (by omega), nI_1, orB (by omega) (by omega)]
            simp only [Bool.not_true, Bool.or_false, cond_false] at hl ⊢
            obtain ⟨B, hB⟩ : ∃ B, B = zup C 224 p (nI w) := ⟨_, rfl⟩
            rw [← hB]
            obtain ⟨C1, y1, y2, y3, y4⟩ := ih d (p + 1) (u ||| 2 ^ w) (updN t p w) l B (by omega) (by omega) (or_lt hu hwP) ⟨fun q e1 e2 e3 => by rw [hB, zup_row e3]; exact hF.1 q e1 e2 e3, fun j hj => by rw [hB, zup_ne (by decide)]; exact hF.2 j hj⟩ ⟨by rw [hB, zup_ne (by decide)]; exact hR.1, fun i hi q hq => by rw [hB, zup_ne (by decide)]; exact hR.2 i hi q hq⟩ (fun q hq => by
              unfold updN
              by_cases e : q = p
              · rw [hB, e, zup_eq, if_pos rfl]
              · rw [hB, zup_nj e, if_neg e]; exact ht q (by omega)) (by omega)
            rw [y1, zcV_ok, nx]
            obtain ⟨C2, z1, z2, z3, z4⟩ := ihn (w + 1) (by omega) (l ++ enN f P k (p + 1) (u ||| 2 ^ w) (updN t p w)) C1 y2 y3 (fun q hq => by
              rw [y4 q (by omega)]
              unfold updN
              rw [if_neg (by omega)]) (by rw [List.length_append]; omega)
            rw [List.append_assoc] at z3
            exact ⟨C2, z1, z2, z3, z4⟩
        · rw [tb] at hl
          rw [cond_true]
          have := ihn (w + 1) (by omega) l C hF hR ht (by simp only [Bool.true_or, cond_true, List.length_nil] at hl; omega)
          exact this
    rw [q_M_lists, hF.2 7 (by decide), h7, zcond_f (show ¬ nI p = nI Q from fun z => by have := (nI_eq (by omega) (by omega)).mp z; omega)]
    exact loop P 0 (Nat.zero_add _) l C hF hR ht hl
def LST (f : Nat → Nat → Bool) (P Q : Nat) : List (Nat → Nat) := enN f P Q 0 0 (fun _ => 0)
theorem lst_all (f : Nat → Nat → Bool) (P Q : Nat) : LST f P Q = (ALL P Q).filter (okN f 0 Q) := enN_filter f P Q 0 0 _
theorem lst_120 {P Q : Nat} (f : Nat → Nat → Bool) (hP : P ≤ 5) (hQ : Q ≤ 5) : (LST f P Q).length ≤ 120 := en_f120 f hP hQ _
theorem m_listsAll {P Q : Nat} {f : Nat → Nat → Bool} {C0 : zA} (b : zB) (hP : P ≤ 5) (hQ : Q ≤ 5) (h3 : C0 194 3 = nI P) (h7 : C0 194 7 = nI Q) (hcan : ∀ C, FL C C0 → ∀ w p, w < P → p < Q → M_canDo (nI w) (nI p) C b = okI (bI (f w p)) C b) : ∃ C', M_listsAll C0 b = okV C' b ∧ FL C' C0 ∧ ML Q (LST f P Q) C' := by
  obtain ⟨C', y1, y2, y3, -⟩ := m_listF b hP hQ h3 h7 hcan Q 31 0 0 (fun _ => 0) [] (zup C0 194 47 0) (Nat.zero_add _) (by omega) (Nat.two_pow_pos P) ⟨fun q e1 _ _ => zup_row e1, fun j hj => zup_nj hj⟩ ⟨zup_eq _ _ _ _, fun i hi => absurd hi (Nat.not_lt_zero i)⟩ (fun q hq => absurd hq (Nat.not_lt_zero q)) (by rw [List.length_nil, Nat.zero_add]; exact en_f120 f hP hQ _)
  rw [List.nil_append] at y3
  refine ⟨C', ?_, y2, y3⟩
  rw [q_M_listsAll, show M_lists 31 0 0 (zup C0 194 47 0) b = okV C' b from y1, zcV_ok]
  exact okV_ret _ _
