/-! A line of the rule, by both readers. -/
def awP (E : Nat) (tp : Nat → Int32) (n : Nat) : Nat × Option (Nat × Nat × Nat × Nat) := (dgP E tp n).elim (n, none) (fun w => cond (tkP E tp 44 (n + 1)) ((d2P E tp (n + 2)).elim (n + 2, none) (fun r => cond (tkP E tp 45 r.2) ((d2P E tp (r.2 + 1)).elim (r.2 + 1, none) (fun q => cond (decide (q.1 < r.1)) (q.2 - 1, none) (q.2, some (4, w, r.1, q.1)))) (r.2, none))) (n + 1, none))
def sendX (p f t : Nat) (A : zA) : zA := fun q j => if q = 25 ∧ 100 * p + f ≤ j ∧ j ≤ 100 * p + t then 1 else A q j
def actX (r : Nat × Nat × Nat × Nat) (A : zA) : zA := if r.1 ≤ 1 then zup A 23 r.1 (nI r.2.1) else if r.1 = 2 then zup A 22 3 (A 22 3 ||| (1 <<< (nI r.2.1 &&& 31))) else if r.1 = 3 then zup A 24 r.2.1 (A 24 r.2.1 ||| (1 <<< (nI r.2.2.1 &&& 31))) else sendX r.2.1 r.2.2.1 r.2.2.2 A
def actM (K : Nat) (r : Nat × Nat × Nat × Nat) (A : zA) : zA := if r.1 ≤ 1 then zup A 194 (25 + r.1) (nI r.2.1) else if r.1 = 2 then zup A 194 27 (A 194 27 ||| (1 <<< (nI r.2.1 &&& 31))) else if r.1 = 3 then zup A 211 r.2.1 (A 211 r.2.1 ||| (1 <<< (nI r.2.2.1 &&& 31))) else zup (zup (zup (zup A 212 K (nI r.2.1)) 213 K (nI r.2.2.1)) 214 K (nI r.2.2.2)) 194 29 (nI (K + 1))
def resX (r : Nat × Option (Nat × Nat × Nat × Nat)) (A : zA) (b : zB) : zR := r.2.elim (okI 0 (zup A 21 3 (nI r.1)) b) (fun s => okI 1 (actX s (zup A 21 3 (nI r.1))) b)
def resM (K : Nat) (r : Nat × Option (Nat × Nat × Nat × Nat)) (A : zA) (b : zB) : zR := r.2.elim (okI 0 (zup A 194 35 (nI r.1)) b) (fun s => okI 1 (actM K s (zup A 194 35 (nI r.1))) b)
theorem x_send {p f t : Nat} {A : zA} {b : zB} (hp : p < 10) (hf : f ≤ t) (ht : t ≤ 99) : L_sendAway (nI p) (nI f) (nI t) A b = okV (sendX p f t A) b := by
  have hs : ∀ i, f ≤ i → i ≤ t → L_sendAway_3 (nI p) (nI t) (nI i) (fun q j => if q = 25 ∧ 100 * p + f ≤ j ∧ j < 100 * p + i then 1 else A q j) b = L_sendAway_3 (nI p) (nI t) (nI (i + 1)) (fun q j => if q = 25 ∧ 100 * p + f ≤ j ∧ j < 100 * p + (i + 1) then 1 else A q j) b := by
    intro i h1 h2
    have i1 : nI p * 100 + nI i = nI (100 * p + i) := (s_mul p 100 i).trans (by rw [Nat.mul_comm])
    rw [q_L_sendAway_3, zcond_f (nI_nlt h2 (by omega)), zcond_t (show nI i < 100 from nI_lt (b := 100) (by omega) (by decide)), zcond_f (nI_pos (by omega)), zcond_f (nI_pos (by omega)), zcond_t (show nI p < 10 from nI_lt (b := 10) hp (by decide)), i1, zin_nI (n := 1000) (by omega) (by decide), cond_true, show (nI (100 * p + i)).toNatClampNeg = 100 * p + i from nI_clamp (by omega), q_L_sendAway_44, nI_1]
    refine congrArg (fun m => L_sendAway_3 (nI p) (nI t) (nI (i + 1)) m b) ?_
    funext q j
    unfold zup
    by_cases c : q = 25 ∧ j = 100 * p + i
    · rw [if_pos c, if_pos ⟨c.1, by omega, by omega⟩]
    · rw [if_neg c]
      show (if q = 25 ∧ 100 * p + f ≤ j ∧ j < 100 * p + i then 1 else A q j) = (if q = 25 ∧ 100 * p + f ≤ j ∧ j < 100 * p + (i + 1) then 1 else A q j)
      by_cases c2 : q = 25 ∧ 100 * p + f ≤ j ∧ j < 100 * p + i
      · rw [if_pos c2, if_pos ⟨c2.1, c2.2.1, by omega⟩]
      · rw [if_neg c2, if_neg (fun z => by omega)]
  have run : ∀ k i, f ≤ i → i + k = t + 1 → L_sendAway_3 (nI p) (nI t) (nI i) (fun q j => if q = 25 ∧ 100 * p + f ≤ j ∧ j < 100 * p + i then 1 else A q j) b = L_sendAway_3 (nI p) (nI t) (nI (t + 1)) (fun q j => if q = 25 ∧ 100 * p + f ≤ j ∧ j < 100 * p + (t + 1) then 1 else A q j) b := by
    intro k
    induction k with
    | zero => intro i _ h; rw [show i = t + 1 by omega]
    | succ k ih => intro i h1 h; exact (hs i h1 (by omega)).trans (ih (i + 1) (by omega) (by omega))
  have e0 : (fun q j => if q = 25 ∧ 100 * p + f ≤ j ∧ j < 100 * p + f then 1 else A q j : zA) = A := by
    funext q j
    exact if_neg (fun z => by omega)
  have e1 : (fun q j => if q = 25 ∧ 100 * p + f ≤ j ∧ j < 100 * p + (t + 1) then 1 else A q j : zA) = sendX p f t A := by
    funext q j
    unfold sendX
    by_cases c : q = 25 ∧ 100 * p + f ≤ j ∧ j ≤ 100 * p + t
    · rw [if_pos c, if_pos ⟨c.1, c.2.1, by omega⟩]
    · rw [if_neg c, if_neg (fun z => by omega)]
  have r := run (t + 1 - f) f (Nat.le_refl _) (by omega)
  rw [e0, e1] at r
  rw [q_L_sendAway, r, q_L_sendAway_3, zcond_t (nI_lt (by omega) (by omega)), q_L_sendAway_50]
  exact okV_ret _ _
theorem x_aw {E n : Nat} {tp : Nat → Int32} {A : zA} {b : zB} (h : rdX E n tp A) : T_readAway A b = resX (awP E tp n) A b := by
  have k18 : ∀ A, T_readAway_18 A b = okI 0 A b := fun A => by rw [q_T_readAway_18]; exact okI_ret _ _ _
  have k38 : ∀ A, T_readAway_38 A b = okI 0 A b := fun A => by rw [q_T_readAway_38]; exact okI_ret _ _ _
  have hself : zup A 21 3 (nI n) = A := zup_self h.1
  unfold awP
  rw [q_T_readAway, x_dg h]
  cases h1 : dgP E tp n with
  | none =>
    simp only [Option.elim_none, resX]
    rw [zcI_ok, zcond_t (by decide), k18, hself]
  | some w =>
    obtain ⟨a1, a2, -⟩ := dg_v h1
    have hA := rdX_u (n' := n + 1) h (by omega)
    simp only [Option.elim_some]
    rw [zcI_ok, zcond_f (nI_pos (by omega)), x_tk hA 44]
    cases t1 : tkP E tp 44 (n + 1)
    · simp only [cond_false, resX, Option.elim_none]
      rw [zcI_ok, zcond_t rfl, k18]
    · have l1 : n + 1 < E := by
        unfold tkP at t1
        exact of_decide_eq_true (Bool.and_eq_true_iff.mp t1).1
      have hB := rdX_u (n' := n + 2) hA (by omega)
      rw [zup_up] at hB
      simp only [cond_true]
      rw [zup_up, zcI_ok, zcond_f (by decide), x_d2 hB]
      cases h2 : d2P E tp (n + 2) with
      | none =>
        simp only [Option.elim_none, resX]
        rw [zcI_ok, zcond_t (by decide), k38]
      | some r =>
        obtain ⟨b1, b2, b3⟩ := d2_v h2
        have hC := rdX_u (n' := r.2) hB b3
        rw [zup_up] at hC
        simp only [Option.elim_some]
        rw [zup_up, zcI_ok, zcond_f (nI_pos (by omega)), x_tk hC 45]
        cases t2 : tkP E tp 45 r.2
        · simp only [cond_false, resX, Option.elim_none]
          rw [zcI_ok, zcond_t rfl, k38]
        · have l2 : r.2 < E := by
            unfold tkP at t2
            exact of_decide_eq_true (Bool.and_eq_true_iff.mp t2).1
          have hD := rdX_u (n' := r.2 + 1) hC (by omega)
          rw [zup_up] at hD
          simp only [cond_true]
          rw [zup_up, zcI_ok, zcond_f (by decide), x_d2 hD]
          cases h3 : d2P E tp (r.2 + 1) with
          | none =>
            simp only [Option.elim_none, resX]
            rw [zcI_ok, zcond_t (by decide)]
            exact okI_ret _ _ _
          | some q =>
            obtain ⟨d1, d2, d3⟩ := d2_v h3
            simp only [Option.elim_some]
            rw [zup_up, zcI_ok, zcond_f (nI_pos (by omega))]
            by_cases c : q.1 < r.1
            · rw [zcond_t (nI_lt c (by omega)), decide_eq_true c, zup_eq, show nI q.2 - 1 = nI (q.2 - 1) from pk_sub (b := 1) (by omega), zup_up]
              simp only [cond_true, resX, Option.elim_none]
              exact okI_ret _ _ _
            · rw [zcond_f (nI_nlt (by omega) (by omega)), decide_eq_false c, x_send (by omega) (by omega) d1, zcV_ok]
              simp only [cond_false, resX, Option.elim_some]
              exact okI_ret _ _ _
theorem m_aw {E n K : Nat} {tp : Nat → Int32} {A : zA} {b : zB} (h : rdM E n tp A) (hk : A 194 29 = nI K) (hK : K < 10) : M_readsAway A b = resM K (awP E tp n) A b := by
  have k18 : ∀ A, M_readsAway_18 A b = okI 0 A b := fun A => by rw [q_M_readsAway_18]; exact okI_ret _ _ _
  have k39 : ∀ A, M_readsAway_39 A b = okI 0 A b := fun A => by rw [q_M_readsAway_39]; exact okI_ret _ _ _
  have hself : zup A 194 35 (nI n) = A := zup_self h.1
  unfold awP
  rw [q_M_readsAway, m_dg h]
  cases h1 : dgP E tp n with
  | none =>
    simp only [Option.elim_none, resM]
    rw [zcI_ok, zcond_t (by decide), k18, hself]
  | some w =>
    obtain ⟨a1, a2, -⟩ := dg_v h1
    have hA := rdM_u (n' := n + 1) h (by omega)
    simp only [Option.elim_some]
    rw [zcI_ok, zcond_f (nI_pos (by omega)), m_tk hA 44]
    cases t1 : tkP E tp 44 (n + 1)
    · simp only [cond_false, resM, Option.elim_none]
      rw [zcI_ok, zcond_t rfl, k18]
    · have l1 : n + 1 < E := by
        unfold tkP at t1
        exact of_decide_eq_true (Bool.and_eq_true_iff.mp t1).1
      have hB := rdM_u (n' := n + 2) hA (by omega)
      rw [zup_up] at hB
      simp only [cond_true]
      rw [zup_up, zcI_ok, zcond_f (by decide), show M_dayFrom 0 = M_dayFrom (nI 0) from rfl, m_day hB (by omega)]
      cases h2 : d2P E tp (n + 2) with
      | none =>
        simp only [Option.elim_none, resM]
        rw [zcI_ok, zcond_t (by decide), k39]
      | some r =>
        obtain ⟨b1, b2, b3⟩ := d2_v h2
        have hC := rdM_u (n' := r.2) hB b3
        rw [zup_up] at hC
        simp only [Option.elim_some]
        rw [decide_eq_false (show ¬ r.1 < 0 by omega), cond_false, zup_up, zcI_ok, zcond_f (nI_pos (by omega)), m_tk hC 45]
        cases t2 : tkP E tp 45 r.2
        · simp only [cond_false, resM, Option.elim_none]
          rw [zcI_ok, zcond_t rfl, k39]
        · have l2 : r.2 < E := by
            unfold tkP at t2
            exact of_decide_eq_true (Bool.and_eq_true_iff.mp t2).1
          have hD := rdM_u (n' := r.2 + 1) hC (by omega)
          rw [zup_up] at hD
          simp only [cond_true]
          rw [zup_up, zcI_ok, zcond_f (by decide), m_day hD b1]
          cases h3 : d2P E tp (r.2 + 1) with
          | none =>
            simp only [Option.elim_none, resM]
            rw [zcI_ok, zcond_t (by decide)]
            exact okI_ret _ _ _
          | some q =>
            obtain ⟨d1, d2, d3⟩ := d2_v h3
            simp only [Option.elim_some]
            by_cases c : q.1 < r.1
            · rw [decide_eq_true c]
              simp only [cond_true, resM, Option.elim_none]
              rw [zup_up, zcI_ok, zcond_t (by decide)]
              exact okI_ret _ _ _
            · rw [decide_eq_false c]
              simp only [cond_false, resM, Option.elim_some]
              have e29 : zup A 194 35 (nI q.2) 194 29 = nI K := (zup_nj (by decide)).trans hk
              rw [zup_up, zcI_ok, zcond_f (nI_pos (by omega)), e29, zin_nI (n := 10) hK (by decide), cond_true, show (nI K).toNatClampNeg = K from nI_clamp (by omega), zup_ne (by decide), e29, zin_nI (n := 10) hK (by decide), cond_true, show (nI K).toNatClampNeg = K from nI_clamp (by omega), zup_ne (by decide), zup_ne (by decide), e29, zin_nI (n := 10) hK (by decide), cond_true, show (nI K).toNatClampNeg = K from nI_clamp (by omega), zup_ne (by decide), zup_ne (by decide), zup_ne (by decide), e29, nI_1]
              exact okI_ret _ _ _
