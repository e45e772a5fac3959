/-! The rule's text: signs and digits by both readers. -/
def tkP (E : Nat) (tp : Nat → Int32) (x : Int32) (n : Nat) : Bool := decide (n < E) && decide (tp n = x)
def dgP (E : Nat) (tp : Nat → Int32) (n : Nat) : Option Nat := cond (decide (n < E) && (!decide (tp n < 48) && !decide (57 < tp n))) (some (tp n - 48).toNatClampNeg) none
theorem dg_v {E n v : Nat} {tp : Nat → Int32} (h : dgP E tp n = some v) : n < E ∧ v ≤ 9 ∧ tp n - 48 = nI v := by
  unfold dgP at h
  by_cases c1 : n < E
  · by_cases c2 : tp n < 48
    · rw [decide_eq_true c2] at h
      cases hd : decide (n < E) <;> rw [hd] at h <;> exact absurd h (by simp)
    · by_cases c3 : 57 < tp n
      · rw [decide_eq_true c3] at h
        cases hd : decide (n < E) <;> cases he : decide (tp n < 48) <;> rw [hd, he] at h <;> exact absurd h (by simp)
      · rw [decide_eq_true c1, decide_eq_false c2, decide_eq_false c3] at h
        have h := Option.some.inj h
        rw [Int32.lt_iff_toInt_lt] at c2 c3
        rw [show (48 : Int32).toInt = 48 from rfl] at c2
        rw [show (57 : Int32).toInt = 57 from rfl] at c3
        have e1 : (tp n - 48).toInt = (tp n).toInt - 48 := by
          rw [Int32.toInt_sub, show (48 : Int32).toInt = 48 from rfl]
          have := Int.bmod_eq_of_le (n := (tp n).toInt - 48) (m := 2 ^ 32) (by omega) (by omega)
          exact this
        obtain ⟨k, hk, e⟩ := nI_of (x := tp n - 48) (by rw [Int32.lt_iff_toInt_lt, e1, show (0 : Int32).toInt = 0 from rfl]; omega)
        have e2 : k = v := by rw [← h, e]; exact (nI_clamp hk).symm
        refine ⟨c1, ?_, by rw [e, e2]⟩
        have := nI_toInt hk
        rw [← e, e1] at this
        omega
  · rw [decide_eq_false c1] at h
    exact absurd h (by simp)
def rdX (E n : Nat) (tp : Nat → Int32) (A : zA) : Prop := A 21 3 = nI n ∧ A 21 2 = nI E ∧ n ≤ E ∧ E ≤ 60 ∧ ∀ j, j < E → A 20 j = tp j
def rdM (E n : Nat) (tp : Nat → Int32) (C : zA) : Prop := C 194 35 = nI n ∧ C 194 36 = nI E ∧ n ≤ E ∧ E ≤ 60 ∧ ∀ j, j < E → C 215 j = tp j
theorem rdX_u {E n n' : Nat} {tp : Nat → Int32} {A : zA} (h : rdX E n tp A) (hn : n' ≤ E) : rdX E n' tp (zup A 21 3 (nI n')) := ⟨zup_eq _ _ _ _, (zup_nj (by decide)).trans h.2.1, hn, h.2.2.2.1, fun j hj => (zup_ne (by decide)).trans (h.2.2.2.2 j hj)⟩
theorem rdM_u {E n n' : Nat} {tp : Nat → Int32} {A : zA} (h : rdM E n tp A) (hn : n' ≤ E) : rdM E n' tp (zup A 194 35 (nI n')) := ⟨zup_eq _ _ _ _, (zup_nj (by decide)).trans h.2.1, hn, h.2.2.2.1, fun j hj => (zup_ne (by decide)).trans (h.2.2.2.2 j hj)⟩
theorem x_tk {E n : Nat} {tp : Nat → Int32} {A : zA} {b : zB} (h : rdX E n tp A) (x : Int32) : T_take x A b = cond (tkP E tp x n) (okI 1 (zup A 21 3 (nI (n + 1))) b) (okI 0 A b) := by
  obtain ⟨h1, h2, h3, h4, h5⟩ := h
  have k43 : T_take_43 A b = okI 0 A b := by rw [q_T_take_43]; exact okI_ret _ _ _
  unfold tkP
  rw [q_T_take, h1, h2, zcond_f (nI_pos (by omega)), k43]
  by_cases c : n < E
  · rw [zcond_t (nI_lt c (by omega)), decide_eq_true c, Bool.true_and, zin_nI (n := 80) (by omega) (by decide), cond_true, show (nI n).toNatClampNeg = n from nI_clamp (by omega), h5 n c, nI_1]
    by_cases c2 : tp n = x
    · rw [zcond_t c2, decide_eq_true c2]; exact okI_ret _ _ _
    · rw [zcond_f c2, decide_eq_false c2]; rfl
  · rw [zcond_f (nI_nlt (by omega) (by omega)), decide_eq_false c]
    rfl
theorem m_tk {E n : Nat} {tp : Nat → Int32} {A : zA} {b : zB} (h : rdM E n tp A) (x : Int32) : M_takes x A b = cond (tkP E tp x n) (okI 1 (zup A 194 35 (nI (n + 1))) b) (okI 0 A b) := by
  obtain ⟨h1, h2, h3, h4, h5⟩ := h
  have k28 : M_takes_28 A b = okI 0 A b := by
    rw [q_M_takes_28, q_M_takes_29, show (0 : Int32) = bI false from rfl, m_flag, zcI_ok, show A 194 35 + bI false = A 194 35 from Int32.add_zero _, zup_self rfl]
    exact okI_ret _ _ _
  have k29 : M_takes_29 1 A b = okI 1 (zup A 194 35 (nI (n + 1))) b := by
    rw [q_M_takes_29, show (1 : Int32) = bI true from rfl, m_flag, zcI_ok, h1, show nI n + bI true = nI (n + 1) from nI_1 n]
    exact okI_ret _ _ _
  unfold tkP
  rw [q_M_takes, h1, h2, k28, k29]
  by_cases c : n < E
  · rw [zcond_t (nI_lt c (by omega)), decide_eq_true c, Bool.true_and, zin_nI (n := 80) (by omega) (by decide), cond_true, show (nI n).toNatClampNeg = n from nI_clamp (by omega), h5 n c]
  · rw [zcond_f (nI_nlt (by omega) (by omega)), decide_eq_false c]
    rfl
theorem x_dg {E n : Nat} {tp : Nat → Int32} {A : zA} {b : zB} (h : rdX E n tp A) : T_digit A b = (dgP E tp n).elim (okI (-1) A b) (fun v => okI (nI v) (zup A 21 3 (nI (n + 1))) b) := by
  obtain ⟨h1, h2, h3, h4, h5⟩ := h
  have k46 : T_digit_46 A b = okI (-1) A b := by rw [q_T_digit_46]; exact okI_ret _ _ _
  rw [q_T_digit, h1, h2, zcond_f (nI_pos (by omega)), k46]
  by_cases c : n < E
  · rw [zcond_t (nI_lt c (by omega)), zin_nI (n := 80) (by omega) (by decide), cond_true, cond_true, cond_true, show (nI n).toNatClampNeg = n from nI_clamp (by omega), h5 n c, nI_1]
    cases hd : dgP E tp n with
    | none =>
      unfold dgP at hd
      rw [decide_eq_true c, Bool.true_and] at hd
      cases c2 : decide (tp n < 48)
      · cases c3 : decide (57 < tp n)
        · rw [c2, c3] at hd; exact absurd hd (by simp)
        · rfl
      · rfl
    | some v =>
      obtain ⟨-, -, e⟩ := dg_v hd
      unfold dgP at hd
      rw [decide_eq_true c, Bool.true_and] at hd
      cases c2 : decide (tp n < 48)
      · cases c3 : decide (57 < tp n)
        · rw [e]; exact okI_ret _ _ _
        · rw [c2, c3] at hd; exact absurd hd (by simp)
      · rw [c2] at hd; exact absurd hd (by simp)
  · rw [zcond_f (nI_nlt (by omega) (by omega))]
    unfold dgP
    rw [decide_eq_false c]
    rfl
theorem m_isdg {E n : Nat} {tp : Nat → Int32} {A : zA} {b : zB} (h : rdM E n tp A) : M_isDigit A b = okI (bI (dgP E tp n).isSome) A b := by
  obtain ⟨h1, h2, h3, h4, h5⟩ := h
  have k38 : ∀ x : Bool, M_isDigit_38 (bI x) A b = okI (bI x) A b := fun x => by
    rw [q_M_isDigit_38]
    cases x
    · exact okI_ret _ _ _
    · exact okI_ret _ _ _
  have k37 : M_isDigit_37 A b = okI (bI false) A b := by rw [q_M_isDigit_37]; exact k38 false
  unfold dgP
  rw [q_M_isDigit, h1, h2, k37]
  by_cases c : n < E
  · rw [zcond_t (nI_lt c (by omega)), zin_nI (n := 80) (by omega) (by decide), cond_true, show (nI n).toNatClampNeg = n from nI_clamp (by omega), h5 n c, s_in32 (tp n) 48 57 (by decide) (by decide), zcI_ok, k37, show M_isDigit_38 1 A b = okI (bI true) A b from k38 true, decide_eq_true c, Bool.true_and]
    by_cases c2 : tp n < 48
    · rw [if_pos c2, decide_eq_true c2]; rfl
    · by_cases c3 : 57 < tp n
      · rw [if_neg c2, if_pos c3, decide_eq_false c2, decide_eq_true c3]; rfl
      · rw [if_neg c2, if_neg c3, decide_eq_false c2, decide_eq_false c3]; rfl
  · rw [zcond_f (nI_nlt (by omega) (by omega)), decide_eq_false c]
    rfl
theorem m_dg {E n : Nat} {tp : Nat → Int32} {A : zA} {b : zB} (h : rdM E n tp A) : M_digit A b = (dgP E tp n).elim (okI (-1) A b) (fun v => okI (nI v) (zup A 194 35 (nI (n + 1))) b) := by
  rw [q_M_digit, m_isdg h, zcI_ok]
  cases hd : dgP E tp n with
  | none =>
    rw [zcond_t (show bI (none : Option Nat).isSome = 0 from rfl)]
    exact okI_ret _ _ _
  | some v =>
    obtain ⟨hn, -, e⟩ := dg_v hd
    obtain ⟨h1, h2, h3, h4, h5⟩ := h
    rw [zcond_f (show ¬ bI (some v).isSome = 0 from show ¬ (1 : Int32) = 0 by decide), zup_eq, h1, nI_1, show nI (n + 1) - 1 = nI n from pk_sub (b := 1) (by omega), zin_nI (n := 80) (by omega) (by decide), cond_true, show (nI n).toNatClampNeg = n from nI_clamp (by omega), zup_ne (by decide), h5 n hn, e]
    exact okI_ret _ _ _
/-- one or two digits: the number and the place behind -/
def d2P (E : Nat) (tp : Nat → Int32) (n : Nat) : Option (Nat × Nat) := (dgP E tp n).elim none (fun v => (dgP E tp (n + 1)).elim (some (v, n + 1)) (fun w => some (10 * v + w, n + 2)))
theorem d2_v {E n : Nat} {tp : Nat → Int32} {r : Nat × Nat} (h : d2P E tp n = some r) : r.1 ≤ 99 ∧ n < r.2 ∧ r.2 ≤ E := by
  unfold d2P at h
  cases h1 : dgP E tp n with
  | none => rw [h1] at h; exact absurd h (by simp)
  | some v =>
    obtain ⟨a1, a2, -⟩ := dg_v h1
    rw [h1] at h
    cases h2 : dgP E tp (n + 1) with
    | none =>
      rw [show (some v).elim none (fun v => (dgP E tp (n + 1)).elim (some (v, n + 1)) (fun w => some (10 * v + w, n + 2))) = (dgP E tp (n + 1)).elim (some (v, n + 1)) (fun w => some (10 * v + w, n + 2)) from rfl, h2] at h
      have h := Option.some.inj h
      rw [← h]
      exact ⟨show v ≤ 99 by omega, show n < n + 1 by omega, show n + 1 ≤ E by omega⟩
    | some w =>
      obtain ⟨b1, b2, -⟩ := dg_v h2
      rw [show (some v).elim none (fun v => (dgP E tp (n + 1)).elim (some (v, n + 1)) (fun w => some (10 * v + w, n + 2))) = (dgP E tp (n + 1)).elim (some (v, n + 1)) (fun w => some (10 * v + w, n + 2)) from rfl, h2] at h
      have h := Option.some.inj h
      rw [← h]
      exact ⟨show 10 * v + w ≤ 99 by omega, show n < n + 2 by omega, show n + 2 ≤ E by omega⟩
theorem x_d2 {E n : Nat} {tp : Nat → Int32} {A : zA} {b : zB} (h : rdX E n tp A) : T_oneOrTwoDigits A b = (d2P E tp n).elim (okI (-1) A b) (fun r => okI (nI r.1) (zup A 21 3 (nI r.2)) b) := by
  have k30 : ∀ x A, T_oneOrTwoDigits_30 x A b = okI x A b := fun x A => by rw [q_T_oneOrTwoDigits_30]; exact okI_ret _ _ _
  unfold d2P
  rw [q_T_oneOrTwoDigits, x_dg h]
  cases h1 : dgP E tp n with
  | none =>
    simp only [Option.elim_none]
    rw [zcI_ok, zcond_t (by decide)]
    exact okI_ret _ _ _
  | some v =>
    obtain ⟨a1, a2, -⟩ := dg_v h1
    have hA := rdX_u (n' := n + 1) h (by omega)
    simp only [Option.elim_some]
    rw [zcI_ok, zcond_f (nI_pos (by omega)), x_dg hA]
    cases h2 : dgP E tp (n + 1) with
    | none =>
      simp only [Option.elim_none, Option.elim_some]
      rw [zcI_ok, zcond_t (by decide), k30]
    | some w =>
      simp only [Option.elim_some]
      obtain ⟨b1, b2, -⟩ := dg_v h2
      rw [zcI_ok, zcond_f (nI_pos (by omega)), k30, zup_up, show (10 : Int32) = nI 10 from rfl, s_mul]
/-- the day read, and no smaller than one before -/
theorem m_day {E n : Nat} {tp : Nat → Int32} {A : zA} {b : zB} (h : rdM E n tp A) {m : Nat} (hm : m ≤ 99) : M_dayFrom (nI m) A b = (d2P E tp n).elim (okI (-1) A b) (fun r => cond (decide (r.1 < m)) (okI (-1) (zup A 194 35 (nI (r.2 - 1))) b) (okI (nI r.1) (zup A 194 35 (nI r.2)) b)) := by
  have k31 : ∀ v k : Nat, v ≤ 99 → 1 ≤ k → M_dayFrom_31 (nI m) (nI v) (zup A 194 35 (nI k)) b = cond (decide (v < m)) (okI (-1) (zup A 194 35 (nI (k - 1))) b) (okI (nI v) (zup A 194 35 (nI k)) b) := fun v k hv hk => by
    rw [q_M_dayFrom_31, zup_eq, show nI k - 1 = nI (k - 1) from pk_sub (b := 1) hk, zup_up]
    by_cases c : v < m
    · rw [zcond_t (nI_lt c (by omega)), decide_eq_true c]; exact okI_ret _ _ _
    · rw [zcond_f (nI_nlt (by omega) (by omega)), decide_eq_false c]; exact okI_ret _ _ _
  unfold d2P
  rw [q_M_dayFrom, m_dg h]
  cases h1 : dgP E tp n with
  | none =>
    simp only [Option.elim_none]
    rw [zcI_ok, zcond_t (by decide)]
    exact okI_ret _ _ _
  | some v =>
    obtain ⟨a1, a2, -⟩ := dg_v h1
    have hA := rdM_u (n' := n + 1) h (by omega)
    simp only [Option.elim_some]
    rw [zcI_ok, zcond_f (nI_pos (by omega)), m_isdg hA, zcI_ok, zc_b0, m_dg hA]
    cases h2 : dgP E tp (n + 1) with
    | none => exact k31 v (n + 1) (by omega) (by omega)
    | some w =>
      obtain ⟨b1, b2, -⟩ := dg_v h2
      simp only [Option.isSome_some, Option.elim_some]
      rw [cond_true]
      rw [zcI_ok, zup_up, show (10 : Int32) = nI 10 from rfl, s_mul]
      exact k31 (10 * v + w) (n + 2) (by omega) (by omega)
