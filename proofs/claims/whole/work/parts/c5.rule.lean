/-! A whole line. -/
def brP (E : Nat) (tp : Nat → Int32) (n : Nat) : Nat × Option (Nat × Nat × Nat × Nat) := (dgP E tp n).elim (n, none) (fun v => cond (tkP E tp 45 (n + 1)) ((dgP E tp (n + 2)).elim (n + 2, none) (fun w => (n + 3, some (3, v, w, 0)))) (n + 1, none))
def spP (E : Nat) (tp : Nat → Int32) (k n : Nat) : Nat × Option (Nat × Nat × Nat × Nat) := (dgP E tp n).elim (n, none) (fun v => (n + 1, some (k, v, 0, 0)))
def lineP (E : Nat) (tp : Nat → Int32) (n : Nat) : Nat × Option (Nat × Nat × Nat × Nat) := cond (tkP E tp 119 n) (spP E tp 0 (n + 1)) (cond (tkP E tp 98 n) (spP E tp 1 (n + 1)) (cond (tkP E tp 102 n) (spP E tp 2 (n + 1)) (cond (tkP E tp 120 n) (brP E tp (n + 1)) (cond (tkP E tp 97 n) (awP E tp (n + 1)) (n, none)))))
theorem resX_u (r : Nat × Option (Nat × Nat × Nat × Nat)) (A : zA) (b : zB) (x : Int32) : resX r (zup A 21 3 x) b = resX r A b := by unfold resX; rw [zup_up]
theorem resM_u (K : Nat) (r : Nat × Option (Nat × Nat × Nat × Nat)) (A : zA) (b : zB) (x : Int32) : resM K r (zup A 194 35 x) b = resM K r A b := by unfold resM; rw [zup_up]
theorem tk_lt {E n : Nat} {tp : Nat → Int32} {x : Int32} (h : tkP E tp x n = true) : n < E ∧ tp n = x := by
  unfold tkP at h
  exact ⟨of_decide_eq_true (Bool.and_eq_true_iff.mp h).1, of_decide_eq_true (Bool.and_eq_true_iff.mp h).2⟩
theorem tk_ne {E n : Nat} {tp : Nat → Int32} {x y : Int32} (h : tkP E tp x n = true) (hxy : ¬ x = y) : tkP E tp y n = false := by
  unfold tkP
  rw [decide_eq_false (fun z => hxy ((tk_lt h).2.symm.trans z)), Bool.and_false]
theorem x_sp {E n k : Nat} {tp : Nat → Int32} {A : zA} {b : zB} (h : rdX E n tp A) (hk : k ≤ 1) : T_readSpan (nI k) A b = resX (spP E tp k n) A b := by
  have hself : zup A 21 3 (nI n) = A := zup_self h.1
  unfold spP
  rw [q_T_readSpan, x_dg h]
  cases h1 : dgP E tp n with
  | none =>
    simp only [Option.elim_none, resX]
    rw [zcI_ok, zcond_t (by decide), hself]
    exact okI_ret _ _ _
  | some v =>
    obtain ⟨-, a2, -⟩ := dg_v h1
    simp only [Option.elim_some, resX, actX]
    rw [zcI_ok, zcond_f (nI_pos (by omega)), zin_nI (n := 2) (by omega) (by decide), cond_true, show (nI k).toNatClampNeg = k from nI_clamp (by omega), if_pos hk]
    exact okI_ret _ _ _
theorem x_fr {E n : Nat} {tp : Nat → Int32} {A : zA} {b : zB} (h : rdX E n tp A) : T_readFree A b = resX (spP E tp 2 n) A b := by
  have hself : zup A 21 3 (nI n) = A := zup_self h.1
  unfold spP
  rw [q_T_readFree, x_dg h]
  cases h1 : dgP E tp n with
  | none =>
    simp only [Option.elim_none, resX]
    rw [zcI_ok, zcond_t (by decide), hself]
    exact okI_ret _ _ _
  | some v =>
    obtain ⟨-, a2, -⟩ := dg_v h1
    have e : ∀ m, L_setFree (nI v) m b = okV (zup m 22 3 (m 22 3 ||| (1 <<< (nI v &&& 31)))) b := fun m => by rw [q_L_setFree]; exact okV_ret _ _
    simp only [Option.elim_some, resX, actX]
    rw [zcI_ok, zcond_f (nI_pos (by omega)), e, zcV_ok, if_neg (by decide), if_pos trivial]
    exact okI_ret _ _ _
theorem x_br {E n : Nat} {tp : Nat → Int32} {A : zA} {b : zB} (h : rdX E n tp A) : T_readBar A b = resX (brP E tp n) A b := by
  have hself : zup A 21 3 (nI n) = A := zup_self h.1
  have k18 : ∀ A, T_readBar_18 A b = okI 0 A b := fun A => by rw [q_T_readBar_18]; exact okI_ret _ _ _
  unfold brP
  rw [q_T_readBar, x_dg h]
  cases h1 : dgP E tp n with
  | none =>
    simp only [Option.elim_none, resX]
    rw [zcI_ok, zcond_t (by decide), hself, k18]
  | some v =>
    obtain ⟨a1, a2, -⟩ := dg_v h1
    have hA := rdX_u (n' := n + 1) h (by omega)
    simp only [Option.elim_some]
    rw [zcI_ok, zcond_f (nI_pos (by omega)), x_tk hA 45]
    cases t1 : tkP E tp 45 (n + 1)
    · simp only [cond_false, resX, Option.elim_none]
      rw [zcI_ok, zcond_t rfl, k18]
    · have l1 := (tk_lt t1).1
      have hB := rdX_u (n' := n + 2) hA (by omega)
      rw [zup_up] at hB
      simp only [cond_true]
      rw [zup_up, zcI_ok, zcond_f (by decide), x_dg hB]
      cases h2 : dgP E tp (n + 2) with
      | none =>
        simp only [Option.elim_none, resX]
        rw [zcI_ok, zcond_t (by decide)]
        exact okI_ret _ _ _
      | some w =>
        obtain ⟨b1, b2, -⟩ := dg_v h2
        have e : ∀ m, L_bar (nI v) (nI w) m b = okV (zup m 24 v (m 24 v ||| (1 <<< (nI w &&& 31)))) b := fun m => by
          rw [q_L_bar, zcond_f (nI_pos (by omega)), zcond_t (show nI v < 10 from nI_lt (b := 10) (by omega) (by decide)), zin_nI (n := 10) (by omega) (by decide), cond_true, cond_true, show (nI v).toNatClampNeg = v from nI_clamp (by omega), q_L_bar_22]
          exact okV_ret _ _
        simp only [Option.elim_some, resX, actX]
        rw [zup_up, zcI_ok, zcond_f (nI_pos (by omega)), e, zcV_ok, if_neg (by decide), if_neg (by decide), if_pos trivial]
        exact okI_ret _ _ _
theorem x_line {E n : Nat} {tp : Nat → Int32} {A : zA} {b : zB} (h : rdX E n tp A) : T_readLine A b = resX (lineP E tp n) A b := by
  have hself : zup A 21 3 (nI n) = A := zup_self h.1
  have k79 : ∀ (x : Int32) A, x = 0 ∨ x = 1 → T_readLine_79 x A b = okI x A b := fun x A hx => by
    rw [q_T_readLine_79]
    rcases hx with rfl | rfl
    · exact okI_ret _ _ _
    · exact okI_ret _ _ _
  have k78 : ∀ A, T_readLine_78 A b = okI 0 A b := fun A => by rw [q_T_readLine_78]; exact k79 0 A (.inl rfl)
  have wrap : ∀ (r : Nat × Option (Nat × Nat × Nat × Nat)) A, zcI (resX r A b) (fun y a b => cond (zisB y) (zRET (some (.int y)) zSH a b) none) = resX r A b := fun r A => by
    obtain ⟨m, o⟩ := r
    cases o with
    | none =>
      simp only [resX, Option.elim_none]
      rw [zcI_ok]
      exact okI_ret _ _ _
    | some s =>
      simp only [resX, Option.elim_some]
      rw [zcI_ok]
      exact okI_ret _ _ _
  unfold lineP
  rw [q_T_readLine, x_tk h 119]
  cases t1 : tkP E tp 119 n
  · simp only [cond_false]
    rw [zcI_ok, zcond_t rfl, x_tk h 98]
    cases t2 : tkP E tp 98 n
    · simp only [cond_false]
      rw [zcI_ok, zcond_t rfl, x_tk h 102]
      cases t3 : tkP E tp 102 n
      · simp only [cond_false]
        rw [zcI_ok, zcond_t rfl, x_tk h 120]
        cases t4 : tkP E tp 120 n
        · simp only [cond_false]
          rw [zcI_ok, zcond_t rfl, x_tk h 97]
          cases t5 : tkP E tp 97 n
          · simp only [cond_false, resX, Option.elim_none]
            rw [zcI_ok, zcond_t rfl, k78, hself]
          · simp only [cond_true]
            have l := (tk_lt t5).1
            rw [zcI_ok, zcond_f (by decide), x_aw (rdX_u h (show n + 1 ≤ E by omega)), resX_u]
            cases ho : awP E tp (n + 1) with
            | mk m o =>
              cases o with
              | none =>
                simp only [resX, Option.elim_none]
                rw [zcI_ok, zcond_t rfl, k78]
              | some s =>
                simp only [resX, Option.elim_some]
                rw [zcI_ok, zcond_f (by decide), k79 1 _ (.inr rfl)]
        · simp only [cond_true]
          have l := (tk_lt t4).1
          rw [zcI_ok, zcond_f (by decide), x_br (rdX_u h (show n + 1 ≤ E by omega)), wrap, resX_u]
      · simp only [cond_true]
        have l := (tk_lt t3).1
        rw [zcI_ok, zcond_f (by decide), x_fr (rdX_u h (show n + 1 ≤ E by omega)), wrap, resX_u]
    · simp only [cond_true]
      have l := (tk_lt t2).1
      rw [zcI_ok, zcond_f (by decide), show T_readSpan 1 = T_readSpan (nI 1) from rfl, x_sp (rdX_u h (show n + 1 ≤ E by omega)) (by decide), wrap, resX_u]
  · simp only [cond_true]
    have l := (tk_lt t1).1
    rw [zcI_ok, zcond_f (by decide), show T_readSpan 0 = T_readSpan (nI 0) from rfl, x_sp (rdX_u h (show n + 1 ≤ E by omega)) (by decide), wrap, resX_u]
theorem m_store {K k v : Nat} (hk : k ≤ 2) (hv : v ≤ 9) (A : zA) (b : zB) : M_readsLine_131 (nI k) (nI v) A b = okI 1 (actM K (k, v, 0, 0) A) b := by
  have k188 : ∀ x m, M_readsLine_188 (m 194 27) x m b = okI 1 (zup m 194 27 (m 194 27 ||| x)) b := fun x m => by
    rw [q_M_readsLine_188]
    exact okI_ret _ _ _
  have k188z : ∀ m, M_readsLine_188 (m 194 27) 0 m b = okI 1 m b := fun m => by
    rw [k188, show m 194 27 ||| 0 = m 194 27 from Int32.or_zero, zup_self rfl]
  rw [q_M_readsLine_131, zcond_f (nI_pos (by omega))]
  unfold actM
  have cases3 : k = 0 ∨ k = 1 ∨ k = 2 := by omega
  rcases cases3 with rfl | rfl | rfl
  · rw [zcond_t (show nI 0 = 0 from rfl), q_M_readsLine_151, zcond_f (show ¬ nI 0 = 1 by decide), q_M_readsLine_168, zcond_f (show ¬ nI 0 = 2 by decide), zup_self (c := zup A 194 25 (nI v)) (q := 194) (j := 26) rfl, k188z]
    rfl
  · rw [zcond_f (show ¬ nI 1 = 0 by decide), q_M_readsLine_151, zcond_t (show nI 1 = 1 from rfl), q_M_readsLine_168, zcond_f (show ¬ nI 1 = 2 by decide), zup_self (c := A) (q := 194) (j := 25) rfl, k188z]
    rfl
  · rw [zcond_f (show ¬ nI 2 = 0 by decide), q_M_readsLine_151, zcond_f (show ¬ nI 2 = 1 by decide), q_M_readsLine_168, zcond_t (show nI 2 = 2 from rfl), zup_self (c := A) (q := 194) (j := 25) rfl, zup_self (c := A) (q := 194) (j := 26) rfl, k188]
    rfl
theorem m_sp {E n K k : Nat} {tp : Nat → Int32} {A : zA} {b : zB} (h : rdM E n tp A) (hk : k ≤ 2) : M_readsLine_118 (nI k) A b = resM K (spP E tp k n) A b := by
  have hself : zup A 194 35 (nI n) = A := zup_self h.1
  unfold spP
  rw [q_M_readsLine_118, zcond_f (nI_pos (by omega)), m_dg h]
  cases h1 : dgP E tp n with
  | none =>
    simp only [Option.elim_none, resM]
    rw [zcI_ok, q_M_readsLine_131, zcond_t (by decide), hself]
    exact okI_ret _ _ _
  | some v =>
    obtain ⟨-, a2, -⟩ := dg_v h1
    simp only [Option.elim_some, resM]
    rw [zcI_ok, m_store (K := K) hk a2]
theorem m_line {E n K : Nat} {tp : Nat → Int32} {A : zA} {b : zB} (h : rdM E n tp A) (hk : A 194 29 = nI K) (hK : K < 10) : M_readsLine A b = resM K (lineP E tp n) A b := by
  have hself : zup A 194 35 (nI n) = A := zup_self h.1
  have k41 : ∀ A, M_readsLine_41 A b = okI 0 A b := fun A => by rw [q_M_readsLine_41]; exact okI_ret _ _ _
  have wrap : ∀ (r : Nat × Option (Nat × Nat × Nat × Nat)) A, zcI (resM K r A b) (fun y a b => cond (zisB y) (zRET (some (.int y)) zSH a b) none) = resM K r A b := fun r A => by
    obtain ⟨m, o⟩ := r
    cases o with
    | none =>
      simp only [resM, Option.elim_none]
      rw [zcI_ok]
      exact okI_ret _ _ _
    | some s =>
      simp only [resM, Option.elim_some]
      rw [zcI_ok]
      exact okI_ret _ _ _
  unfold lineP
  rw [q_M_readsLine, m_tk h 97]
  cases t5 : tkP E tp 97 n
  · simp only [cond_false]
    rw [zcI_ok, zcond_t rfl, m_tk h 120]
    cases t4 : tkP E tp 120 n
    · simp only [cond_false]
      rw [zcI_ok, zcond_t rfl, m_tk h 119]
      cases t1 : tkP E tp 119 n
      · simp only [cond_false]
        rw [zcI_ok, zcond_t rfl, m_tk h 98]
        cases t2 : tkP E tp 98 n
        · simp only [cond_false]
          rw [zcI_ok, zcond_t rfl, m_tk h 102]
          cases t3 : tkP E tp 102 n
          · simp only [cond_false, resM, Option.elim_none]
            rw [zcI_ok, zcond_t rfl, q_M_readsLine_118, zcond_t (by decide), q_M_readsLine_131, zcond_t (by decide), hself]
            exact okI_ret _ _ _
          · simp only [cond_true]
            have l := (tk_lt t3).1
            rw [zcI_ok, zcond_f (by decide), show M_readsLine_118 2 = M_readsLine_118 (nI 2) from rfl, m_sp (K := K) (rdM_u h (show n + 1 ≤ E by omega)) (by decide), resM_u]
        · simp only [cond_true]
          have l := (tk_lt t2).1
          rw [zcI_ok, zcond_f (by decide), show M_readsLine_118 1 = M_readsLine_118 (nI 1) from rfl, m_sp (K := K) (rdM_u h (show n + 1 ≤ E by omega)) (by decide), resM_u]
      · simp only [cond_true]
        have l := (tk_lt t1).1
        rw [zcI_ok, zcond_f (by decide), show M_readsLine_118 0 = M_readsLine_118 (nI 0) from rfl, m_sp (K := K) (rdM_u h (show n + 1 ≤ E by omega)) (by decide), resM_u]
    · rw [tk_ne t4 (y := 119) (by decide), tk_ne t4 (y := 98) (by decide), tk_ne t4 (y := 102) (by decide)]
      simp only [cond_true, cond_false]
      have l := (tk_lt t4).1
      have hA := rdM_u h (show n + 1 ≤ E by omega)
      rw [zcI_ok, zcond_f (by decide), m_dg hA]
      unfold brP
      cases h1 : dgP E tp (n + 1) with
      | none =>
        simp only [Option.elim_none, resM]
        rw [zcI_ok, zcond_t (by decide), k41]
      | some v =>
        obtain ⟨a1, a2, -⟩ := dg_v h1
        have hB := rdM_u (n' := n + 2) hA (by omega)
        rw [zup_up] at hB
        simp only [Option.elim_some]
        rw [zup_up, zcI_ok, zcond_f (nI_pos (by omega)), m_tk hB 45]
        cases t6 : tkP E tp 45 (n + 1 + 1)
        · simp only [cond_false, resM, Option.elim_none]
          rw [zcI_ok, zcond_t rfl, k41]
        · have l6 := (tk_lt t6).1
          have hC := rdM_u (n' := n + 3) hB (by omega)
          rw [zup_up] at hC
          have k66 : ∀ (y : Int32) (x : Int32) (m : zA) (ok : Bool), decide (y < 0) = !ok → M_readsLine_66 y (nI v) (m 211 v) x m b = okI (bI ok) (zup m 211 v (m 211 v ||| x)) b := fun y x m ok hy => by
            rw [q_M_readsLine_66, zin_nI (n := 10) (by omega) (by decide), cond_true, show (nI v).toNatClampNeg = v from nI_clamp (by omega), hy, q_M_readsLine_77, q_M_readsLine_77]
            cases ok
            · exact okI_ret _ _ _
            · exact okI_ret _ _ _
          simp only [cond_true]
          rw [zup_up, zcI_ok, zcond_f (by decide), m_dg hC]
          cases h2 : dgP E tp (n + 1 + 2) with
          | none =>
            simp only [Option.elim_none, resM]
            rw [zcI_ok, zin_nI (n := 10) (by omega) (by decide), cond_true, zcond_t (by decide), show (nI v).toNatClampNeg = v from nI_clamp (by omega), k66 (-1) 0 _ false (by decide), show ∀ x : Int32, x ||| 0 = x from fun x => Int32.or_zero, zup_self rfl]
            rfl
          | some w =>
            obtain ⟨b1, b2, -⟩ := dg_v h2
            simp only [Option.elim_some, resM, actM]
            rw [zup_up, zcI_ok, zin_nI (n := 10) (by omega) (by decide), cond_true, zcond_f (nI_pos (by omega)), show (nI v).toNatClampNeg = v from nI_clamp (by omega), k66 (nI w) _ _ true (decide_eq_false (nI_pos (by omega))), if_neg (by decide), if_neg (by decide), if_pos trivial]
            rfl
  · rw [tk_ne t5 (y := 119) (by decide), tk_ne t5 (y := 98) (by decide), tk_ne t5 (y := 102) (by decide), tk_ne t5 (y := 120) (by decide)]
    simp only [cond_true, cond_false]
    have l := (tk_lt t5).1
    rw [zcI_ok, zcond_f (by decide), m_aw (K := K) (rdM_u h (show n + 1 ≤ E by omega)) ((zup_nj (by decide)).trans hk) hK, wrap, resM_u]
