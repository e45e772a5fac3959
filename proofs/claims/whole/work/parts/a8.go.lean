/-! go: the days in lockstep, and the call. -/
theorem go_draft {L : Nat} {xs : Nat → Int32} {P Q T G N k n i : Nat} {a c : zA} {b b' : zB} (h : rAll L xs P Q T G N (zmask (cmb a c))) (hP : 1 ≤ P) (hk : k ≤ 3) (hT : T < 60) (hi : i < n) (hn : n ≤ 60) (v3 : Int32) : ∃ a' c', X_go_44 (nI k) (nI n) v3 (nI i) a b = X_go_80 (nI k) (nI n) v3 (nI i) a' b ∧ M_go_54 (nI k) (nI n) v3 (nI i) c b' = M_go_111 (nI k) (nI n) v3 (nI i) c' b' ∧ rAll L xs P Q T G N (zmask (cmb a' c')) ∧ (∀ q, q = 0 ∨ 194 ≤ q → a' q = a q) ∧ (∀ q, q < 194 → c' q = c q) := by
  obtain ⟨W, S, hv⟩ := pr_vw h
  obtain ⟨⟨p1, p2⟩, ⟨q1, q2⟩, ⟨t1, t2⟩, -⟩ := hv.2.1
  by_cases c3 : k = 3
  · subst c3
    obtain ⟨v, a', c', e1, e2, e3, f1, f2, -⟩ := fill_go (b := b) (b' := b') h
    obtain ⟨W', S', hv'⟩ := pr_vw e3
    refine ⟨a', c', ?_, ?_, e3, fun q hq => f1 q (by omega) (by omega) (by omega), fun q hq => f2 q (by omega) (by omega) (by omega)⟩
    · rw [q_X_go_44, zcond_t (nI_lt hi (by omega)), t1, zcond_t (show nI T < 60 from nI_lt (b := 60) hT (by decide)), zcond_t (show nI 3 = 3 from rfl), e1, zcI_ok]
    · rw [q_M_go_54, zcond_t (nI_lt hi (by omega)), zcond_t (show nI 3 = 3 from rfl), e2, zcI_ok, q_M_go_70, q_M_go_73]
      cases decide ((0 : Int32) < c' 194 7)
      · rfl
      · rw [cond_true, zcond_t (show nI 3 = 3 from rfl)]
  · have k3 : ¬ nI k = 3 := fun z => absurd ((nI_eq (by omega) (by decide)).mp (show nI k = nI 3 from z)) (by omega)
    obtain ⟨a', c', e1, e2, e3, f1, f2⟩ := kind_go (k := k) (b := b) (b' := b') h hP (by omega) (nI n) v3 (nI i)
    refine ⟨a', c', ?_, ?_, e3, fun q hq => f1 q (by omega), fun q hq => f2 q (by omega)⟩
    · rw [q_X_go_44, zcond_t (nI_lt hi (by omega)), t1, zcond_t (show nI T < 60 from nI_lt (b := 60) hT (by decide)), zcond_f k3, e1, zcV_ok]
    · rw [q_M_go_54, zcond_t (nI_lt hi (by omega)), zcond_f k3, q_M_go_70, e2]
theorem go_step {L : Nat} {xs : Nat → Int32} {P Q T G N k n i : Nat} {a c : zA} {b b' : zB} (h : rAll L xs P Q T G N (zmask (cmb a c))) (hP : 1 ≤ P) (hk : k ≤ 3) (hT : T < 60) (hi : i < n) (hn : n ≤ 60) (v3 : Int32) : ∃ v a' c', X_go_44 (nI k) (nI n) v3 (nI i) a b = X_go_44 (nI k) (nI n) (v3 + v) (nI (i + 1)) a' b ∧ M_go_54 (nI k) (nI n) v3 (nI i) c b' = M_go_54 (nI k) (nI n) (v3 + v) (nI (i + 1)) c' b' ∧ rAll L xs P Q (T + 1) G N (zmask (cmb a' c')) ∧ (∀ q, q = 0 ∨ 194 ≤ q → a' q = a q) ∧ (∀ q, q < 194 → c' q = c q) := by
  obtain ⟨a1, c1, e1, e2, e3, f1, f2⟩ := go_draft (b := b) (b' := b') h hP hk hT hi hn v3
  obtain ⟨W, S, hv⟩ := pr_vw e3
  obtain ⟨⟨p1, p2⟩, ⟨q1, q2⟩, ⟨t1, t2⟩, -⟩ := hv.2.1
  have h0 : v0 c1 := by
    have := v0_of e3
    unfold v0 at this
    rw [cmb_c (by decide)] at this
    exact this
  obtain ⟨a2, c2, d1, d2, d3, d4, d5, d6⟩ := day_go (b := b) (b' := b') e3 hT
  have gX := v_goodX (b := b) true hv (Nat.le_refl T)
  have gM := v_goodM (b := b') (l := 63) hv h0 (Nat.le_refl T) (by decide) (fun q hq => (hv.2.2.2.1.2.1 q hq).symm)
  obtain ⟨y, hy⟩ : ∃ y, y = yBad true a1 Q T W S T := ⟨_, rfl⟩
  rw [← hy] at gX gM
  refine ⟨bI y, a2, c2, ?_, ?_, d3, fun q hq => (d4 q (by omega)).trans (f1 q hq), fun q hq => (d5 q (by omega)).trans (f2 q hq)⟩
  · have gX : W_isGood (nI T) 1 a1 b = okI (bI (!y)) a1 b := gX
    rw [e1, q_X_go_80, t1, gX, zcI_ok]
    cases y
    · rw [zcond_f (show ¬ bI (!false) = 0 by decide), q_X_go_101, d1, zcV_ok, nI_1, show v3 + bI false = v3 from Int32.add_zero v3]
    · rw [zcond_t (show bI (!true) = 0 from rfl), q_X_go_101, d1, zcV_ok, nI_1]
      rfl
  · have gM : M_isGood 63 (nI T) c1 b' = okI (bI (!y)) c1 b' := gM
    rw [e2, q_M_go_111, t2, gM, zcI_ok]
    cases y
    · rw [zcond_f (show ¬ bI (!false) = 0 by decide), q_M_go_130, show (0 : Int32) = bI false from rfl, m_flag, zcI_ok, d2, zcV_ok, nI_1]
    · rw [zcond_t (show bI (!true) = 0 from rfl), q_M_go_130, show (1 : Int32) = bI true from rfl, m_flag, zcI_ok, d2, zcV_ok, show bI true = 1 from rfl, nI_1]
theorem go_all {L : Nat} {xs : Nat → Int32} {P Q G N k n : Nat} {b b' : zB} (hP : 1 ≤ P) (hk : k ≤ 3) (hn : n ≤ 60) : ∀ m i T a c, rAll L xs P Q T G N (zmask (cmb a c)) → i + m = n → T + m ≤ 60 → ∀ v3, ∃ v a' c', X_go_44 (nI k) (nI n) v3 (nI i) a b = okI v a' b ∧ M_go_54 (nI k) (nI n) v3 (nI i) c b' = okI v c' b' ∧ rAll L xs P Q (T + m) G N (zmask (cmb a' c')) ∧ (∀ q, q = 0 ∨ 194 ≤ q → a' q = a q) ∧ (∀ q, q < 194 → c' q = c q)
  | 0, i, T, a, c, h, e, hT, v3 => by
    have e : i = n := by omega
    subst e
    refine ⟨v3, a, c, ?_, ?_, h, fun _ _ => rfl, fun _ _ => rfl⟩
    · rw [q_X_go_44, zcond_f (nI_nlt (Nat.le_refl _) (by omega)), q_X_go_118]
      exact okI_ret _ _ _
    · rw [q_M_go_54, zcond_f (nI_nlt (Nat.le_refl _) (by omega))]
      exact okI_ret _ _ _
  | m + 1, i, T, a, c, h, e, hT, v3 => by
    obtain ⟨v, a1, c1, e1, e2, e3, f1, f2⟩ := go_step (b := b) (b' := b') (k := k) (n := n) (i := i) h hP hk (by omega) (by omega) hn v3
    obtain ⟨v', a2, c2, d1, d2, d3, g1, g2⟩ := go_all (b := b) (b' := b') hP hk hn m (i + 1) (T + 1) a1 c1 e3 (by omega) (by omega) (v3 + v)
    refine ⟨v', a2, c2, e1.trans d1, e2.trans d2, ?_, fun q hq => (g1 q hq).trans (f1 q hq), fun q hq => (g2 q hq).trans (f2 q hq)⟩
    rw [show T + (m + 1) = T + 1 + m by omega]
    exact d3
theorem r_go {L : Nat} {xs : Nat → Int32} (x1 x2 : Int32) : zAns (Rel L xs) (X_go x1 x2) (M_go x1 x2) := by
  intro a b hr
  obtain ⟨P, Q, T, G, N, hall⟩ := id hr
  obtain ⟨W, S, hv⟩ := vw_mask hall
  obtain ⟨⟨g1, g2, g3, g4, g5⟩, ⟨⟨p1, p2⟩, ⟨q1, q2⟩, ⟨t1, t2⟩, -⟩, -⟩ := id hv
  have hin : ∀ c, M_in x1.toInt64 0 3 c b = okI (if x1 < 0 then 0 else if 3 < x1 then 0 else 1) c b := fun c => s_in32 x1 0 3 (by decide) (by decide) c b
  have hin2 : ∀ c, M_in x2.toInt64 0 60 c b = okI (if x2 < 0 then 0 else if 60 < x2 then 0 else 1) c b := fun c => s_in32 x2 0 60 (by decide) (by decide) c b
  have e60 : (60 : Int32) - nI T = nI (60 - T) := pk_sub (a := 60) (b := T) g3
  have u3 : zup a 194 0 0 194 3 = nI P := (zup_nj (by decide)).trans p2
  have u15 : zup a 194 0 0 194 15 = nI T := (zup_nj (by decide)).trans t2
  have mI : M_go x1 x2 (zup a 194 0 0) b = M_go x1 x2 (zup a 194 0 0) b := rfl
  by_cases c1 : x1 < 0
  · refine ans_thr hr (-1) ?_ ?_
    · rw [q_X_go, zcond_t c1, q_X_go_37]; exact okI_ret _ _ _
    · rw [q_M_go, hin, if_pos c1, zcI_ok, zcond_t rfl, q_M_go_47]; exact okI_ret _ _ _
  by_cases c2 : 3 < x1
  · refine ans_thr hr (-1) ?_ ?_
    · rw [q_X_go, zcond_f c1, zcond_t c2, q_X_go_37]; exact okI_ret _ _ _
    · rw [q_M_go, hin, if_neg c1, if_pos c2, zcI_ok, zcond_t rfl, q_M_go_47]; exact okI_ret _ _ _
  obtain ⟨k, hk, -, rfl⟩ := s_idx (P := 4) (x := x1) ⟨c1, by
    rw [Int32.lt_iff_toInt_lt] at c2 ⊢
    rw [show (3 : Int32).toInt = 3 from rfl] at c2
    rw [show (nI 4).toInt = 4 from rfl]
    omega⟩
  by_cases c3 : x2 < 0
  · refine ans_thr hr (-1) ?_ ?_
    · rw [q_X_go, zcond_f c1, zcond_f c2, zcond_t c3, q_X_go_37]; exact okI_ret _ _ _
    · rw [q_M_go, hin, if_neg c1, if_neg c2, zcI_ok, zcond_f (by decide), hin2, if_pos c3, zcI_ok, zcond_t rfl, q_M_go_47]; exact okI_ret _ _ _
  obtain ⟨n, hn, rfl⟩ := nI_of c3
  by_cases c4 : 60 - T < n
  · refine ans_thr hr (-1) ?_ ?_
    · rw [q_X_go, zcond_f c1, zcond_f c2, zcond_f c3, t1, e60, zcond_t (nI_lt c4 hn), q_X_go_37]; exact okI_ret _ _ _
    · rw [q_M_go, hin, if_neg c1, if_neg c2, zcI_ok, zcond_f (by decide), hin2, if_neg c3]
      by_cases c5 : 60 < n
      · rw [if_pos (show (60 : Int32) < nI n from nI_lt (a := 60) c5 hn), zcI_ok, zcond_t rfl, q_M_go_47]; exact okI_ret _ _ _
      · rw [if_neg (show ¬ (60 : Int32) < nI n from nI_nlt (a := 60) (by omega) (by decide)), zcI_ok, zcond_f (by decide), u15, nI_add, zcond_t (show (60 : Int32) < nI (T + n) from nI_lt (a := 60) (by omega) (by omega)), q_M_go_47]; exact okI_ret _ _ _
  have c5 : ¬ (60 : Int32) < nI n := nI_nlt (a := 60) (by omega) (by decide)
  have hX : ∀ a, a 2 0 = nI P → a 12 6 = nI T → X_go (nI k) (nI n) a b = cond (decide (nI P = 0)) (X_go_37 a b) (X_go_44 (nI k) (nI n) 0 0 a b) := by
    intro a p1 t1
    rw [q_X_go, zcond_f c1, zcond_f c2, zcond_f c3, t1, e60, zcond_f (nI_nlt (by omega) (by omega)), p1]
  have hM : ∀ c, c 194 3 = nI P → c 194 15 = nI T → M_go (nI k) (nI n) c b = cond (decide (nI P = 0)) (M_go_47 (zup c 194 0 0) b) (M_go_54 (nI k) (nI n) 0 0 (zup c 194 0 0) b) := by
    intro c p2 t2
    rw [q_M_go, hin, if_neg c1, if_neg c2, zcI_ok, zcond_f (by decide), hin2, if_neg c3, if_neg c5, zcI_ok, zcond_f (by decide), zup_nj (by decide), t2, nI_add, zcond_f (show ¬ (60 : Int32) < nI (T + n) from nI_nlt (a := 60) (by omega) (by decide)), zup_nj (by decide), p2]
  by_cases c6 : P = 0
  · subst c6
    refine ans_thr hr (-1) ?_ ?_
    · rw [hX a p1 t1, zcond_t (show nI 0 = 0 from rfl), q_X_go_37]; exact okI_ret _ _ _
    · rw [hM a p2 t2, zcond_t (show nI 0 = 0 from rfl), q_M_go_47]; exact okI_ret _ _ _
  have c7 : ¬ nI P = 0 := fun z => c6 ((nI_eq (by omega) (by decide)).mp (show nI P = nI 0 from z))
  have h1 : rAll L xs P Q T G N (zmask (cmb a a)) := by rw [cmb_s]; exact hall
  obtain ⟨v, a', -, e1, -, -, f1, -⟩ := go_all (b := b) (b' := b) (k := k) (n := n) (by omega) (by omega) (by omega) n 0 T a a h1 (Nat.zero_add _) (by omega) 0
  have h2 : rAll L xs P Q T G N (zmask (cmb a (zup a' 194 0 0))) := by
    rw [cmb_thr, cmb_up (c := a) (fun q hq => f1 q (.inr hq)), cmb_s]
    exact hall
  obtain ⟨v', a'', c', e2, e3, e4, f2, f3⟩ := go_all (b := b) (b' := b) (k := k) (n := n) (by omega) (by omega) (by omega) n 0 T a _ h2 (Nat.zero_add _) (by omega) 0
  have ev : v = v' ∧ a' = a'' := by
    have := e1.symm.trans e2
    unfold okI at this
    injection this with this
    injection this with h1 this
    injection this with _ this
    injection this with h2 _
    exact ⟨by injection h1 with h1; injection h1, h2⟩
  obtain ⟨rfl, rfl⟩ := ev
  refine ⟨v, a', b, c', b, ?_, fun j => congrFun (f1 0 (.inl rfl)) j, ?_, P, Q, T + n, G, N, ?_⟩
  · rw [hX a p1 t1, zcond_f c7]; exact e1
  · rw [hM a' ((congrFun (f1 194 (.inr (by decide))) 3).trans p2) ((congrFun (f1 194 (.inr (by decide))) 15).trans t2), zcond_f c7]; exact e3
  · rw [cmb_dn (a := a') (fun q hq => (f3 q hq).trans (zup_row (by omega)))] at e4
    exact e4
