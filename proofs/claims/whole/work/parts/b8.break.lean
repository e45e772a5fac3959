/-! The call breaking. -/
theorem r_breaking {L : Nat} {xs : Nat → Int32} (x1 : Int32) : zAns (Rel L xs) (X_breaking x1) (M_breaking x1) := by
  intro a b hr
  obtain ⟨P, Q, T, G, N, hall⟩ := id hr
  obtain ⟨W, S, hv⟩ := vw_mask hall
  have h0 := v0_of hall
  obtain ⟨⟨g1, g2, g3, g4, g5⟩, ⟨⟨p1, p2⟩, ⟨q1, q2⟩, ⟨t1, t2⟩, -⟩, -⟩ := id hv
  have hin : ∀ c, M_in x1.toInt64 0 5000 c b = okI (if x1 < 0 then 0 else if 5000 < x1 then 0 else 1) c b := fun c => s_in32 x1 0 5000 (by decide) (by decide) c b
  by_cases c1 : x1 < 0
  · refine ans_thr hr (-1) ?_ ?_
    · rw [q_X_breaking, zcond_t c1, q_X_breaking_11]; exact okI_ret _ _ _
    · rw [q_M_breaking, hin, if_pos c1, zcI_ok, zcond_t rfl]; exact okI_ret _ _ _
  by_cases c2 : 5000 < x1
  · refine ans_thr hr (-1) ?_ ?_
    · rw [q_X_breaking, zcond_f c1, zcond_t c2, q_X_breaking_11]; exact okI_ret _ _ _
    · rw [q_M_breaking, hin, if_neg c1, if_pos c2, zcI_ok, zcond_t rfl]; exact okI_ret _ _ _
  obtain ⟨n, hn, hx⟩ : ∃ n, n ≤ 5000 ∧ x1 = nI n := by
    obtain ⟨k, hk, -, e⟩ := s_idx (P := 5001) (x := x1) ⟨c1, by
      rw [Int32.lt_iff_toInt_lt] at c2 ⊢
      rw [show (5000 : Int32).toInt = 5000 from rfl] at c2
      rw [show (nI 5001).toInt = 5001 from rfl]
      omega⟩
    exact ⟨k, by omega, e⟩
  obtain ⟨c, hcn⟩ : ∃ c : Int, c = (n : Int) := ⟨_, rfl⟩
  have hc : 0 ≤ c ∧ c ≤ 5000 := by omega
  have kc : x1 = kI c := by rw [hcn, kI_n, hx]
  have hpr : prOk (some c) := fun d h => by have := Option.some.inj h; omega
  obtain ⟨a1, e1, e2, e3⟩ := x_load (b := b) hv (frz_n g1) hpr
  obtain ⟨A, f1, f2, f3, f4, f5⟩ := x_choose (b := b) (opB_P hpr 0 a T W Q S) g1 g2 e3 (by rw [e2 27 (by omega), e2 33 (by omega)]; exact known_of hall)
  have fA : frX A a := ⟨fun q h1 h2 => by rw [f2 q h1 (by omega) (by omega) (by omega), e2 q (by omega)], fun j hj => by rw [f3 j hj, e2 27 (by omega)]⟩
  obtain ⟨V, hV⟩ : ∃ V, V = opV (scB c a T W Q) (tgB c a Q T S) bl0 P Q 0 0 10 := ⟨_, rfl⟩
  obtain ⟨F, hF⟩ : ∃ F : Nat → Option Nat, F = fun q => filO (scB c a T W Q) (tgB c a Q T S) bl0 P Q 0 0 10 q := ⟨_, rfl⟩
  have f1 : C_choose a1 b = okI (kI V) A b := by rw [hV]; exact f1
  have f4 : ∀ q, q < Q → A 28 q = encW (F q) := by rw [hF]; exact f4
  obtain ⟨ws, hws⟩ : ∃ ws, ws = sumO (scB c a T W Q) (tgB c a Q T S) bl0 P (opW a) Q 0 0 10 := ⟨_, rfl⟩
  obtain ⟨bs, hbs⟩ : ∃ bs, bs = sumB (scB c a T W Q) (tgB c a Q T S) bl0 P (brkO a T W Q S) Q 0 0 10 := ⟨_, rfl⟩
  have hwR : ws = sumR (fun q => opW a q (F q)) 0 Q := by rw [hws, sumO_R, hF]
  obtain ⟨l, hl⟩ : ∃ l, l = [kI ws, nI bs] ++ (List.range Q).map (fun q => encW (F q)) := ⟨_, rfl⟩
  have ll : l.length ≤ 12 := by rw [hl, List.length_append, List.length_map, List.length_range]; show 2 + Q ≤ 12; omega
  -- what the class tells
  have mv : ∀ l', vw P Q T W S (xT A l') a := fun l' => vw_s hv (sx_trans sx_t (frX_s fA))
  have ms : ∀ l', sameX (xT A l') a := fun l' => sx_trans sx_t (frX_s fA)
  have m28 : ∀ l' q, q < Q → xT A l' 28 q = encW (F q) := fun l' q hq => (congrFun (xT_q (by decide)) q).trans (f4 q hq)
  have k1 : W_worthOf (xT A []) b = okI (kI ws) (xT A []) b := by
    rw [hwR]
    exact x_worthF (P := P) (a := a) g2 g1 (mv []).2.1.2.1.1 (ms [] 5 (by decide) (by decide)) (m28 []) (fun q w hq e => by
      rw [hF] at e
      exact (filO_u Q 0 0 10 q w e).1)
  have k2 : W_timesBroken (xT A [kI ws]) b = okI (nI bs) (xT A [kI ws]) b := by
    have := x_times (c := c) (b := b) (mv [kI ws]) (ms _) Q 0 0 10 0 (Nat.zero_add _) (.inl rfl) (fun q _ hq => by rw [m28 _ q hq, hF])
    rw [q_W_timesBroken]
    rw [Nat.zero_add, ← hbs] at this
    exact this
  -- the reference's side
  have vc := vwA (l := l) hv fA
  have v0c := v0A (l := l) h0 fA
  obtain ⟨C, hC⟩ : ∃ C, C = zup (zup (xT A l) 194 0 0) 194 45 x1 := ⟨_, rfl⟩
  have vC : vw P Q T W S a C := by rw [hC]; exact vw_u vc (.inr ⟨rfl, by unfold kf; omega⟩)
  have v0C : v0 C := by rw [hC]; exact v0_u v0c (.inr (by decide))
  have gC : PGo c P Q T W S a (askM C P Q T W S a) := by
    refine ⟨⟨vw_c vC (fun j _ => by rw [askM_q (by decide)]) (fun q h1 h2 => askM_q (by omega)), ?_, ?_⟩, fun w hw => ?_⟩
    · unfold v0
      rw [askM_q (by decide)]
      exact v0C
    · rw [askM_q (by decide), hC, zup_eq, kc]
    · rw [askM_with hw, v0C.2]
  obtain ⟨B, d1, d2, d3⟩ := p_table (b := b) hc gC
  have gB : PGo c P Q T W S a B := PGo_f gC (fun q h1 _ => d2 q h1)
  obtain ⟨K, u', x', y1, y2, -, y4⟩ := p_all (b := b) (V := kI V) hc gB d3 Q 0 0 10 B 0 0 (Nat.zero_add _) (Nat.two_pow_pos P) (.inl rfl) (fun _ _ => rfl) (-1) ⟨by decide, ⟨fun _ => rfl, fun _ => by decide⟩, fun z => absurd rfl z⟩
  rw [Int.zero_add, Nat.zero_add, ← hws, ← hbs] at y1
  have gK : PGo c P Q T W S a K := PGo_f gB (fun q _ h2 => y2 q h2)
  have fK : frM K C := ⟨fun q h1 h2 => by rw [y2 q (by omega), d2 q (by omega), askM_q (by omega)], fun j _ => by rw [y2 194 (by decide), d2 194 (by decide), askM_q (by decide)]⟩
  have hK : ∀ q, q < Q → K 220 q = encW (F q) := fun q hq => by rw [y4 q (Nat.zero_le _) hq, hF]
  have tX := x_tellF (A := A) (b := b) (l := [kI ws, nI bs]) (g := fun q => encW (F q)) g2 (show 2 ≤ 20 by decide) ((congrFun (fA.1 2 (by decide) (by decide)) 1).trans q1) f4
  have tM := m_tellF (C := K) (b := b) (l := [kI ws, nI bs]) (g := fun q => encW (F q)) g2 (show 2 ≤ 20 by decide) gK.1.1.2.1.2.1.2 hK
  rw [← hl] at tX tM
  have T0 : B 217 (ixM 0 0 0) = kI V := by
    have := d3 0 (Nat.le_refl _) (Nat.zero_le _) 0 (Nat.two_pow_pos P) 10 (.inl rfl)
    rw [hV]
    exact this
  refine ⟨kI V, xT A l, b, mT K l, b, ?_, fun j => ?_, ?_, rel_tell (l := l) (a1 := xT A l) (rel_frX hall fA f5) (by omega) (xT_m A l) ?_⟩
  · rw [q_X_breaking, zcond_f c1, zcond_f c2, kc, show C_load (-2) (kI c) a b = okV a1 b from e1, zcV_ok, f1, zcI_ok, x_clear, zcV_ok, k1, zcI_ok, x_tell (l := []) (by decide), zcV_ok, show ([] : List Int32) ++ [kI ws] = [kI ws] from rfl, k2, zcI_ok, x_tell (l := [kI ws]) (show 1 < 32 by decide), zcV_ok, show [kI ws] ++ [nI bs] = [kI ws, nI bs] from rfl, tX, zcV_ok]
    exact okI_ret _ _ _
  · rw [xT_q (by decide), fA.1 0 (by decide) (by decide)]
  · have e127 : M_breaking_127 (kI V) u' x' (kI ws) (nI bs) (nI Q) K b = okI (kI V) (mT K l) b := by
      rw [q_M_breaking_127, gK.1.1.2.1.2.1.2, zcond_f (nI_nlt (Nat.le_refl _) (by omega)), mT_0, m_ent (l := []) (by decide), zcV_ok, show ([] : List Int32) ++ [kI ws] = [kI ws] from rfl, m_ent (l := [kI ws]) (show 1 < 40 by decide), zcV_ok, show [kI ws] ++ [nI bs] = [kI ws, nI bs] from rfl, tM, zcV_ok]
      exact okI_ret _ _ _
    have e127' : M_breaking_127 (kI V) 0 (-1) 0 0 0 B b = okI (kI V) (mT K l) b := y1.trans e127
    rw [q_M_breaking, hin, if_neg c1, if_neg c2, zcI_ok, zcond_f (by decide), ← hC, m_asks vC, zcV_ok, d1, q_M_breaking_85, zcond_t (show nI 0 - 1 < 0 by decide), show M_indexOf 0 0 (-1) B b = okI (nI (ixM 0 0 0)) B b from m_index (p := 0) (u := 0) (i := 0) (by decide) (by decide) (by decide) (by decide), zcI_ok, zin_nI (n := 123904) (by decide) (by decide), cond_true, show (nI (ixM 0 0 0)).toNatClampNeg = ixM 0 0 0 from nI_clamp (by decide), T0]
    exact e127'
  · rw [mT_m, frM_m fK, hC, zmask_f rfl, zmask_f rfl]
