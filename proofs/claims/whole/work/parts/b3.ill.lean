/-! The call ill. -/
theorem r_ill {L : Nat} {xs : Nat → Int32} (x1 : Int32) : zAns (Rel L xs) (X_ill x1) (M_ill x1) := by
  intro a b hr
  obtain ⟨P, Q, T, G, N, hall⟩ := id hr
  obtain ⟨W, S, hv⟩ := vw_mask hall
  have h0 := v0_of hall
  obtain ⟨⟨g1, g2, g3, g4, g5⟩, ⟨⟨p1, p2⟩, ⟨q1, q2⟩, ⟨t1, t2⟩, -⟩, -⟩ := id hv
  by_cases c1 : ¬ x1 < 0 ∧ x1 < nI P
  · obtain ⟨i, hi, -, rfl⟩ := s_idx c1
    have hpr : prOk none := fun c h => absurd h (by simp)
    obtain ⟨a1, e1, e2, e3⟩ := x_load (b := b) hv (frz_n g1) hpr
    obtain ⟨a2, d1, d2, d3⟩ := x_pref (b := b) hv hi e2 e3
    have k2 : rKnown (a2 27) (a2 33) := rKnown_c (known_of hall) (d2 27 (by omega)) (d2 33 (by omega))
    obtain ⟨A, f1, f2, f3, f4, f5⟩ := x_choose (b := b) (opB_I i a T W Q S) g1 g2 d3 k2
    have fA : frX A a := ⟨fun q h1 h2 => by rw [f2 q h1 (by omega) (by omega) (by omega), d2 q (by omega)], fun j hj => by rw [f3 j hj, d2 27 (by omega)]⟩
    obtain ⟨V, hV⟩ : ∃ V, V = illV i a P Q T W S := ⟨_, rfl⟩
    obtain ⟨n1, n2, n3, n4⟩ := ill_cnt i a (P := P) (T := T) (W := W) (S := S) g2
    have vb : 0 ≤ V ∧ V ≤ 16161 * Q := by rw [hV]; exact opV_0 (opB_I i a T W Q S) Q 0 0 10
    rw [← hV] at n1 n2 n3
    obtain ⟨v, hv0⟩ : ∃ v : Nat, (v : Int) = V := ⟨V.toNat, by omega⟩
    obtain ⟨D, hD⟩ : ∃ D, D = cnt (illD i a P Q T W S) Q := ⟨_, rfl⟩
    rw [← hD] at n1 n3 n4
    have kV : kI V = nI v := by rw [← hv0, kI_n]
    have kV2 : nI v / 16 = nI (v / 16) := pk_div (d := 16) (by omega) (by decide) (by decide)
    have kV3 : nI v - nI v / 16 * 16 = nI (v % 16) := pk_rem (d := 16) (by omega) (by decide) (by decide)
    have kV4 : kI (V / 16) = nI (v / 16) := by rw [← hv0, show ((v : Nat) : Int) / 16 = ((v / 16 : Nat) : Int) from rfl, kI_n]
    have kV5 : nI Q - nI (v % 16) = nI D := by rw [show nI Q - nI (v % 16) = nI (Q - v % 16) from pk_sub (by omega), show Q - v % 16 = D by omega]
    obtain ⟨l, hl⟩ : ∃ l, l = [nI (v / 16)] ++ (List.range Q).map (fun q => encW (illF i a P Q T W S q)) := ⟨_, rfl⟩
    have ll : l.length ≤ 11 := by rw [hl, List.length_append, List.length_map, List.length_range]; show 1 + Q ≤ 11; omega
    have vc := vwA (l := l) hv fA
    have v0c := v0A (l := l) h0 fA
    obtain ⟨C, hC⟩ : ∃ C, C = zup (zup (xT A l) 194 0 0) 194 37 (nI i) := ⟨_, rfl⟩
    have vC : vw P Q T W S a C := by rw [hC]; exact vw_u vc (.inr ⟨rfl, by unfold kf; omega⟩)
    obtain ⟨c', y1, y2, y3⟩ := m_bests1 (b := b) (i := i) vC (by rw [hC]; exact zup_eq _ _ _ _) hi (by rw [hC]; exact (zup_nj (by decide)).trans v0c.2)
    rw [← hV, kV4] at y1
    obtain ⟨K, hK⟩ : ∃ K, K = zup c' 194 37 (-1) := ⟨_, rfl⟩
    have fK : frM K (zup (xT A l) 194 0 0) := ⟨fun q h1 h2 => by rw [hK, zup_row h1, y2.1 q h1 h2, hC, zup_row h1], fun j hj => by
      rw [hK]
      by_cases c : j = 37
      · rw [c, zup_eq, v0c.1]
      · rw [zup_nj c, y2.2 j hj, hC, zup_nj c]⟩
    have vK := frM_v fK vc
    have hK3 : ∀ q, q < Q → K 220 q = encW (illF i a P Q T W S q) := fun q hq => by rw [hK, zup_row (by decide)]; exact y3 q hq
    have tX := x_tellF (A := A) (b := b) (l := [nI (v / 16)]) (g := fun q => encW (illF i a P Q T W S q)) g2 (show 1 ≤ 20 by decide) ((congrFun (fA.1 2 (by decide) (by decide)) 1).trans q1) f4
    have tM := m_tellF (C := K) (b := b) (l := [nI (v / 16)]) (g := fun q => encW (illF i a P Q T W S q)) g2 (show 1 ≤ 20 by decide) vK.2.1.2.1.2 hK3
    rw [← hl] at tX tM
    refine ⟨nI D, xT A l, b, mT K l, b, ?_, fun j => ?_, ?_, rel_tell (l := l) (a1 := xT A l) (rel_frX hall fA f5) (by omega) (xT_m A l) ?_⟩
    · rw [q_X_ill, hp_t p1 c1, zcI_ok, zcond_f (by decide), show C_load (-2) (-1) a b = okV a1 b from e1, zcV_ok, d1, zcV_ok, f1, zcI_ok, x_clear, zcV_ok, zcond_f (by decide), show opV (scI i a T W Q) (tgN 0 a Q T S) (blI a T) P Q 0 0 10 = V from hV.symm, kV, kV2, x_tell (l := []) (by decide), zcV_ok, show ([] : List Int32) ++ [nI (v / 16)] = [nI (v / 16)] from rfl, tX, zcV_ok, zcond_f (by decide), ← kV2, kV3, congrFun (xT_q (a := A) (l := l) (q := 2) (by decide)) 1, congrFun (fA.1 2 (by decide) (by decide)) 1, q1, kV5]
      exact okI_ret _ _ _
    · rw [xT_q (by decide), fA.1 0 (by decide) (by decide)]
    · have p3 : zup (xT A l) 194 0 0 194 3 = nI P := vc.2.1.1.2
      rw [q_M_ill, ip_t p3 (by omega) c1, zcI_ok, zcond_f (by decide), ← hC, y1, zcI_ok, ← hK]
      have hs : ∀ x j, 0 ≤ j → j < Q → M_ill_36 (nI (v / 16)) x (nI j) K b = M_ill_36 (nI (v / 16)) (x + bI (illD i a P Q T W S j)) (nI (j + 1)) K b := by
        intro x j _ hj
        have k69 : ∀ d : Bool, M_ill_69 (nI (v / 16)) (nI j) x (bI d) K b = M_ill_36 (nI (v / 16)) (x + bI d) (nI (j + 1)) K b := fun d => by
          rw [q_M_ill_69, m_flag, zcI_ok, nI_1]
        have e206 : K 206 (630 + j) = xE a T j := (vK.2.2.2.1.2.1 j hj).symm
        rw [q_M_ill_36, vK.2.1.2.1.2, zcond_t (nI_lt hj (by omega)), zin_nI (n := 10) (by omega) (by decide), cond_true, show (63 : Int32) = nI 63 from rfl, s_on (by omega), zcI_ok, show 10 * 63 + j = 630 + j by omega, e206, show (nI j).toNatClampNeg = j from nI_clamp (by omega), hK3 j hj]
        unfold illD
        by_cases cc : encW (illF i a P Q T W S j) = xE a T j
        · rw [zcond_t cc, decide_eq_true cc]
          exact k69 false
        · rw [zcond_f cc, decide_eq_false cc]
          exact k69 true
      refine (lpF (F := fun x j => M_ill_36 (nI (v / 16)) x (nI j) K b) hs (K := fun x => okI x (mT K l) b) (fun x => ?_) Q 0 0 (Nat.le_refl _) (Nat.zero_add _)).trans ?_
      · show M_ill_36 (nI (v / 16)) x (nI Q) K b = _
        rw [q_M_ill_36, vK.2.1.2.1.2, zcond_f (nI_nlt (Nat.le_refl _) (by omega)), mT_0, m_ent (l := []) (by decide), zcV_ok, show ([] : List Int32) ++ [nI (v / 16)] = [nI (v / 16)] from rfl, tM, zcV_ok]
        exact okI_ret _ _ _
      · show okI (fF (fun j x => x + bI (illD i a P Q T W S j)) 0 Q (nI 0)) (mT K l) b = _
        rw [fF_cnt, Nat.zero_add, hD]
    · rw [mT_m, frM_m fK, zmask_f rfl]
  · refine ans_thr hr (-1) ?_ ?_
    · rw [q_X_ill, hp_f p1 c1, zcI_ok, zcond_t rfl]
      exact okI_ret _ _ _
    · rw [q_M_ill, ip_f (show zup a 194 0 0 194 3 = nI P from (zup_nj (by decide)).trans p2) (by omega) c1, zcI_ok, zcond_t rfl]
      exact okI_ret _ _ _
