/-! free, worth. -/
theorem rKnown_c {a a' : zA} (h : rKnown (a 27) (a 33)) (e : a' 27 = a 27) (f : a' 33 = a 33) : rKnown (a' 27) (a' 33) := by
  rw [e, f]
  exact h
/-- the worth freed and not freed, by both -/
theorem m_more {P Q T W S : Nat} {a c : zA} {b : zB} {F : Int32} (hv : vw P Q T W S a c) (h0 : v0 c) : ∃ c', M_moreIf F c b = okI (kI (bstV F a P Q T W S - bstV 0 a P Q T W S)) c' b ∧ frM c' c := by
  obtain ⟨c1, e1, e2, -⟩ := m_bests (b := b) hv h0.1
  rw [h0.2] at e1
  have hv2 : vw P Q T W S a (zup c1 194 38 F) := vw_u (frM_v e2 hv) (.inr ⟨rfl, by unfold kf; omega⟩)
  obtain ⟨c2, f1, f2, -⟩ := m_bests (b := b) hv2 ((zup_nj (by decide)).trans ((e2.2 37 (by decide)).trans h0.1))
  rw [zup_eq] at f1
  refine ⟨zup c2 194 38 0, ?_, fun q h1 h2 => ?_, fun j hj => ?_⟩
  · rw [q_M_moreIf, e1, zcI_ok, f1, zcI_ok, kI_sub]
    exact okI_ret _ _ _
  · rw [zup_row h1, f2.1 q h1 h2, zup_row h1, e2.1 q h1 h2]
  · by_cases c3 : j = 38
    · rw [c3, zup_eq, h0.2]
    · rw [zup_nj c3, f2.2 j hj, zup_nj c3, e2.2 j hj]
theorem bstV_s {F : Int32} {a a' : zA} (h : sameX a' a) : bstV F a' = bstV F a := by
  unfold bstV scN tgN
  rw [scP_s h, tgP_s h]
theorem v0_fr {c c' : zA} (h : v0 c) (f : frM c' c) : v0 c' := ⟨(f.2 37 (by decide)).trans h.1, (f.2 38 (by decide)).trans h.2⟩
theorem vwB {P Q T W S : Nat} {a A : zA} (hv : vw P Q T W S a a) (f : frX A a) : vw P Q T W S a (zup A 194 0 0) := vw_c hv (fun j hj => (zup_nj (by rintro rfl; exact kf_0 hj)).trans (congrFun (f.1 194 (by decide) (by decide)) j)) (fun q h1 h2 => (zup_row (by omega)).trans (f.1 q (by omega) (by omega)))
theorem v0B {a A : zA} (h0 : v0 a) (f : frX A a) : v0 (zup A 194 0 0) := v0_u ⟨(congrFun (f.1 194 (by decide) (by decide)) 37).trans h0.1, (congrFun (f.1 194 (by decide) (by decide)) 38).trans h0.2⟩ (.inr (by decide))
theorem r_free {L : Nat} {xs : Nat → Int32} (x1 : Int32) : zAns (Rel L xs) (X_free x1) (M_free x1) := by
  intro a b hr
  obtain ⟨P, Q, T, G, N, hall⟩ := id hr
  obtain ⟨W, S, hv⟩ := vw_mask hall
  have h0 := v0_of hall
  obtain ⟨⟨g1, g2, g3, g4, g5⟩, ⟨⟨p1, p2⟩, ⟨q1, q2⟩, ⟨t1, t2⟩, -⟩, -⟩ := id hv
  have go : ∀ F, frz P x1 F → (∀ A, A 2 = a 2 → X_free x1 A b = X_free_18 x1 A b) → (∀ A, A 194 3 = nI P → M_free x1 A b = M_free_34 F (zup A 194 0 0) b) → ∃ v a1 b1 a2 b2, X_free x1 a b = okI v a1 b1 ∧ (∀ j, a1 0 j = a 0 j) ∧ M_free x1 a1 b1 = okI v a2 b2 ∧ Rel L xs a2 b2 := by
    intro F hf hX hM
    obtain ⟨A1, e1, e2, e3⟩ := x_bestW (b := b) hv hf (known_of hall)
    have hv1 := vw_s hv (frX_s e2)
    obtain ⟨A2, f1, f2, f3⟩ := x_bestW (b := b) hv1 (frz_n g1) e3
    rw [bstV_s (frX_s e2)] at f1
    have e4 := frX_t f2 e2
    obtain ⟨c', y1, y2⟩ := m_more (b := b) (F := F) (vwB hv e4) (v0B h0 e4)
    refine ⟨kI (bstV F a P Q T W S - bstV 0 a P Q T W S), A2, b, c', b, ?_, fun j => congrFun (e4.1 0 (by decide) (by decide)) j, ?_, P, Q, T, G, N, ?_⟩
    · rw [hX a rfl, q_X_free_18, e1, zcI_ok, f1, zcI_ok, kI_sub]
      exact okI_ret _ _ _
    · rw [hM A2 ((congrFun (e4.1 194 (by decide) (by decide)) 3).trans p2), q_M_free_34, y1, zcI_ok]
      exact okI_ret _ _ _
    · rw [frM_m y2, zmask_f rfl]
      exact rel_frX hall e4 f3
  by_cases c1 : x1 = -1
  · subst c1
    refine go 1023 (frz_a g1) (fun A _ => ?_) (fun A _ => ?_)
    · rw [q_X_free, zcond_t rfl]
    · rw [q_M_free, zcond_t rfl, q_M_free_20, zcond_t (by decide)]
  · by_cases c2 : ¬ x1 < 0 ∧ x1 < nI P
    · obtain ⟨w, hw, -, rfl⟩ := s_idx c2
      refine go _ (frz_w g1 hw) (fun A hA => ?_) (fun A hA => ?_)
      · rw [q_X_free, zcond_f c1, hp_t (show A 2 0 = nI P by rw [hA]; exact p1) c2, zcI_ok, zcond_f (by decide)]
      · rw [q_M_free, zcond_f c1, ip_t (show zup A 194 0 0 194 3 = nI P from (zup_nj (by decide)).trans hA) (by omega) c2, zcI_ok, zcond_f (by decide), q_M_free_20, zcond_f c2.1]
    · refine ans_thr hr (-1) ?_ ?_
      · rw [q_X_free, zcond_f c1, hp_f p1 c2, zcI_ok, zcond_t rfl]
        exact okI_ret _ _ _
      · rw [q_M_free, zcond_f c1, ip_f (show zup a 194 0 0 194 3 = nI P from (zup_nj (by decide)).trans p2) (by omega) c2, zcI_ok, zcond_t rfl]
        exact okI_ret _ _ _
theorem bstV_b (F : Int32) (a : zA) {P Q T W S : Nat} (hQ : Q ≤ 10) : 0 ≤ bstV F a P Q T W S ∧ bstV F a P Q T W S ≤ 200000 := by
  have := opV_0 (opB_P (pr := none) (fun c h => absurd h (by simp)) F a T W Q S) (P := P) Q 0 0 10
  unfold bstV scN tgN bl0
  omega
theorem r_worth {L : Nat} {xs : Nat → Int32} : zAns (Rel L xs) X_worth M_worth := by
  intro a b hr
  obtain ⟨P, Q, T, G, N, hall⟩ := id hr
  obtain ⟨W, S, hv⟩ := vw_mask hall
  have h0 := v0_of hall
  obtain ⟨⟨g1, g2, g3, g4, g5⟩, ⟨⟨p1, p2⟩, ⟨q1, q2⟩, ⟨t1, t2⟩, -⟩, -⟩ := id hv
  by_cases c1 : P = 0
  · subst c1
    refine ans_thr hr (-2) ?_ ?_
    · rw [q_X_worth, p1, zcond_t (show nI 0 = 0 from rfl)]
      exact okI_ret _ _ _
    · rw [q_M_worth, q_M_worth_12, show zup a 194 0 0 194 3 = nI 0 from (zup_nj (by decide)).trans p2, zcond_f (show ¬ (0 : Int32) < nI 0 by decide), zcond_t (by decide), q_M_worth_64]
      exact okI_ret _ _ _
  · obtain ⟨V, hV⟩ : ∃ V : Nat → Int, V = fun w => bstV (1 <<< (nI w &&& 31)) a P Q T W S := ⟨_, rfl⟩
    have vb : ∀ w, 0 ≤ V w ∧ V w ≤ 200000 := fun w => by rw [hV]; exact bstV_b _ a g2
    have v0b := bstV_b 0 a (P := P) (T := T) (W := W) (S := S) g2
    -- who has the greatest: the first
    have loop : ∀ i, i ≤ P → 1 ≤ i → ∃ o A, o < i ∧ frX A a ∧ rKnown (A 27) (A 33) ∧ X_worth_19 (-1) 0 0 a b = X_worth_19 (kI (V o)) (nI o) (nI i) A b ∧ ∀ c, vw P Q T W S a c → v0 c → ∃ c', frM c' c ∧ M_worth_12 (-2) 0 0 c b = M_worth_12 (nI o) (kI (V o - bstV 0 a P Q T W S)) (nI i) c' b := by
      intro i
      induction i with
      | zero => intro _ h; exact absurd h (by omega)
      | succ i ih =>
        intro hi _
        have stepX : ∀ (A : zA) (v1 v2 : Int32), frX A a → rKnown (A 27) (A 33) → ∃ A', frX A' a ∧ rKnown (A' 27) (A' 33) ∧ X_worth_19 v1 v2 (nI i) A b = cond (decide (v1 < kI (V i))) (X_worth_19 (kI (V i)) (nI i) (nI (i + 1)) A' b) (X_worth_19 v1 v2 (nI (i + 1)) A' b) := by
          intro A v1 v2 f1 f2
          obtain ⟨A', e1, e2, e3⟩ := x_bestW (b := b) (vw_s hv (frX_s f1)) (frz_w g1 (show i < P by omega)) f2
          rw [bstV_s (frX_s f1)] at e1
          refine ⟨A', frX_t e2 f1, e3, ?_⟩
          rw [q_X_worth_19, f1.1 2 (by decide) (by decide), p1, zcond_t (nI_lt (by omega) (by omega)), e1, zcI_ok, q_X_worth_48, q_X_worth_48, nI_1, hV]
        have stepM : ∀ (c : zA) (v1 v2 : Int32), vw P Q T W S a c → v0 c → ∃ c', frM c' c ∧ M_worth_12 v1 v2 (nI i) c b = cond (decide (v1 < 0)) (M_worth_12 (nI i) (kI (V i - bstV 0 a P Q T W S)) (nI (i + 1)) c' b) (cond (decide (v2 < kI (V i - bstV 0 a P Q T W S))) (M_worth_12 (nI i) (kI (V i - bstV 0 a P Q T W S)) (nI (i + 1)) c' b) (M_worth_12 v1 v2 (nI (i + 1)) c' b)) := by
          intro c v1 v2 hc hc0
          obtain ⟨c', e1, e2⟩ := m_more (b := b) (F := 1 <<< (nI i &&& 31)) hc hc0
          refine ⟨c', e2, ?_⟩
          rw [q_M_worth_12, hc.2.1.1.2, zcond_t (nI_lt (by omega) (by omega)), e1, zcI_ok, q_M_worth_39, q_M_worth_44, q_M_worth_44, nI_1, hV]
        by_cases c2 : i = 0
        · subst c2
          obtain ⟨A', f1, f2, f3⟩ := stepX a (-1) 0 (frX_r a) (known_of hall)
          refine ⟨0, A', by omega, f1, f2, ?_, fun c hc hc0 => ?_⟩
          · refine f3.trans ?_
            rw [zcond_t (show (-1 : Int32) < kI (V 0) from (show kI (-1) = -1 from by decide) ▸ (kI_lt (x := -1) (y := V 0) (by decide) (by decide) (by have := vb 0; omega) (by have := vb 0; omega)).mpr (by have := vb 0; omega))]
          · obtain ⟨c', y1, y2⟩ := stepM c (-2) 0 hc hc0
            exact ⟨c', y1, y2.trans (by rw [zcond_t (by decide)])⟩
        · obtain ⟨o, A, h1, h2, h3, h4, h5⟩ := ih (by omega) (by omega)
          obtain ⟨A', f1, f2, f3⟩ := stepX A (kI (V o)) (nI o) h2 h3
          have bo := vb o
          have bi := vb i
          by_cases c3 : V o < V i
          · refine ⟨i, A', by omega, f1, f2, ?_, fun c hc hc0 => ?_⟩
            · rw [h4, f3, zcond_t ((kI_lt (by omega) (by omega) (by omega) (by omega)).mpr c3)]
            · obtain ⟨c', y1, y2⟩ := h5 c hc hc0
              obtain ⟨c'', y3, y4⟩ := stepM c' (nI o) (kI (V o - bstV 0 a P Q T W S)) (frM_v y1 hc) (v0_fr hc0 y1)
              refine ⟨c'', frM_t y3 y1, ?_⟩
              rw [y2, y4, zcond_f (nI_pos (by omega)), zcond_t ((kI_lt (by omega) (by omega) (by omega) (by omega)).mpr (by omega))]
          · refine ⟨o, A', by omega, f1, f2, ?_, fun c hc hc0 => ?_⟩
            · rw [h4, f3, zcond_f (fun z => c3 ((kI_lt (by omega) (by omega) (by omega) (by omega)).mp z))]
            · obtain ⟨c', y1, y2⟩ := h5 c hc hc0
              obtain ⟨c'', y3, y4⟩ := stepM c' (nI o) (kI (V o - bstV 0 a P Q T W S)) (frM_v y1 hc) (v0_fr hc0 y1)
              refine ⟨c'', frM_t y3 y1, ?_⟩
              rw [y2, y4, zcond_f (nI_pos (by omega)), zcond_f (fun z => c3 (by have := (kI_lt (by omega) (by omega) (by omega) (by omega)).mp z; omega))]
    obtain ⟨o, A, h1, h2, h3, h4, h5⟩ := loop P (Nat.le_refl P) (by omega)
    -- the last search runs behind the row's clearing
    have h2' : sameX (xT A []) a := sx_trans sx_t (frX_s h2)
    obtain ⟨B, e1, e2, e3⟩ := x_bestW (a := xT A []) (b := b) (vw_s hv h2') (frz_n g1) (rKnown_c h3 (xT_q (by decide)) (xT_q (by decide)))
    rw [bstV_s h2'] at e1
    obtain ⟨d, hd⟩ : ∃ d, d = kI (V o - bstV 0 a P Q T W S) := ⟨_, rfl⟩
    -- B is a told memory over another
    obtain ⟨B0, hB0⟩ : ∃ B0 : zA, B0 = fun q => if q = 1 ∨ q = 171 then A q else B q := ⟨_, rfl⟩
    have fB0 : frX B0 a := ⟨fun q k1 k2 => by
      rw [hB0]
      show (if q = 1 ∨ q = 171 then A q else B q) = a q
      by_cases c : q = 1 ∨ q = 171
      · rw [if_pos c]; exact h2.1 q k1 k2
      · rw [if_neg c, e2.1 q k1 k2, xT_q (by omega)]; exact h2.1 q k1 k2, fun j hj => by
      rw [hB0]
      show B 27 j = a 27 j
      rw [e2.2 j hj, xT_q (by decide)]; exact h2.2 j hj⟩
    have eB : B = xT B0 [] := by
      funext q j
      show B q j = zup B0 1 12 0 q j
      by_cases c : q = 1 ∨ q = 171
      · have e9 : B q j = xT A [] q j := congrFun (e2.1 q (by omega) (by omega)) j
        rw [e9]
        show zup A 1 12 0 q j = zup B0 1 12 0 q j
        unfold zup
        by_cases c2 : q = 1 ∧ j = 12
        · rw [if_pos c2, if_pos c2]
        · rw [if_neg c2, if_neg c2, hB0]
          show A q j = (if q = 1 ∨ q = 171 then A q else B q) j
          rw [if_pos c]
      · rw [zup_ne (by omega), hB0]
        show B q j = (if q = 1 ∨ q = 171 then A q else B q) j
        rw [if_neg c]
    have kB0 : rKnown (B0 27) (B0 33) := by rw [hB0]; exact e3
    have vc := vwA (l := [d]) hv fB0
    have v0c := v0A (l := [d]) h0 fB0
    obtain ⟨c', y1, y2⟩ := h5 _ vc v0c
    refine ⟨nI o, xT B0 [d], b, mT c' [d], b, ?_, fun j => ?_, ?_, rel_tell (l := [d]) (a1 := xT B0 [d]) (rel_frX hall fB0 kB0) (Nat.le_of_ble_eq_true rfl) (xT_m B0 _) ?_⟩
    · rw [q_X_worth, p1, zcond_f (show ¬ nI P = 0 from fun z => c1 ((nI_eq (by omega) (by decide)).mp (show nI P = nI 0 from z))), h4, q_X_worth_19, h2.1 2 (by decide) (by decide), p1, zcond_f (nI_nlt (Nat.le_refl _) (by omega)), x_clear, zcV_ok, e1, zcI_ok, kI_sub, ← hd, eB, x_t0, zcV_ok]
      exact okI_ret _ _ _
    · rw [xT_q (by decide), fB0.1 0 (by decide) (by decide)]
    · rw [q_M_worth, y2, q_M_worth_12, (frM_v y1 vc).2.1.1.2, zcond_f (nI_nlt (Nat.le_refl _) (by omega)), zcond_f (nI_pos (by omega)), mT_0, ← hd, m_e0, zcV_ok, q_M_worth_64]
      exact okI_ret _ _ _
    · rw [mT_m, frM_m y1, zmask_f rfl]
