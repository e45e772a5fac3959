/-! ill. -/
theorem encO_bar {s : Int} (h : 0 ≤ s) (h2 : s ≤ 100000) : ¬ kI s = -1000000 := fun z => by
  rw [← kI_bar] at z
  have := (kI_eq (by omega) (by omega) (by decide) (by decide)).mp z
  omega
theorem x_pref {P Q T W S i : Nat} {a a1 c : zA} {b : zB} (hv : vw P Q T W S a c) (hi : i < P) (f : ∀ q, ¬ (29 ≤ q ∧ q ≤ 31) → a1 q = a q) (h : SL (scN 0 a T W Q) (tgN 0 a Q T S) (fun _ => 0) P Q a1) : ∃ a2, C_preferDraft (nI i) a1 b = okV a2 b ∧ (∀ q, ¬ (29 ≤ q ∧ q ≤ 31) → a2 q = a q) ∧ SL (scI i a T W Q) (tgN 0 a Q T S) (blI a T) P Q a2 := by
  obtain ⟨g1, g2, g3, g4, g5⟩ := hv.1
  obtain ⟨p1, q1, hs, ht, -⟩ := h
  have hR := vw_row hv T (Nat.le_refl T)
  have t1 : a 12 6 = nI T := hv.2.1.2.2.1.1
  have post : ∀ p, p < Q → ∀ A : zA, (∀ q, q ≠ 29 → q ≠ 31 → A q = a1 q) → (∀ w, w < P → A 29 (10 * p + w) = a1 29 (10 * p + w)) → ∃ A', C_preferDraft_2 (nI i) (nI p) A b = C_preferDraft_2 (nI i) (nI (p + 1)) A' b ∧ (∀ q, q ≠ 29 → q ≠ 31 → A' q = a1 q) ∧ (∀ j, ¬ (10 * p ≤ j ∧ j < 10 * p + 10) → A' 29 j = A 29 j) ∧ (∀ w, w < P → A' 29 (10 * p + w) = kI (encO (scI i a T W Q p w))) ∧ (∀ j, j ≠ p → A' 31 j = A 31 j) ∧ A' 31 p = kI (blI a T p) := by
    intro p hp A fA hA
    have a12 : A 12 6 = nI T := by rw [fA 12 (by decide) (by decide), f 12 (by decide)]; exact t1
    have e1 : S_onePlaced (nI T) (nI p) A b = okI (xE a T p) A b := by
      rw [s_onePlaced g3 (by omega), fA 13 (by decide) (by decide), f 13 (by decide)]
      rfl
    obtain ⟨B, hB0⟩ : ∃ B, B = zup A 31 p (kI (blI a T p)) := ⟨_, rfl⟩
    have hb : kI (blI a T p) = if xE a T p = -1 then 1 else 0 := by
      unfold blI likO
      by_cases cc : xE a T p = -1
      · rw [if_pos (show encW none = xE a T p from cc.symm), if_pos cc]; rfl
      · rw [if_neg (fun z : encW none = xE a T p => cc z.symm), if_neg cc]; rfl
    obtain ⟨g, hg⟩ : ∃ g : Nat → Int32, g = fun w => kI (encO (scI i a T W Q p w)) := ⟨_, rfl⟩
    have fB : ∀ n q, q ≠ 29 → q ≠ 31 → zfo B 29 (10 * p) n g q = a1 q := fun n q h1 h2 => by rw [zfo_q h1, hB0, zup_row h2]; exact fA q h1 h2
    have st : ∀ w, w < P → C_preferDraft_48 (nI i) (nI p) (xE a T p) (nI w) (zfo B 29 (10 * p) w g) b = C_preferDraft_48 (nI i) (nI p) (xE a T p) (nI (w + 1)) (zfo B 29 (10 * p) (w + 1) g) b := by
      intro w hw
      have i1 : nI p * 10 + nI w = nI (10 * p + w) := (s_mul p 10 w).trans (by rw [Nat.mul_comm])
      have old : zfo B 29 (10 * p) w g 29 (10 * p + w) = kI (encO (scN 0 a T W Q p w)) := by
        rw [zfo_o (by omega), hB0, zup_row (by decide), hA w hw]
        exact hs p w hp hw
      rw [q_C_preferDraft_48, fB w 2 (by decide) (by decide), p1, zcond_t (nI_lt hw (by omega)), i1, zin_nI (n := 100) (by omega) (by decide), cond_true, cond_true, cond_true, show (nI (10 * p + w)).toNatClampNeg = 10 * p + w from nI_clamp (by omega), old]
      have fin : ∀ m : zA, m = zup (zfo B 29 (10 * p) w g) 29 (10 * p + w) (g w) → C_preferDraft_128 (nI i) (nI p) (xE a T p) (nI w) m b = C_preferDraft_48 (nI i) (nI p) (xE a T p) (nI (w + 1)) (zfo B 29 (10 * p) (w + 1) g) b := fun m hm => by
        rw [hm, zfo_s, q_C_preferDraft_128, nI_1]
      by_cases c1 : w = i
      · have gw : g w = -1000000 := by
          rw [hg]
          show kI (encO (scI i a T W Q p w)) = _
          unfold scI
          rw [decide_eq_true c1]
          exact kI_bar
        rw [zcond_t (show nI w = nI i by rw [c1])]
        exact fin _ (by rw [gw])
      · rw [zcond_f (show ¬ nI w = nI i from fun z => c1 ((nI_eq (by omega) (by omega)).mp z))]
        cases hsc : scN 0 a T W Q p w with
        | none =>
          have gw : g w = -1000000 := by
            rw [hg]
            show kI (encO (scI i a T W Q p w)) = _
            unfold scI
            rw [decide_eq_false c1, hsc]
            exact kI_bar
          rw [zcond_t (show kI (encO none) = -1000000 from kI_bar)]
          exact fin _ (zup_self (by rw [old, hsc, gw]; exact kI_bar)).symm
        | some s =>
          have sv := scN_v hsc
          have sb := prz_b a p
          rw [zcond_f (show ¬ kI (encO (some s)) = -1000000 from encO_bar (s := s) (by omega) (by omega))]
          have gw : g w = kI s * 16 + kI (likO a T p (some w)) := by
            rw [hg]
            show kI (encO (scI i a T W Q p w)) = _
            unfold scI
            rw [decide_eq_false c1, hsc]
            show kI (16 * s + likO a T p (some w)) = _
            rw [← kI_add, Int.mul_comm 16 s, show kI (s * 16) = kI s * 16 from Int32.ofInt_mul s 16]
          have k126 : ∀ y : Int32, y = kI (likO a T p (some w)) → C_preferDraft_126 (nI i) (nI p) (xE a T p) (nI w) (nI (10 * p + w)) (kI (encO (some s)) * 16) y (zfo B 29 (10 * p) w g) b = C_preferDraft_48 (nI i) (nI p) (xE a T p) (nI (w + 1)) (zfo B 29 (10 * p) (w + 1) g) b := fun y hy => by
            rw [q_C_preferDraft_126, zin_nI (n := 100) (by omega) (by decide), cond_true, show (nI (10 * p + w)).toNatClampNeg = 10 * p + w from nI_clamp (by omega)]
            exact fin _ (by rw [gw, hy]; rfl)
          by_cases c2 : xE a T p = nI w
          · rw [zcond_t c2]
            refine k126 1 ?_
            unfold likO
            rw [if_pos (show encW (some w) = xE a T p from c2.symm)]
            rfl
          · rw [zcond_f c2]
            refine k126 0 ?_
            unfold likO
            rw [if_neg (fun z : encW (some w) = xE a T p => c2 z.symm)]
            rfl
    have e := lpC (F := fun w => C_preferDraft_48 (nI i) (nI p) (xE a T p) (nI w) (zfo B 29 (10 * p) w g) b) st P 0 (Nat.zero_add _)
    rw [zfo_0] at e
    have k44 : ∀ y, y = kI (blI a T p) → C_preferDraft_44 (nI i) (nI p) (xE a T p) (nI p) y A b = C_preferDraft_2 (nI i) (nI (p + 1)) (zfo B 29 (10 * p) P g) b := fun y hy => by
      rw [q_C_preferDraft_44, zin_nI (n := 10) (by omega) (by decide), cond_true, show (nI p).toNatClampNeg = p from nI_clamp (by omega), hy, ← hB0]
      refine Eq.trans e ?_
      rw [q_C_preferDraft_48, fB P 2 (by decide) (by decide), p1, zcond_f (nI_nlt (Nat.le_refl _) (by omega)), nI_1]
    refine ⟨zfo B 29 (10 * p) P g, ?_, fB P, fun j hj => ?_, fun w hw => ?_, fun j hj => ?_, ?_⟩
    · rw [q_C_preferDraft_2, fA 2 (by decide) (by decide), q1, zcond_t (nI_lt hp (by omega)), a12, e1, zcI_ok]
      by_cases cc : xE a T p = -1
      · rw [if_pos cc] at hb
        rw [zcond_t cc]
        exact k44 _ hb.symm
      · rw [if_neg cc] at hb
        rw [zcond_f cc]
        exact k44 _ hb.symm
    · rw [zfo_o (by omega), hB0, zup_ne (by decide)]
    · rw [zfo_j hw, hg]
    · rw [zfo_q (by decide), hB0, zup_nj hj]
    · rw [zfo_q (by decide), hB0, zup_eq]
  have posts : ∀ p, p ≤ Q → ∃ A, C_preferDraft (nI i) a1 b = C_preferDraft_2 (nI i) (nI p) A b ∧ (∀ q, q ≠ 29 → q ≠ 31 → A q = a1 q) ∧ (∀ p', p ≤ p' → ∀ w, w < P → A 29 (10 * p' + w) = a1 29 (10 * p' + w)) ∧ (∀ p', p' < p → ∀ w, w < P → A 29 (10 * p' + w) = kI (encO (scI i a T W Q p' w))) ∧ ∀ p', p' < p → A 31 p' = kI (blI a T p') := by
    intro p
    induction p with
    | zero => intro _; exact ⟨a1, q_C_preferDraft _ _ _, fun _ _ _ => rfl, fun _ _ _ _ => rfl, fun p' h => absurd h (by omega), fun p' h => absurd h (by omega)⟩
    | succ p ih =>
      intro hp
      obtain ⟨A, e1, e2, e3, e4, e5⟩ := ih (by omega)
      obtain ⟨A', f1, f2, f3, f4, f5, f6⟩ := post p (by omega) A e2 (e3 p (Nat.le_refl p))
      refine ⟨A', e1.trans f1, f2, fun p' h w hw => ?_, fun p' h w hw => ?_, fun p' h => ?_⟩
      · rw [f3 _ (by omega)]; exact e3 p' (by omega) w hw
      · by_cases c : p' = p
        · subst c; exact f4 w hw
        · rw [f3 _ (by omega)]; exact e4 p' (by omega) w hw
      · by_cases c : p' = p
        · subst c; exact f6
        · rw [f5 _ c]; exact e5 p' (by omega)
  obtain ⟨A, e1, e2, -, e4, e5⟩ := posts Q (Nat.le_refl Q)
  refine ⟨A, ?_, fun q hq => (e2 q (by omega) (by omega)).trans (f q hq), ?_, ?_, fun p w h1 h2 => e4 p h1 w h2, fun l w hl hw => ?_, e5⟩
  · rw [e1, q_C_preferDraft_2, e2 2 (by decide) (by decide), q1, zcond_f (nI_nlt (Nat.le_refl _) (by omega))]
    exact okV_ret _ _
  · rw [e2 2 (by decide) (by decide)]; exact p1
  · rw [e2 2 (by decide) (by decide)]; exact q1
  · rw [e2 30 (by decide) (by decide)]; exact ht l w hl hw
