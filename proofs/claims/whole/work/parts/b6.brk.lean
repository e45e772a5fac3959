/-! The cheapest breaking by both. -/
def sumB (sc tg : Nat → Nat → Option Int) (bl : Nat → Int) (P : Nat) (br : Nat → Nat → Option Nat → Nat) : Nat → Nat → Nat → Nat → Nat
  | 0, _, _, _ => 0
  | k + 1, p, u, l => br l p (chO sc tg bl P k p u l) + sumB sc tg bl P br k (p + 1) (usO u (chO sc tg bl P k p u l)) (laO (chO sc tg bl P k p u l))
theorem p_153 {c : Int} {P Q T W S k p u l : Nat} {x3 : Int32} {o : Option Nat} {a C : zA} {b : zB} {ws : Int} {bs : Nat} {V : Int32} (hc : 0 ≤ c ∧ c ≤ 5000) (hG : PGo c P Q T W S a C) (hp : p + (k + 1) = Q) (hu : u < 2 ^ P) (hl : l = 10 ∨ (l < P ∧ Nat.testBit u l = true)) (hx : X3 l x3) (ho : o = none ∨ ∃ w, w < P ∧ w ≠ l ∧ o = some w ∧ okA a T w p = true) (hT : TOk (scB c a T W Q) (tgB c a Q T S) bl0 P Q (fun _ v => v) p C) : M_breaking_153 V (nI u) x3 (kI ws) (nI bs) (nI p) (encW o) C b = cond (decide (chV c a P Q T W S k p u l o = opV (scB c a T W Q) (tgB c a Q T S) bl0 P (k + 1) p u l)) (M_breaking_127 V (nI (usO u o)) (encW o) (kI (ws + opW a p o)) (nI (bs + brkO a T W Q S l p o)) (nI (p + 1)) (zup C 220 p (encW o)) b) (M_breaking_139 V (nI u) x3 (kI ws) (nI bs) (nI p) (encW o + 1) C b) := by
  have hP := hG.1.1.1.1
  have hQ := hG.1.1.1.2.1
  have p2 : 2 ^ P ≤ 1024 := Nat.pow_le_pow_right (by decide) hP
  have hl2 : l = 10 ∨ l < P := by omega
  have ho2 : o = none ∨ ∃ w, w < P ∧ o = some w := by
    rcases ho with e | ⟨w, h1, _, e, _⟩
    · exact .inl e
    · exact .inr ⟨w, h1, e⟩
  have ho3 : o = none ∨ ∃ w, w < P ∧ w ≠ l ∧ o = some w := by
    rcases ho with e | ⟨w, h1, h2, e, _⟩
    · exact .inl e
    · exact .inr ⟨w, h1, h2, e⟩
  have able : M_isAble (nI p) (encW o) C b = okI 1 C b := by
    rcases ho with e | ⟨w, h1, _, e, h2⟩
    · rw [e, q_M_isAble, zcond_t (show encW none < 0 by decide), q_M_isAble_25, q_M_isAble_30]
      exact okI_ret _ _ _
    · rw [e, show M_isAble (nI p) (encW (some w)) C b = _ from pg_able hG (by omega) h1, h2]
      rfl
  have ai : aiM l ≤ 10 := by unfold aiM; split <;> omega
  have T0 := hT p (Nat.le_refl _) (by omega) u hu l hl
  rw [show Q - p = k + 1 by omega] at T0
  have T0 : C 217 (ixM p u (aiM l)) = kI (opV (scB c a T W Q) (tgB c a Q T S) bl0 P (k + 1) p u l) := T0
  have hT1 : TOk (scB c a T W Q) (tgB c a Q T S) bl0 P Q (fun _ v => v) (p + 1) C := fun r g1 g2 => hT r (by omega) g2
  have i0 := ixM_lt (p := p) (u := u) (i := aiM l) (by omega) (by omega) ai
  have b1 := chV_b hc a (P := P) (Q := Q) (T := T) (W := W) (S := S) (k := k) (p := p) (u := u) (l := l) (by omega) o
  have b2 := opV_bB hc a P Q T W S (k + 1) p u l
  have gE : PGo c P Q T W S a (zup C 220 p (encW o)) := PGo_f hG (fun q _ h2 => zup_row h2)
  have k192 : M_breaking_192 V (nI u) x3 (kI ws) (nI bs) (nI p) (encW o) C b = M_breaking_139 V (nI u) x3 (kI ws) (nI bs) (nI p) (encW o + 1) C b := by rw [q_M_breaking_192]
  rw [q_M_breaking_153, able, zcI_ok, zcond_f (by decide), pg_priced hc hG hp hu hl2 hx ho3 hT1, zcI_ok, m_index (by omega) (by omega) ai hx.1, zcI_ok, zin_nI (n := 123904) i0 (by decide), cond_true, show (nI (ixM p u (aiM l))).toNatClampNeg = ixM p u (aiM l) from nI_clamp (by omega), T0, k192, zin_nI (n := 10) (by omega) (by decide), cond_true, show (nI p).toNatClampNeg = p from nI_clamp (by omega), pg_worth gE (by omega) ho2, zcI_ok, pg_brk gE (by omega) hl2 hx ho3, zcI_ok]
  have e249 : ∀ s1, (nI u ||| s1) = nI (usO u o) → M_breaking_249 V (kI ws + kI (opW a p o)) (nI bs + nI (brkO a T W Q S l p o)) (nI p) (encW o) (nI u) s1 (zup C 220 p (encW o)) b = M_breaking_127 V (nI (usO u o)) (encW o) (kI (ws + opW a p o)) (nI (bs + brkO a T W Q S l p o)) (nI (p + 1)) (zup C 220 p (encW o)) b := fun s1 hs => by
    rw [q_M_breaking_249, hs, kI_add, nI_add, nI_1]
  have next : cond (decide (encW o < 0)) (M_breaking_249 V (kI ws + kI (opW a p o)) (nI bs + nI (brkO a T W Q S l p o)) (nI p) (encW o) (nI u) 0 (zup C 220 p (encW o)) b) (M_breaking_249 V (kI ws + kI (opW a p o)) (nI bs + nI (brkO a T W Q S l p o)) (nI p) (encW o) (nI u) (1 <<< (encW o &&& 31)) (zup C 220 p (encW o)) b) = M_breaking_127 V (nI (usO u o)) (encW o) (kI (ws + opW a p o)) (nI (bs + brkO a T W Q S l p o)) (nI (p + 1)) (zup C 220 p (encW o)) b := by
    rcases ho2 with e | ⟨w, hw, e⟩
    · rw [zcond_t (show encW o < 0 by rw [e]; decide)]
      exact e249 0 (by rw [e]; exact hB_ext fun i hi => by rw [hB_or, hB_zero, Bool.or_false]; rfl)
    · rw [zcond_f (show ¬ encW o < 0 by rw [e]; exact nI_pos (by omega))]
      exact e249 _ (by rw [e]; exact orB (by omega) (by omega))
  rw [next]
  by_cases cc : chV c a P Q T W S k p u l o = opV (scB c a T W Q) (tgB c a Q T S) bl0 P (k + 1) p u l
  · rw [decide_eq_true cc, zcond_t (by rw [cc])]
    rfl
  · rw [decide_eq_false cc, zcond_f (fun z => cc ((kI_eq (by omega) (by omega) (by omega) (by omega)).mp z))]
    rfl
theorem p_pick {c : Int} {P Q T W S k p u l : Nat} {x3 : Int32} {a C : zA} {b : zB} {ws : Int} {bs : Nat} {V : Int32} {o : Option Nat} (hc : 0 ≤ c ∧ c ≤ 5000) (hG : PGo c P Q T W S a C) (hp : p + (k + 1) = Q) (hu : u < 2 ^ P) (hl : l = 10 ∨ (l < P ∧ Nat.testBit u l = true)) (hx : X3 l x3) (hT : TOk (scB c a T W Q) (tgB c a Q T S) bl0 P Q (fun _ v => v) p C) (ho : o = chO (scB c a T W Q) (tgB c a Q T S) bl0 P k p u l) : M_breaking_127 V (nI u) x3 (kI ws) (nI bs) (nI p) C b = M_breaking_127 V (nI (usO u o)) (encW o) (kI (ws + opW a p o)) (nI (bs + brkO a T W Q S l p o)) (nI (p + 1)) (zup C 220 p (encW o)) b := by
  have hP := hG.1.1.1.1
  have hQ := hG.1.1.1.2.1
  have qC := hG.1.1.2.1.2.1.2
  have e0 : M_breaking_127 V (nI u) x3 (kI ws) (nI bs) (nI p) C b = M_breaking_139 V (nI u) x3 (kI ws) (nI bs) (nI p) (-1) C b := by
    rw [q_M_breaking_127, qC, zcond_t (nI_lt (by omega) (by omega))]
  have e1 : M_breaking_139 V (nI u) x3 (kI ws) (nI bs) (nI p) (-1) C b = _ := (q_M_breaking_139 _ _ _ _ _ _ _ _ _).trans ((zcond_t (show (-1 : Int32) < 0 by decide)).trans (p_153 (o := none) hc hG hp hu hl hx (.inl rfl) hT))
  rw [e0, e1, chV_n]
  unfold chO at ho
  by_cases c1 : bl0 p + opV (scB c a T W Q) (tgB c a Q T S) bl0 P k (p + 1) u 10 = opV (scB c a T W Q) (tgB c a Q T S) bl0 P (k + 1) p u l
  · rw [decide_eq_true c1] at ho ⊢
    rw [ho]
    rfl
  · rw [decide_eq_false c1, cond_false] at ho
    rw [decide_eq_false c1, cond_false]
    have step : ∀ w, w < P → M_breaking_139 V (nI u) x3 (kI ws) (nI bs) (nI p) (nI w) C b = cond (okW (scB c a T W Q) (tgB c a Q T S) bl0 P k p u l w) (M_breaking_127 V (nI (usO u (some w))) (encW (some w)) (kI (ws + opW a p (some w))) (nI (bs + brkO a T W Q S l p (some w))) (nI (p + 1)) (zup C 220 p (encW (some w))) b) (M_breaking_139 V (nI u) x3 (kI ws) (nI bs) (nI p) (nI (w + 1)) C b) := by
      intro w hw
      unfold okW
      rw [q_M_breaking_139, zcond_f (nI_pos (by omega)), m_has _ (by omega), zcI_ok, zc_b0, tbB (by omega), okA_g, show M_breaking_192 V (nI u) x3 (kI ws) (nI bs) (nI p) (nI w) C b = M_breaking_139 V (nI u) x3 (kI ws) (nI bs) (nI p) (nI (w + 1)) C b from by rw [q_M_breaking_192, nI_1]]
      cases tb : Nat.testBit u w
      · rw [cond_false]
        have hwl : w ≠ l := fun z => by
          rcases hl with h | ⟨_, h⟩
          · omega
          · rw [← z, tb] at h; exact absurd h (by decide)
        cases ha : okA a T w p
        · rw [q_M_breaking_153, pg_able hG (by omega) hw, ha, zcI_ok, zc_b0, q_M_breaking_192, nI_1]
          rfl
        · rw [show M_breaking_153 V (nI u) x3 (kI ws) (nI bs) (nI p) (nI w) C b = _ from p_153 (o := some w) hc hG hp hu hl hx (.inr ⟨w, hw, hwl, rfl, ha⟩) hT, show encW (some w) + 1 = nI (w + 1) from nI_1 w]
          rfl
      · rfl
    have ex : ∃ w, oF (fun w => cond (okW (scB c a T W Q) (tgB c a Q T S) bl0 P k p u l w) (some w) none) 0 P = some w := by
      cases h : oF (fun w => cond (okW (scB c a T W Q) (tgB c a Q T S) bl0 P k p u l w) (some w) none) 0 P with
      | some w => exact ⟨w, rfl⟩
      | none =>
        exfalso
        rcases opV_x (sc := scB c a T W Q) (tg := tgB c a Q T S) (bl := bl0) (P := P) (k := k) (p := p) (u := u) (l := l) with e | ⟨w, g, h1, h2, h3, e⟩
        · exact c1 e.symm
        · have := oF_none P 0 h w (Nat.zero_le _) (by omega)
          have hk : okW (scB c a T W Q) (tgB c a Q T S) bl0 P k p u l w = true := by
            unfold okW
            rw [h2, h3, e]
            show (!false && decide (_ = _)) = true
            rw [decide_eq_true rfl]
            rfl
          rw [hk] at this
          exact absurd this (by simp)
    have run : ∀ n i, i + n = P → ∀ w, oF (fun w => cond (okW (scB c a T W Q) (tgB c a Q T S) bl0 P k p u l w) (some w) none) i n = some w → M_breaking_139 V (nI u) x3 (kI ws) (nI bs) (nI p) (nI i) C b = M_breaking_127 V (nI (usO u (some w))) (encW (some w)) (kI (ws + opW a p (some w))) (nI (bs + brkO a T W Q S l p (some w))) (nI (p + 1)) (zup C 220 p (encW (some w))) b := by
      intro n
      induction n with
      | zero => intro i _ w h; exact absurd h (by simp [oF])
      | succ n ih =>
        intro i hi w h
        have h : (cond (okW (scB c a T W Q) (tgB c a Q T S) bl0 P k p u l i) (some i) none).elim (oF (fun w => cond (okW (scB c a T W Q) (tgB c a Q T S) bl0 P k p u l w) (some w) none) (i + 1) n) some = some w := h
        rw [step i (by omega)]
        cases hk : okW (scB c a T W Q) (tgB c a Q T S) bl0 P k p u l i
        · rw [hk] at h
          exact ih (i + 1) (by omega) w h
        · rw [hk] at h
          rw [cond_true, Option.some.inj h]
    obtain ⟨w, hw⟩ := ex
    rw [ho, hw]
    exact run P 0 (Nat.zero_add _) w hw
theorem p_all {c : Int} {P Q T W S : Nat} {a B : zA} {b : zB} {V : Int32} (hc : 0 ≤ c ∧ c ≤ 5000) (hG : PGo c P Q T W S a B) (hT : TOk (scB c a T W Q) (tgB c a Q T S) bl0 P Q (fun _ v => v) 0 B) : ∀ k p u l (C : zA) (ws : Int) (bs : Nat), p + k = Q → u < 2 ^ P → (l = 10 ∨ (l < P ∧ Nat.testBit u l = true)) → (∀ q, q ≠ 220 → C q = B q) → ∀ x3 : Int32, X3 l x3 → ∃ C' u' x', M_breaking_127 V (nI u) x3 (kI ws) (nI bs) (nI p) C b = M_breaking_127 V u' x' (kI (ws + sumO (scB c a T W Q) (tgB c a Q T S) bl0 P (opW a) k p u l)) (nI (bs + sumB (scB c a T W Q) (tgB c a Q T S) bl0 P (brkO a T W Q S) k p u l)) (nI Q) C' b ∧ (∀ q, q ≠ 220 → C' q = B q) ∧ (∀ q, q < p → C' 220 q = C 220 q) ∧ ∀ q, p ≤ q → q < Q → C' 220 q = encW (filO (scB c a T W Q) (tgB c a Q T S) bl0 P k p u l q) := by
  intro k
  have hP := hG.1.1.1.1
  have hQ := hG.1.1.1.2.1
  induction k with
  | zero =>
    intro p u l C ws bs hp hu hl hC x3 _
    have : p = Q := by omega
    subst this
    refine ⟨C, nI u, x3, ?_, hC, fun _ _ => rfl, fun q g1 g2 => absurd g2 (by omega)⟩
    rw [show ws + sumO (scB c a T W p) (tgB c a p T S) bl0 P (opW a) 0 p u l = ws from Int.add_zero ws]
    rfl
  | succ k ih =>
    intro p u l C ws bs hp hu hl hC x3 h3
    have gC : PGo c P Q T W S a C := PGo_f hG (fun q _ g2 => hC q g2)
    have tC : TOk (scB c a T W Q) (tgB c a Q T S) bl0 P Q (fun _ v => v) p C := by
      unfold TOk
      rw [hC 217 (by decide)]
      exact fun r g1 g2 => hT r (Nat.zero_le _) g2
    obtain ⟨o, ho⟩ : ∃ o, o = chO (scB c a T W Q) (tgB c a Q T S) bl0 P k p u l := ⟨_, rfl⟩
    have pk := p_pick (b := b) (ws := ws) (bs := bs) (V := V) hc gC hp hu hl h3 tC ho
    have hoc : o = none ∨ ∃ w, w < P ∧ o = some w := by
      cases hcc : o with
      | none => exact .inl rfl
      | some w => exact .inr ⟨w, (chO_some (ho.symm.trans hcc)).1, rfl⟩
    have us := usO_lt (sc := scB c a T W Q) (tg := tgB c a Q T S) (bl := bl0) (k := k) (p := p) (l := l) hu
    rw [← ho] at us
    have la : laO o = 10 ∨ (laO o < P ∧ Nat.testBit (usO u o) (laO o) = true) := by
      rcases hoc with e | ⟨w, hw, e⟩
      · rw [e]; exact .inl rfl
      · rw [e]
        refine .inr ⟨hw, ?_⟩
        show Nat.testBit (u ||| 2 ^ w) w = true
        rw [tb_or, decide_eq_true rfl, Bool.or_true]
    obtain ⟨E, hE⟩ : ∃ E, E = zup C 220 p (encW o) := ⟨_, rfl⟩
    have cE : ∀ q, q ≠ 220 → E q = B q := fun q hq => by rw [hE, zup_row hq]; exact hC q hq
    obtain ⟨C', u', x', y1, y2, y3, y4⟩ := ih (p + 1) (usO u o) (laO o) E (ws + opW a p o) (bs + brkO a T W Q S l p o) (by omega) us.1 la cE (encW o) (x3_enc (fun w e => by
      rcases hoc with e2 | ⟨w', hw, e2⟩
      · rw [e2] at e; exact absurd e (by simp)
      · rw [e2] at e
        have := Option.some.inj e
        omega))
    refine ⟨C', u', x', ?_, y2, fun q hq => ?_, fun q g1 g2 => ?_⟩
    · rw [pk, ← hE, y1]
      show _ = M_breaking_127 V u' x' (kI (ws + (opW a p (chO (scB c a T W Q) (tgB c a Q T S) bl0 P k p u l) + sumO _ _ _ _ _ k (p + 1) _ _))) (nI (bs + (brkO a T W Q S l p (chO (scB c a T W Q) (tgB c a Q T S) bl0 P k p u l) + sumB _ _ _ _ _ k (p + 1) _ _))) (nI Q) C' b
      rw [← ho, Int.add_assoc, Nat.add_assoc]
    · rw [y3 q (by omega), hE, zup_nj (by omega)]
    · show C' 220 q = encW (if q = p then chO (scB c a T W Q) (tgB c a Q T S) bl0 P k p u l else filO (scB c a T W Q) (tgB c a Q T S) bl0 P k (p + 1) (usO u (chO (scB c a T W Q) (tgB c a Q T S) bl0 P k p u l)) (laO (chO (scB c a T W Q) (tgB c a Q T S) bl0 P k p u l)) q)
      rw [← ho]
      by_cases cc : q = p
      · rw [if_pos cc, y3 q (by omega), hE, cc, zup_eq]
      · rw [if_neg cc]
        exact y4 q (by omega) g2
