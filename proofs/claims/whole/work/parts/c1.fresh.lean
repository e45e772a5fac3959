/-! Fresh: the reference's search. -/
def FM (C C0 : zA) : Prop := (∀ q, q ≠ 194 → q ≠ 220 → q ≠ 224 → C q = C0 q) ∧ ∀ j, j ≠ 59 → C 194 j = C0 194 j
def RM (Q : Nat) (s : Int × (Nat → Int32)) (C : zA) : Prop := C 194 59 = kI s.1 ∧ (-1 ≤ s.1 ∧ s.1 ≤ 200000) ∧ (0 ≤ s.1 → ∀ q, q < Q → C 220 q = s.2 q)
theorem FM_p {A A0 : zA} (h : FM A A0) (p : Nat) (x : Int32) : FM (zup A 224 p x) A0 := ⟨fun q h1 h2 h3 => (zup_row h3).trans (h.1 q h1 h2 h3), fun j hj => (congrFun (zup_row (by decide)) j).trans (h.2 j hj)⟩
theorem RM_p {Q : Nat} {s : Int × (Nat → Int32)} {A : zA} (h : RM Q s A) (p : Nat) (x : Int32) : RM Q s (zup A 224 p x) := ⟨(zup_ne (by decide)).trans h.1, h.2.1, fun h0 q hq => (zup_ne (by decide)).trans (h.2.2 h0 q hq)⟩
def mayO (sc tg : Nat → Nat → Option Int) (P Q : Nat) (C0 : zA) : Prop := ∀ p l w, p < Q → w < P → (l = 10 ∨ l < P) → l ≠ w → (hB (C0 218 p) w && (decide (l = 10) || hB (C0 219 l) w)) = (gnO sc tg p l w).isSome
theorem FM_v {P Q T W S : Nat} {a C C0 : zA} (h : FM C C0) (hv : vw P Q T W S a C0) : vw P Q T W S a C := vw_c hv (fun j hj => h.2 j (by unfold kf at hj; omega)) (fun q h1 h2 => h.1 q (by omega) (by omega) (by omega))
theorem m_leaf {P Q T W S d : Nat} {a C C0 : zA} {b : zB} {v : Int} {t : Nat → Int32} {s : Int × (Nat → Int32)} {u x3 : Int32} (hv : vw P Q T W S a C0) (hvb : 0 ≤ v ∧ v ≤ 100000) (hF : FM C C0) (hR : RM Q s C) (ht : ∀ q, q < Q → C 224 q = t q) : ∃ C', M_freshens (d + 1) (nI Q) u x3 (kI v) C b = okV C' b ∧ FM C' C0 ∧ RM Q (lfO (wasB a Q T) v t s) C' ∧ ∀ q, q < Q → C' 224 q = t q := by
  have hQ := hv.1.2.1
  have vC := FM_v hF hv
  have q2 := vC.2.1.2.1.2
  have k62 : ∀ C : zA, M_freshens_62 d C b = okV C b := fun C => by rw [q_M_freshens_62]; exact okV_ret _ _
  obtain ⟨r1, ⟨r2, r3⟩, r4⟩ := hR
  unfold lfO
  rw [q_M_freshens, zcond_t q2.symm, r1]
  by_cases c1 : s.1 < v
  · rw [zcond_t ((kI_lt (by omega) (by omega) (by omega) (by omega)).mpr c1), decide_eq_true c1, Bool.true_and, m_ever vC ht, zcI_ok, zc_b0]
    cases hw : wasB a Q T t
    · obtain ⟨D, hD⟩ : ∃ D, D = zup C 194 59 (kI v) := ⟨_, rfl⟩
      have hs : ∀ i, i < Q → M_freshens_33 d (nI i) (zfn D 220 i t) b = M_freshens_33 d (nI (i + 1)) (zfn D 220 (i + 1) t) b := by
        intro i hi
        have e1 : zfn D 220 i t 194 7 = nI Q := by rw [zfn_q (by decide), hD, zup_nj (by decide)]; exact q2
        have e2 : zfn D 220 i t 224 i = t i := by rw [zfn_q (by decide), hD, zup_ne (by decide)]; exact ht i hi
        rw [q_M_freshens_33, e1, zcond_t (nI_lt hi (by omega)), zin_nI (n := 10) (by omega) (by decide), cond_true, cond_true, show (nI i).toNatClampNeg = i from nI_clamp (by omega), e2, zfn_s, nI_1]
      have e := lpC (F := fun i => M_freshens_33 d (nI i) (zfn D 220 i t) b) hs Q 0 (Nat.zero_add _)
      rw [zfn_0] at e
      have f : M_freshens_33 d (nI Q) (zfn D 220 Q t) b = okV (zfn D 220 Q t) b := by
        rw [q_M_freshens_33, show zfn D 220 Q t 194 7 = nI Q from by rw [zfn_q (by decide), hD, zup_nj (by decide)]; exact q2, zcond_f (nI_nlt (Nat.le_refl _) (by omega)), k62]
      refine ⟨zfn D 220 Q t, ?_, ⟨fun q h1 h2 h3 => ?_, fun j hj => ?_⟩, ⟨?_, ?_, fun _ q hq => ?_⟩, fun q hq => ?_⟩
      · rw [← hD]
        exact e.trans f
      · rw [zfn_q h2, hD, zup_row h1]; exact hF.1 q h1 h2 h3
      · rw [zfn_q (by decide), hD, zup_nj hj]; exact hF.2 j hj
      · rw [zfn_q (by decide), hD]; exact zup_eq _ _ _ _
      · show -1 ≤ v ∧ v ≤ 200000
        omega
      · exact zfn_j hq
      · rw [zfn_q (by decide), hD, zup_ne (by decide)]; exact ht q hq
    · exact ⟨C, k62 C, hF, ⟨r1, ⟨r2, r3⟩, r4⟩, ht⟩
  · rw [zcond_f (fun z => c1 ((kI_lt (by omega) (by omega) (by omega) (by omega)).mp z)), decide_eq_false c1, Bool.false_and, k62]
    exact ⟨C, rfl, hF, ⟨r1, ⟨r2, r3⟩, r4⟩, ht⟩
theorem m_try {P Q T W S : Nat} {a C0 : zA} {b : zB} (hv : vw P Q T W S a C0) (hM : mayO (scN 0 a T W Q) (tgN 0 a Q T S) P Q C0) : ∀ (k d p u l : Nat) (x3 : Int32) (v : Int) (t : Nat → Int32) (s : Int × (Nat → Int32)) (C : zA), p + k = Q → k < d → u < 2 ^ P → (l = 10 ∨ (l < P ∧ Nat.testBit u l = true)) → X3 l x3 → (0 ≤ v ∧ v ≤ 2000 * p) → (∀ q, q < p → C 224 q = t q) → FM C C0 → RM Q s C → ∃ C', M_freshens d (nI p) (nI u) x3 (kI v) C b = okV C' b ∧ FM C' C0 ∧ RM Q (dfN a P Q T W S k p u l v t s) C' ∧ ∀ q, q < p → C' 224 q = t q := by
  intro k
  obtain ⟨g1, g2, g3, g4, g5⟩ := hv.1
  have p2 : 2 ^ P ≤ 1024 := Nat.pow_le_pow_right (by decide) g1
  induction k with
  | zero =>
    intro d p u l x3 v t s C hp hd hu hl hx hvb ht hF hR
    obtain ⟨d, rfl⟩ : ∃ d', d = d' + 1 := ⟨d - 1, by omega⟩
    have : p = Q := by omega
    subst this
    exact m_leaf hv (by omega) hF hR ht
  | succ k ih =>
    intro d p u l x3 v t s C hp hd hu hl hx hvb ht hF hR
    obtain ⟨d, rfl⟩ : ∃ d', d = d' + 1 := ⟨d - 1, by omega⟩
    have vC := FM_v hF hv
    have hl2 : l = 10 ∨ l < P := by omega
    have zp : zin (nI p) 10 = true := zin_nI (by omega) (by decide)
    have kp : (nI p).toNatClampNeg = p := nI_clamp (by omega)
    have lt : ((p : Nat) : Int) ≤ 10 := by omega
    rw [q_M_freshens, vC.2.1.2.1.2, zcond_f (show ¬ nI p = nI Q from fun z => by have := (nI_eq (by omega) (by omega)).mp z; omega)]
    have k175 : ∀ (w : Nat) (C : zA), M_freshens_175 d (nI p) (nI u) x3 (kI v) (nI w) C b = M_freshens_66 d (nI p) (nI u) x3 (kI v) (nI (w + 1)) C b := fun w C => by rw [q_M_freshens_175, nI_1]
    -- the people
    have loop : ∀ n w, w + n = P → ∀ s C, (∀ q, q < p → C 224 q = t q) → FM C C0 → RM Q s C → ∃ C', M_freshens_66 d (nI p) (nI u) x3 (kI v) (nI w) C b = okV C' b ∧ FM C' C0 ∧ RM Q (fF (fun w s => cond (Nat.testBit u w) s ((gnO (scN 0 a T W Q) (tgN 0 a Q T S) p l w).elim s (fun g => dfO (scN 0 a T W Q) (tgN 0 a Q T S) P (wasB a Q T) k (p + 1) (u ||| 2 ^ w) w (v + g) (upT t p (nI w)) s))) w n s) C' ∧ ∀ q, q < p → C' 224 q = t q := by
      intro n
      induction n with
      | zero =>
        intro w hw s C ht hF hR
        have : w = P := by omega
        subst this
        refine ⟨C, ?_, hF, hR, ht⟩
        rw [q_M_freshens_66, (FM_v hF hv).2.1.1.2, zcond_f (nI_nlt (Nat.le_refl _) (by omega))]
        exact okV_ret _ _
      | succ n ihn =>
        intro w hw s C ht hF hR
        have hwP : w < P := by omega
        have e66 : M_freshens_66 d (nI p) (nI u) x3 (kI v) (nI w) C b = cond (Nat.testBit u w) (M_freshens_66 d (nI p) (nI u) x3 (kI v) (nI (w + 1)) C b) (cond (gnO (scN 0 a T W Q) (tgN 0 a Q T S) p l w).isSome (M_freshens_126 d (nI p) (nI u) x3 (kI v) (nI w) 1 C b) (M_freshens_66 d (nI p) (nI u) x3 (kI v) (nI (w + 1)) C b)) := by
          have k125 : M_freshens_125 d (nI p) (nI u) x3 (kI v) (nI w) C b = M_freshens_66 d (nI p) (nI u) x3 (kI v) (nI (w + 1)) C b := by
            rw [q_M_freshens_125, q_M_freshens_126, zcond_t rfl, k175]
          rw [q_M_freshens_66, (FM_v hF hv).2.1.1.2, zcond_t (nI_lt hwP (by omega)), zcond_f (nI_pos (by omega)), zp, cond_true, kp, m_has _ (by omega), zcI_ok, zc_b0, m_has _ (by omega), zcI_ok, zc_b0, tbB (by omega), k125, q_M_freshens_121, hF.1 218 (by decide) (by decide) (by decide)]
          cases tb : Nat.testBit u w
          case true => cases hB (C0 218 p) w <;> rfl
          have may := hM p l w (by omega) hwP hl2 (fun z => by
            rcases hl with h | ⟨_, h⟩
            · omega
            · rw [z, tb] at h; exact absurd h (by decide))
          rw [← may]
          by_cases h2 : l = 10
          · rw [zcond_t (hx.2.1.mpr h2), decide_eq_true h2, Bool.true_or, Bool.and_true]
            cases hB (C0 218 p) w <;> rfl
          · have e1 := hx.2.2 h2
            have e2 : zcI (M_has (C 219 x3.toNatClampNeg) (nI w) C b) (fun y3 a3 b3 => cond (decide (y3 = 0)) (M_freshens_125 d (nI p) (nI u) x3 (kI v) (nI w) a3 b3) (M_freshens_121 d (nI p) (nI u) x3 (kI v) (nI w) a3 b3)) = cond (hB (C0 219 l) w) (M_freshens_126 d (nI p) (nI u) x3 (kI v) (nI w) 1 C b) (M_freshens_66 d (nI p) (nI u) x3 (kI v) (nI (w + 1)) C b) := by
              rw [show x3.toNatClampNeg = l from by rw [e1]; exact nI_clamp (by omega), m_has _ (by omega), zcI_ok, zc_b0, k125, q_M_freshens_121, hF.1 219 (by decide) (by decide) (by decide)]
            rw [zcond_f (fun z => h2 (hx.2.1.mp z)), show zin x3 10 = true from by rw [e1]; exact zin_nI (by omega) (by decide), cond_true, e2, decide_eq_false h2, Bool.false_or]
            cases hB (C0 218 p) w <;> cases hB (C0 219 l) w <;> rfl
        rw [e66]
        show ∃ C', _ ∧ FM C' C0 ∧ RM Q (fF _ (w + 1) n (cond (Nat.testBit u w) s ((gnO (scN 0 a T W Q) (tgN 0 a Q T S) p l w).elim s (fun g => dfO (scN 0 a T W Q) (tgN 0 a Q T S) P (wasB a Q T) k (p + 1) (u ||| 2 ^ w) w (v + g) (upT t p (nI w)) s)))) C' ∧ _
        cases tb : Nat.testBit u w
        · rw [cond_false, cond_false]
          cases hg : gnO (scN 0 a T W Q) (tgN 0 a Q T S) p l w with
          | none => exact ihn (w + 1) (by omega) s C ht hF hR
          | some g =>
            have gv := gnN hg
            have gb := prz_b a p
            obtain ⟨E, hE⟩ : ∃ E, E = zup C 224 p (nI w) := ⟨_, rfl⟩
            have FE : FM E C0 := by rw [hE]; exact FM_p hF p _
            obtain ⟨C1, y1, y2, y3, y4⟩ := ih d (p + 1) (u ||| 2 ^ w) w (nI w) (v + g) (upT t p (nI w)) s E (by omega) (by omega) (or_lt (by omega) hwP) (.inr ⟨hwP, by rw [tb_or, decide_eq_true rfl, Bool.or_true]⟩) (x3_enc (o := some w) (fun w' e => by have := Option.some.inj e; omega)) (by omega) (fun q hq => by
              unfold upT
              rw [hE]
              by_cases cq : q = p
              · rw [cq, zup_eq, if_pos rfl]
              · rw [zup_nj cq, if_neg cq]
                exact ht q (by omega)) FE (by rw [hE]; exact RM_p hR p _)
            have e1 : M_worthAt (nI p) (nI w) E b = okI (kI g) E b := by
              have := m_prize (b := b) (x := nI w) (FM_v FE hv) (show p < Q by omega) (.inr ⟨w, hwP, rfl⟩)
              rw [this, show yPrize a p (nI w) = kI (opW a p (some w)) from yPrize_e g1 (.inr ⟨w, hwP, rfl⟩), gv]
              rfl
            show ∃ C', M_freshens_126 d (nI p) (nI u) x3 (kI v) (nI w) 1 C b = okV C' b ∧ _
            rw [q_M_freshens_126, zcond_f (by decide), zp, cond_true, zcond_f (nI_pos (by omega)), kp, ← hE, nI_1, orB (by omega) (by omega), q_M_freshens_160, e1, zcI_ok, kI_add, y1, zcV_ok, k175]
            exact ihn (w + 1) (by omega) _ C1 (fun q hq => by
              rw [y4 q (by omega)]
              exact if_neg (by omega)) y2 y3
        · exact ihn (w + 1) (by omega) s C ht hF hR
    obtain ⟨E, hE⟩ : ∃ E, E = zup C 224 p (-1) := ⟨_, rfl⟩
    have FE : FM E C0 := by rw [hE]; exact FM_p hF p _
    obtain ⟨C1, y1, y2, y3, y4⟩ := ih d (p + 1) u 10 (-1) v (upT t p (-1)) s E (by omega) (by omega) hu (.inl rfl) (x3_enc (o := none) (fun w' e => absurd e (by simp))) (by omega) (fun q hq => by
      unfold upT
      rw [hE]
      by_cases cq : q = p
      · rw [cq, zup_eq, if_pos rfl]
      · rw [zup_nj cq, if_neg cq]
        exact ht q (by omega)) FE (by rw [hE]; exact RM_p hR p _)
    have e1 : M_worthAt (nI p) (-1) E b = okI 0 E b := by
      rw [q_M_worthAt, zcond_t (show (-1 : Int32) < 0 by decide), q_M_worthAt_27]
      exact okI_ret _ _ _
    have e0 : M_freshens_66 d (nI p) (nI u) x3 (kI v) (-1) C b = M_freshens_66 d (nI p) (nI u) x3 (kI v) (nI 0) C1 b := by
      rw [q_M_freshens_66, vC.2.1.1.2, zcond_t (show (-1 : Int32) < nI P from by rw [Int32.lt_iff_toInt_lt, nI_toInt (by omega), show (-1 : Int32).toInt = -1 from rfl]; omega), zcond_t (show (-1 : Int32) < 0 by decide), q_M_freshens_121, q_M_freshens_126, zcond_f (by decide), zp, cond_true, zcond_t (show (-1 : Int32) < 0 by decide), kp, ← hE, nI_1, q_M_freshens_160, e1, zcI_ok, show kI v + 0 = kI v from Int32.add_zero _, y1, zcV_ok, q_M_freshens_175]
      rfl
    rw [e0]
    exact loop P 0 (Nat.zero_add _) _ C1 (fun q hq => by
      rw [y4 q (by omega)]
      exact if_neg (by omega)) y2 y3
