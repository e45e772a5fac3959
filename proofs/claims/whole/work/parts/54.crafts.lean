/-! Persons and posts asked for; crafts. -/
theorem s_bool (p : Prop) [Decidable p] (a : zA) (b : zB) : cond (zisB (if p then (1 : Int32) else 0)) (zRET (some (.int (if p then (1 : Int32) else 0))) zSH a b) none = okI (if p then 1 else 0) a b := by
  by_cases h : p
  · rw [if_pos h]; exact okI_ret _ _ _
  · rw [if_neg h]; exact okI_ret _ _ _
theorem s_pm {P : Nat} (h : P ≤ 1000) (x : Int32) : nI P - 1 < x ↔ ¬ x < nI P := by
  rw [Int32.lt_iff_toInt_lt, Int32.lt_iff_toInt_lt, show (nI P - 1).toInt = (P : Int) - 1 from pk_sub_toInt (a := P) (b := 1) (by omega) (by decide), nI_toInt (by omega)]
  omega
theorem s_hasPerson {P : Nat} {a : zA} {b : zB} (h : a 2 0 = nI P) (x : Int32) : H_hasPerson x a b = okI (if ¬ x < 0 ∧ x < nI P then 1 else 0) a b := by
  rw [q_H_hasPerson, h, q_H_hasPerson_16, q_H_hasPerson_17, q_H_hasPerson_17]
  by_cases c1 : x < 0
  · rw [zcond_t c1, if_neg (fun z => z.1 c1)]; exact okI_ret _ _ _
  · rw [zcond_f c1]
    by_cases c2 : x < nI P
    · rw [zcond_t c2, if_pos ⟨c1, c2⟩]; exact okI_ret _ _ _
    · rw [zcond_f c2, if_neg (fun z => c2 z.2)]; exact okI_ret _ _ _
theorem s_hasPost {P : Nat} {a : zA} {b : zB} (h : a 2 1 = nI P) (x : Int32) : H_hasPost x a b = okI (if ¬ x < 0 ∧ x < nI P then 1 else 0) a b := by
  rw [q_H_hasPost, h, q_H_hasPost_16, q_H_hasPost_17, q_H_hasPost_17]
  by_cases c1 : x < 0
  · rw [zcond_t c1, if_neg (fun z => z.1 c1)]; exact okI_ret _ _ _
  · rw [zcond_f c1]
    by_cases c2 : x < nI P
    · rw [zcond_t c2, if_pos ⟨c1, c2⟩]; exact okI_ret _ _ _
    · rw [zcond_f c2, if_neg (fun z => c2 z.2)]; exact okI_ret _ _ _
theorem s_in01 {P : Nat} (h : P ≤ 1000) {x : Int32} {y : Int64} (hy : y = (nI P - 1).toInt64) (a : zA) (b : zB) : M_in x.toInt64 0 y a b = okI (if ¬ x < 0 ∧ x < nI P then 1 else 0) a b := by
  rw [s_in32 x 0 (nI P - 1) (by decide) hy]
  by_cases c1 : x < 0
  · rw [if_pos c1, if_neg (fun z => z.1 c1)]
  · rw [if_neg c1]
    by_cases c2 : x < nI P
    · rw [if_neg (fun z => (s_pm h x).mp z c2), if_pos ⟨c1, c2⟩]
    · rw [if_pos ((s_pm h x).mpr c2), if_neg (fun z => c2 z.2)]
theorem s_isPerson {P : Nat} {a : zA} {b : zB} (h : a 194 3 = nI P) (hP : P ≤ 1000) (x : Int32) : M_isPerson x a b = okI (if ¬ x < 0 ∧ x < nI P then 1 else 0) a b := by
  rw [q_M_isPerson, s_in01 hP (by rw [h]), zcI_ok]
  exact s_bool _ _ _
theorem s_isPost {P : Nat} {a : zA} {b : zB} (h : a 194 7 = nI P) (hP : P ≤ 1000) (x : Int32) : M_isPost x a b = okI (if ¬ x < 0 ∧ x < nI P then 1 else 0) a b := by
  rw [q_M_isPost, s_in01 hP (by rw [h]), zcI_ok]
  exact s_bool _ _ _
theorem s_idx {P : Nat} {x : Int32} (h : ¬ x < 0 ∧ x < nI P) : ∃ p, p < P ∧ p < 2 ^ 31 ∧ x = nI p := by
  obtain ⟨p, hp, rfl⟩ := nI_of h.1
  refine ⟨p, Nat.lt_of_not_le (fun z => ?_), hp, rfl⟩
  exact nI_nlt z hp h.2
theorem s_mul (a b c : Nat) : nI a * nI b + nI c = nI (a * b + c) := by rw [pk_mul, nI_add]
theorem r_crafts {L : Nat} {xs : Nat → Int32} (x1 x2 : Int32) : zAns (Rel L xs) (X_crafts x1 x2) (M_crafts x1 x2) := by
  intro a b hr
  obtain ⟨P, Q, T, G, N, h0, ⟨⟨n1, n2, n3⟩, n4⟩, hH, ⟨w1, w2⟩, -⟩ := id hr
  have p1 : a 2 0 = nI P := n1
  have p2 : zup a 194 0 0 194 3 = nI P := (zup_nj (by decide)).trans n2
  have w1 : rSame P 0 63 (a 17) (a 196) := w1
  have w2 : rSame 60 0 8 (a 18) (a 198) := w2
  have d00 : decide ((0 : Int32) = 0) = true := by decide
  have d10 : decide ((1 : Int32) = 0) = false := by decide
  have in2 : M_in x2.toInt64 (-1) 5 (zup a 194 0 0) b = okI (if x2 < -1 then 0 else if 5 < x2 then 0 else 1) (zup a 194 0 0) b := s_in32 x2 (-1) 5 (by decide) (by decide) _ _
  by_cases c0 : ¬ x1 < 0 ∧ x1 < nI P
  · obtain ⟨p, hp, hp2, rfl⟩ := s_idx c0
    have kp : (nI p).toNatClampNeg = p := nI_clamp hp2
    have zp : zin (nI p) 10 = true := zin_nI (by omega) (by decide)
    by_cases c1 : x2 < -1
    · refine ⟨-1, a, b, zup a 194 0 0, b, ?_, fun _ => rfl, ?_, rel_thr hr⟩
      · rw [q_X_crafts, s_hasPerson p1, zcI_ok, if_pos c0, d10, cond_false, zcond_t c1, q_X_crafts_22]; exact okI_ret _ _ _
      · rw [q_M_crafts, s_isPerson p2 (by omega), zcI_ok, if_pos c0, d10, cond_false, in2, zcI_ok, if_pos c1, d00, cond_true, q_M_crafts_27]; exact okI_ret _ _ _
    by_cases c2 : x2 < 6
    · have c3 : ¬ 5 < x2 := by
        rw [Int32.lt_iff_toInt_lt] at c2 ⊢
        rw [show (5 : Int32).toInt = 5 from by decide]
        rw [show (6 : Int32).toInt = 6 from by decide] at c2
        omega
      by_cases c4 : x2 = -1
      · subst c4
        refine ⟨a 17 p, a, b, zup a 194 0 0, b, ?_, fun _ => rfl, ?_, rel_thr hr⟩
        · rw [q_X_crafts, s_hasPerson p1, zcI_ok, if_pos c0, d10, cond_false, zcond_f c1, zcond_t c2, zcond_t rfl, zp, cond_true, kp, q_X_crafts_55]; exact okI_ret _ _ _
        · rw [q_M_crafts, s_isPerson p2 (by omega), zcI_ok, if_pos c0, d10, cond_false, in2, zcI_ok, if_neg c1, if_neg c3, d10, cond_false, zcond_t (by decide), zp, cond_true, kp, q_M_crafts_53, zup_ne (by decide), ← (w1 p hp).1]; exact okI_ret _ _ _
      · have c5 : ¬ x2 < 0 := by
          intro z
          refine c4 (Int32.toInt_inj.mp ?_)
          rw [Int32.lt_iff_toInt_lt] at z c1
          rw [show (-1 : Int32).toInt = -1 from by decide] at c1 ⊢
          rw [show (0 : Int32).toInt = 0 from by decide] at z
          omega
        obtain ⟨c, hc, hc2, rfl⟩ := s_idx (P := 6) ⟨c5, c2⟩
        have i1 : nI p * 6 + nI c = nI (p * 6 + c) := s_mul p 6 c
        have i2 : 6 * nI p + nI c = nI (6 * p + c) := s_mul 6 p c
        have k1 : (nI (p * 6 + c)).toNatClampNeg = 6 * p + c := (nI_clamp (by omega)).trans (by omega)
        have k2 : (nI (6 * p + c)).toNatClampNeg = 6 * p + c := nI_clamp (by omega)
        have z1 : zin (nI (p * 6 + c)) 60 = true := zin_nI (by omega) (by decide)
        have z2 : zin (nI (6 * p + c)) 60 = true := zin_nI (by omega) (by decide)
        refine ⟨a 18 (6 * p + c), a, b, zup a 194 0 0, b, ?_, fun _ => rfl, ?_, rel_thr hr⟩
        · rw [q_X_crafts, s_hasPerson p1, zcI_ok, if_pos c0, d10, cond_false, zcond_f c1, zcond_t c2, zcond_f c4, i1, z1, cond_true, k1, q_X_crafts_55]; exact okI_ret _ _ _
        · rw [q_M_crafts, s_isPerson p2 (by omega), zcI_ok, if_pos c0, d10, cond_false, in2, zcI_ok, if_neg c1, if_neg c3, d10, cond_false, zcond_f c5, i2, z2, cond_true, k2, q_M_crafts_53, zup_ne (by decide), ← (w2 _ (by omega)).1]; exact okI_ret _ _ _
    · have c3 : 5 < x2 := by
        rw [Int32.lt_iff_toInt_lt] at c2 ⊢
        rw [show (5 : Int32).toInt = 5 from by decide]
        rw [show (6 : Int32).toInt = 6 from by decide] at c2
        omega
      refine ⟨-1, a, b, zup a 194 0 0, b, ?_, fun _ => rfl, ?_, rel_thr hr⟩
      · rw [q_X_crafts, s_hasPerson p1, zcI_ok, if_pos c0, d10, cond_false, zcond_f c1, zcond_f c2, q_X_crafts_22]; exact okI_ret _ _ _
      · rw [q_M_crafts, s_isPerson p2 (by omega), zcI_ok, if_pos c0, d10, cond_false, in2, zcI_ok, if_neg c1, if_pos c3, d00, cond_true, q_M_crafts_27]; exact okI_ret _ _ _
  · refine ⟨-1, a, b, zup a 194 0 0, b, ?_, fun _ => rfl, ?_, rel_thr hr⟩
    · rw [q_X_crafts, s_hasPerson p1, zcI_ok, if_neg c0, d00, cond_true, q_X_crafts_22]; exact okI_ret _ _ _
    · rw [q_M_crafts, s_isPerson p2 (by omega), zcI_ok, if_neg c0, d00, cond_true, q_M_crafts_27]; exact okI_ret _ _ _
