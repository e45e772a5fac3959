/-! The call rule: the end. -/
theorem rel_rule {L : Nat} {xs : Nat → Int32} {P Q T G G' N : Nat} {m M : zA} (h : rAll L xs P Q T G N m) (row : ∀ q, (q ≠ 1 ∧ ¬ (8 ≤ q ∧ q ≤ 11) ∧ q ≠ 20 ∧ q ≠ 194 ∧ ¬ (207 ≤ q ∧ q ≤ 210) ∧ q ≠ 215) → M q = m q) (hn : rNum P Q T G' N (M 2) (M 12) (M 1) (M 194)) (hRu : rRule (M 194) (M 8) (M 9) (M 10) (M 11) (M 207) (M 208) (M 209) (M 210)) (ht : rSame G' 0 255 (M 20) (M 215)) : rAll L xs P Q T G' N M := by
  obtain ⟨h0, -, ⟨u1, u2, u3, u4, u5⟩, ⟨w1, w2⟩, hD, hW, -, -, hRo, hKe, hKn⟩ := h
  refine ⟨(row 0 (by decide)).trans h0, hn, ⟨?_, ?_, ?_, ?_, ?_⟩, ⟨?_, ?_⟩, ?_, ?_, hRu, ht, ?_, ⟨?_, ?_, ?_⟩, ?_⟩
  · rw [row 3 (by decide), row 197 (by decide)]; exact u1
  · rw [row 4 (by decide), row 199 (by decide)]; exact u2
  · rw [row 5 (by decide), row 200 (by decide)]; exact u3
  · rw [row 6 (by decide), row 201 (by decide)]; exact u4
  · rw [row 7 (by decide), row 202 (by decide)]; exact u5
  · rw [row 17 (by decide), row 196 (by decide)]; exact w1
  · rw [row 18 (by decide), row 198 (by decide)]; exact w2
  · rw [row 13 (by decide), row 206 (by decide)]; exact hD
  · rw [row 14 (by decide), row 204 (by decide), row 15 (by decide), row 203 (by decide), row 16 (by decide), row 205 (by decide)]; exact hW
  · rw [row 171 (by decide), row 195 (by decide)]; exact hRo
  · rw [row 173 (by decide), row 174 (by decide), row 175 (by decide), row 176 (by decide), row 177 (by decide), row 178 (by decide), row 179 (by decide), row 233 (by decide), row 234 (by decide), row 235 (by decide), row 236 (by decide), row 3 (by decide), row 6 (by decide)]; exact hKe.1
  · rw [row 180 (by decide), row 181 (by decide), row 182 (by decide), row 183 (by decide), row 184 (by decide), row 185 (by decide), row 186 (by decide), row 233 (by decide), row 234 (by decide), row 235 (by decide), row 236 (by decide), row 3 (by decide), row 6 (by decide)]; exact hKe.2.1
  · rw [row 187 (by decide), row 188 (by decide), row 189 (by decide), row 190 (by decide), row 191 (by decide), row 192 (by decide), row 193 (by decide), row 233 (by decide), row 234 (by decide), row 235 (by decide), row 236 (by decide), row 3 (by decide), row 6 (by decide)]; exact hKe.2.2
  · rw [row 27 (by decide), row 33 (by decide), row 15 (by decide), row 6 (by decide), row 18 (by decide), row 3 (by decide)]; exact hKn
theorem zfr_rd {q j : Nat} (h : (21 ≤ q ∧ q ≤ 25) ∨ (211 ≤ q ∧ q ≤ 214)) : zfr q j = true := by
  have : q = 21 ∨ q = 22 ∨ q = 23 ∨ q = 24 ∨ q = 25 ∨ q = 211 ∨ q = 212 ∨ q = 213 ∨ q = 214 := by omega
  rcases this with rfl | rfl | rfl | rfl | rfl | rfl | rfl | rfl | rfl <;> rfl
theorem zmk_row {A a : zA} {q : Nat} (h : A q = a q ∨ (21 ≤ q ∧ q ≤ 25) ∨ (211 ≤ q ∧ q ≤ 214)) : zmask A q = zmask a q := by
  funext j
  unfold zmask
  rcases h with h | h
  · rw [h]
  · rw [zfr_rd h]; rfl
def C1r (E : Nat) (Y : zA) : zA := zfn (zup (zup (zup (zup (zup (zup (zup (zup Y 194 0 0) 194 34 0) 194 35 0) 194 36 (nI E)) 194 25 0) 194 26 0) 194 27 0) 194 29 0) 211 10 (fun _ => 0)
theorem rule_end {L : Nat} {xs : Nat → Int32} {P Q T G N : Nat} {a : zA} {b : zB} (hall : rAll L xs P Q T G N (zmask a)) : ∃ E, ∀ Y : zA, (∀ q, 194 ≤ q → Y q = a q) → ∃ r A' C', T_read (nI G) a b = okI r A' b ∧ fRX A' a ∧ fRM C' (C1r E Y) ∧ ((r < 0 ∧ M_rule Y b = okI r C' b) ∨ (¬ r < 0 ∧ ∃ K', K' ≤ 9 ∧ M_rule Y b = okI r (becM C') b ∧ rRd K' A' C')) := by
  obtain ⟨h0, ⟨n1, n4, n5, ⟨n6, n7, n8⟩, n9, n10, n11⟩, hH, hC, hD, hW, hRu, hTa, hRo, hKe, hKn⟩ := id hall
  obtain ⟨E, hE⟩ : ∃ E, E = min 60 G := ⟨_, rfl⟩
  have tape : ∀ j, j < E → a 215 j = a 20 j := fun j hj => (hTa j (by omega)).1.symm
  refine ⟨E, fun Y hY => ?_⟩
  have eE : (if (if (80 : Nat) < 60 then (80 : Int32) else 60) < nI G then (if (80 : Nat) < 60 then (80 : Int32) else 60) else nI G) = nI E := by
    rw [if_neg (show ¬ (80 : Nat) < 60 by decide)]
    by_cases c : 60 < G
    · rw [if_pos (show (60 : Int32) < nI G from nI_lt (a := 60) c (by omega)), show E = 60 by omega]; rfl
    · rw [if_neg (show ¬ (60 : Int32) < nI G from nI_nlt (a := 60) (by omega) (by decide)), show E = G by omega]
  have eE2 : (if (60 : Int32) < nI G then 60 else nI G) = nI E := by
    have := eE
    rw [if_neg (show ¬ (80 : Nat) < 60 by decide)] at this
    exact this
  obtain ⟨A1, hA1⟩ : ∃ A1, A1 = zup (zup (clrX a) 21 3 0) 21 2 (nI E) := ⟨_, rfl⟩
  have fX : fRX A1 a := fun q hq => by rw [hA1, zup_row (by omega), zup_row (by omega)]; exact clrX_f a q hq
  have X1 : rdX E 0 (a 20) A1 := ⟨by rw [hA1, zup_nj (by decide), zup_eq]; rfl, by rw [hA1, zup_eq], Nat.zero_le _, by omega, fun j _ => congrFun (fX 20 (by decide)) j⟩
  have cE : ∀ q, q ≠ 194 → q ≠ 211 → C1r E Y q = Y q := fun q h1 h2 => by
    unfold C1r
    rw [zfn_q h2, zup_row h1, zup_row h1, zup_row h1, zup_row h1, zup_row h1, zup_row h1, zup_row h1, zup_row h1]
  have c194 : ∀ j, C1r E Y 194 j = zup (zup (zup (zup (zup (zup (zup (zup Y 194 0 0) 194 34 0) 194 35 0) 194 36 (nI E)) 194 25 0) 194 26 0) 194 27 0) 194 29 0 194 j := fun j => congrFun (zfn_q (by decide)) j
  have M1 : rdM E 0 (a 20) (C1r E Y) := ⟨by rw [c194, zup_nj (by decide), zup_nj (by decide), zup_nj (by decide), zup_nj (by decide), zup_nj (by decide), zup_eq]; rfl, by rw [c194, zup_nj (by decide), zup_nj (by decide), zup_nj (by decide), zup_nj (by decide), zup_eq], Nat.zero_le _, by omega, fun j hj => by rw [cE 215 (by decide) (by decide), hY 215 (by decide)]; exact tape j hj⟩
  have aX : ∀ q, q ≠ 21 → A1 q = clrX a q := fun q hq => by rw [hA1, zup_row hq, zup_row hq]
  have R1 : rRd 0 A1 (C1r E Y) := by
    have z23 : ∀ j, j < 2 → clrX a 23 j = 0 := fun j hj => by
      unfold clrX
      rw [zup_row (by decide), zfn_q (by decide), zfn_q (by decide), zfn_j hj]
    have z24 : ∀ j, j < 10 → clrX a 24 j = 0 := fun j hj => by
      unfold clrX
      rw [zup_row (by decide), zfn_q (by decide), zfn_j hj]
    have z25 : ∀ j, j < 1000 → clrX a 25 j = 0 := fun j hj => by
      unfold clrX
      rw [zup_row (by decide), zfn_j hj]
    refine ⟨⟨⟨0, by decide, ?_, ?_⟩, ⟨0, by decide, ?_, ?_⟩, 0, by decide, ?_, ?_⟩, fun j hj => ⟨0, by decide, ?_, ?_⟩, ?_, fun k hk => absurd hk (by omega), fun p d hp hd => ?_⟩
    · rw [aX 23 (by decide), z23 0 (by decide)]; rfl
    · rw [c194, zup_nj (by decide), zup_nj (by decide), zup_nj (by decide), zup_eq]; rfl
    · rw [aX 23 (by decide), z23 1 (by decide)]; rfl
    · rw [c194, zup_nj (by decide), zup_nj (by decide), zup_eq]; rfl
    · rw [aX 22 (by decide)]
      exact zup_eq _ _ _ _
    · rw [c194, zup_nj (by decide), zup_eq]; rfl
    · rw [aX 24 (by decide), z24 j hj]; rfl
    · exact zfn_j hj
    · rw [c194, zup_eq]; rfl
    · rw [aX 25 (by decide), z25 _ (by omega)]
      exact ⟨.inl rfl, fun w => absurd w (by decide), fun ⟨k, f, t, w, _⟩ => absurd w (by omega)⟩
  have fM : fRM (C1r E Y) (C1r E Y) := ⟨fun _ _ _ => rfl, fun _ _ _ => rfl⟩
  -- the two beginnings
  have bX : ∀ s0, T_read_41 (nI G) 0 s0 A1 b = T_read_45 (nI G) 0 s0 0 A1 b := fun s0 => by rw [q_T_read_41]
  have eX : T_read (nI G) a b = cond (decide (0 < G)) (T_read_45 (nI G) 0 1 0 A1 b) (T_read_45 (nI G) 0 0 0 A1 b) := by
    rw [q_T_read, x_lclear, zcV_ok, eE, ← hA1, bX, bX]
    by_cases c : 0 < G
    · rw [zcond_t (show (0 : Int32) < nI G from nI_lt (a := 0) c (by omega)), decide_eq_true c]; rfl
    · rw [zcond_f (show ¬ (0 : Int32) < nI G from nI_nlt (a := 0) (by omega) (by decide)), decide_eq_false c]; rfl
  have eM : M_rule Y b = cond (decide (0 < G)) (M_rule_86 (nI G) 0 1 1 (C1r E Y) b) (M_rule_86 (nI G) 0 1 0 (C1r E Y) b) := by
    have e34 : zup Y 194 0 0 194 34 = nI G := by
      rw [zup_nj (by decide), hY 194 (by decide)]
      exact n7
    obtain ⟨D, hD⟩ : ∃ D, D = zup (zup (zup (zup (zup (zup (zup (zup Y 194 0 0) 194 34 0) 194 35 0) 194 36 (nI E)) 194 25 0) 194 26 0) 194 27 0) 194 29 0 := ⟨_, rfl⟩
    have hs : ∀ i, i < 10 → M_rule_52 (nI G) (nI i) (zfn D 211 i (fun _ => 0)) b = M_rule_52 (nI G) (nI (i + 1)) (zfn D 211 (i + 1) (fun _ => 0)) b := fun i hi => by
      rw [q_M_rule_52, zcond_t (show nI i < 10 from nI_lt (b := 10) hi (by decide)), zin_nI (n := 10) hi (by decide), cond_true, show (nI i).toNatClampNeg = i from nI_clamp (by omega), nI_1]
      rw [show (0 : Int32) = (fun _ => (0 : Int32)) i from rfl, zfn_s]
    have l1 := lpC (F := fun i => M_rule_52 (nI G) (nI i) (zfn D 211 i (fun _ => 0)) b) hs 10 0 (Nat.zero_add _)
    rw [zfn_0] at l1
    rw [q_M_rule, e34, eE2, ← hD]
    refine Eq.trans l1 ?_
    rw [q_M_rule_52, zcond_f (show ¬ nI 10 < 10 by decide), q_M_rule_84, q_M_rule_84, show zfn D 211 10 (fun _ => 0) = C1r E Y from by rw [hD]; rfl]
    by_cases c : 0 < G
    · rw [zcond_t (show (0 : Int32) < nI G from nI_lt (a := 0) c (by omega)), decide_eq_true c]; rfl
    · rw [zcond_f (show ¬ (0 : Int32) < nI G from nI_nlt (a := 0) (by omega) (by decide)), decide_eq_false c]; rfl
  by_cases c : 0 < G
  · rw [decide_eq_true c, cond_true] at eX eM
    obtain ⟨r, A', C', z1, z2, z3, z4⟩ := rule_out (b := b) (G := G) c n8 X1 M1 R1 fX fM
    refine ⟨r, A', C', eX.trans z1, z2, z3, ?_⟩
    rcases z4 with ⟨w1, w2⟩ | ⟨w1, K', w2, w3, w4⟩
    · exact .inl ⟨w1, eM.trans w2⟩
    · exact .inr ⟨w1, K', w2, eM.trans (w3.trans (m_become _ _ _)), w4⟩
  · rw [decide_eq_false c, cond_false] at eX eM
    have g0 : G = 0 := by omega
    subst g0
    refine ⟨0, A1, C1r E Y, eX.trans ?_, fX, fM, .inr ⟨by decide, 0, by decide, eM.trans ?_, R1⟩⟩
    · rw [q_T_read_45, zcond_t (by decide), zcond_t rfl, q_T_read_116, zcond_f (by decide), q_T_read_128]
      exact okI_ret _ _ _
    · have e0 : E = 0 := by omega
      rw [q_M_rule_86, zcond_t rfl, zcond_f (by decide), M1.1, M1.2.1, e0, zcond_t rfl, q_M_rule_142, zcond_f (by decide), m_become]
theorem r_rule {L : Nat} {xs : Nat → Int32} : zAns (Rel L xs) X_rule M_rule := by
  intro a b hr
  obtain ⟨P, Q, T, G, N, hall⟩ := id hr
  obtain ⟨h0, ⟨n1, n4, n5, ⟨n6, n7, n8⟩, n9, n10, n11⟩, hH, hC, hD, hW, hRu, hTa, hRo, hKe, hKn⟩ := id hall
  obtain ⟨E, out⟩ := rule_end (b := b) hall
  obtain ⟨r, A', -, e1, f1, -, -⟩ := out a (fun _ _ => rfl)
  have p1 : a 1 11 = nI G := n6
  have inj : ∀ {r r' : Int32} {A A' : zA}, okI r A b = okI r' A' b → r = r' ∧ A = A' := fun {r r' A A'} this => by
    unfold okI at this
    injection this with this
    injection this with h1 this
    injection this with _ this
    injection this with h2 _
    exact ⟨by injection h1 with h1; injection h1, h2⟩
  have num : ∀ (Y C' : zA), (∀ q, 194 ≤ q → Y q = a q) → (∀ j, j ≠ 0 → j ≠ 34 → ¬ (25 ≤ j ∧ j ≤ 29) → j ≠ 35 → j ≠ 36 → C1r E Y 194 j = Y 194 j) ∧ C1r E Y 194 34 = 0 ∧ (∀ q, q ≠ 194 → q ≠ 211 → C1r E Y q = Y q) := fun Y _ _ => by
    refine ⟨fun j g1 g2 g3 g4 g5 => ?_, ?_, fun q h1 h2 => ?_⟩
    · refine (congrFun (zfn_q (by decide)) j).trans ?_
      rw [zup_nj (by omega), zup_nj (by omega), zup_nj (by omega), zup_nj (by omega), zup_nj g5, zup_nj g4, zup_nj g2, zup_nj g1]
    · refine (congrFun (zfn_q (by decide)) 34).trans ?_
      rw [zup_nj (by decide), zup_nj (by decide), zup_nj (by decide), zup_nj (by decide), zup_nj (by decide), zup_nj (by decide), zup_eq]
    · unfold C1r
      rw [zfn_q h2, zup_row h1, zup_row h1, zup_row h1, zup_row h1, zup_row h1, zup_row h1, zup_row h1, zup_row h1]
  by_cases c : r < 0
  · obtain ⟨Y, hYd⟩ : ∃ Y, Y = zup A' 1 11 0 := ⟨_, rfl⟩
    have hY : ∀ q, 194 ≤ q → Y q = a q := fun q hq => by rw [hYd, zup_row (by omega)]; exact f1 q (by omega)
    obtain ⟨r2, A2, C', e2, f2, f3, o⟩ := out Y hY
    obtain ⟨rfl, rfl⟩ := inj (e1.symm.trans e2)
    have eM : M_rule Y b = okI r C' b := by
      rcases o with ⟨_, o⟩ | ⟨o, _⟩
      · exact o
      · exact absurd c o
    obtain ⟨m1, m2, m3⟩ := num Y C' hY
    have yq : ∀ q, q < 194 → q ≠ 1 → ¬ (21 ≤ q ∧ q ≤ 25) → Y q = a q := fun q g1 g2 g3 => by rw [hYd, zup_row g2]; exact f1 q g3
    have cj : ∀ j, j ≠ 0 → j ≠ 34 → ¬ (25 ≤ j ∧ j ≤ 29) → j ≠ 35 → j ≠ 36 → C' 194 j = a 194 j := fun j g1 g2 g3 g4 g5 => (f3.2 j g3 g4).trans ((m1 j g1 g2 g3 g4 g5).trans (congrFun (hY 194 (by decide)) j))
    have cq : ∀ q, q ≠ 194 → ¬ (211 ≤ q ∧ q ≤ 214) → C' q = Y q := fun q g1 g2 => (f3.1 q g1 g2).trans (m3 q g1 (by omega))
    refine ⟨r, Y, b, C', b, ?_, fun j => congrFun (yq 0 (by decide) (by decide) (by decide)) j, eM, P, Q, T, 0, N, rel_tape hall (fun q hq => ?_) (fun j g1 g2 => ?_) ?_ (fun j hj => absurd hj (by omega))⟩
    · rw [q_X_rule, p1, e1, zcI_ok, zcond_t c, ← hYd, q_X_rule_35]
      exact okI_ret _ _ _
    · refine zmk_row ?_
      by_cases g : (21 ≤ q ∧ q ≤ 25) ∨ (211 ≤ q ∧ q ≤ 214)
      · exact .inr g
      · left
        rw [cq q hq.2.2.1 (by omega)]
        by_cases g2 : q < 194
        · exact yq q g2 hq.1 (by omega)
        · exact hY q (by omega)
    · show cond (zfr 194 j) 0 (C' 194 j) = cond (zfr 194 j) 0 (a 194 j)
      rw [cj j (by omega) (by omega) (by omega) (by omega) (by omega)]
    · have y1 : ∀ j, C' 1 j = zup a 1 11 0 1 j := fun j => by
        rw [cq 1 (by decide) (by decide), hYd]
        unfold zup
        rw [congrFun (f1 1 (by decide)) j]
      have z2 : zmask C' 2 = zmask a 2 := zmk_row (.inl ((cq 2 (by decide) (by decide)).trans (yq 2 (by decide) (by decide) (by decide))))
      have z12 : zmask C' 12 = zmask a 12 := zmk_row (.inl ((cq 12 (by decide) (by decide)).trans (yq 12 (by decide) (by decide) (by decide))))
      rw [z2, z12]
      refine ⟨⟨n1.1, (cj 3 (by decide) (by decide) (by decide) (by decide) (by decide)).trans n1.2.1, n1.2.2⟩, ⟨n4.1, (cj 7 (by decide) (by decide) (by decide) (by decide) (by decide)).trans n4.2.1, n4.2.2⟩, ⟨n5.1, (cj 15 (by decide) (by decide) (by decide) (by decide) (by decide)).trans n5.2.1, n5.2.2⟩, ⟨(y1 11).trans (zup_eq _ _ _ _), (f3.2 34 (by decide) (by decide)).trans m2, by decide⟩, ⟨((y1 12).trans (zup_nj (by decide))).trans n9.1, (cj 1 (by decide) (by decide) (by decide) (by decide) (by decide)).trans n9.2.1, n9.2.2⟩, (cj 37 (by decide) (by decide) (by decide) (by decide) (by decide)).trans n10, (cj 38 (by decide) (by decide) (by decide) (by decide) (by decide)).trans n11⟩
  · obtain ⟨Y, hYd⟩ : ∃ Y, Y = becX (zup A' 1 11 0) := ⟨_, rfl⟩
    have bq : ∀ q, ¬ (8 ≤ q ∧ q ≤ 11) → Y q = zup A' 1 11 0 q := fun q hq => by
      rw [hYd]
      funext j
      unfold becX
      rw [if_neg (by omega), if_neg (by omega), if_neg (by omega), if_neg (by omega)]
    have hY : ∀ q, 194 ≤ q → Y q = a q := fun q hq => by rw [bq q (by omega), zup_row (by omega)]; exact f1 q (by omega)
    obtain ⟨r2, A2, C', e2, f2, f3, o⟩ := out Y hY
    obtain ⟨rfl, rfl⟩ := inj (e1.symm.trans e2)
    obtain ⟨K', hK, eM, R⟩ : ∃ K', K' ≤ 9 ∧ M_rule Y b = okI r (becM C') b ∧ rRd K' A' C' := by
      rcases o with ⟨o, _⟩ | ⟨_, o⟩
      · exact absurd o c
      · exact o
    obtain ⟨m1, m2, m3⟩ := num Y C' hY
    have yq : ∀ q, q < 194 → q ≠ 1 → ¬ (8 ≤ q ∧ q ≤ 11) → ¬ (21 ≤ q ∧ q ≤ 25) → Y q = a q := fun q g1 g2 g3 g4 => by rw [bq q g3, zup_row g2]; exact f1 q g4
    have cq : ∀ q, q ≠ 194 → ¬ (211 ≤ q ∧ q ≤ 214) → C' q = Y q := fun q g1 g2 => (f3.1 q g1 g2).trans (m3 q g1 (by omega))
    obtain ⟨D, hDd⟩ : ∃ D, D = becM C' := ⟨_, rfl⟩
    have dq : ∀ q, q ≠ 194 → ¬ (207 ≤ q ∧ q ≤ 210) → D q = C' q := fun q g1 g2 => by
      rw [hDd]
      funext j
      unfold becM
      rw [if_neg (by omega), if_neg (by omega), if_neg (by omega), if_neg (by omega), if_neg (by omega)]
    have dj : ∀ j, j ≠ 17 → j ≠ 18 → j ≠ 19 → j ≠ 21 → D 194 j = C' 194 j := fun j g1 g2 g3 g4 => by
      rw [hDd]
      unfold becM
      rw [if_neg (by omega), if_neg (by omega), if_neg (by omega), if_neg (by omega), if_neg (by omega)]
    have cj : ∀ j, j ≠ 0 → j ≠ 34 → ¬ (17 ≤ j ∧ j ≤ 21) → ¬ (25 ≤ j ∧ j ≤ 29) → j ≠ 35 → j ≠ 36 → D 194 j = a 194 j := fun j g1 g2 g6 g3 g4 g5 => (dj j (by omega) (by omega) (by omega) (by omega)).trans ((f3.2 j g3 g4).trans ((m1 j g1 g2 g3 g4 g5).trans (congrFun (hY 194 (by decide)) j)))
    refine ⟨r, Y, b, D, b, ?_, fun j => congrFun (yq 0 (by decide) (by decide) (by decide) (by decide)) j, by rw [hDd]; exact eM, P, Q, T, 0, N, rel_rule hall (fun q hq => ?_) ?_ ?_ (fun j hj => absurd hj (by omega))⟩
    · rw [q_X_rule, p1, e1, zcI_ok, zcond_f c, x_become, zcV_ok, ← hYd, q_X_rule_35]
      exact okI_ret _ _ _
    · refine zmk_row ?_
      by_cases g : (21 ≤ q ∧ q ≤ 25) ∨ (211 ≤ q ∧ q ≤ 214)
      · exact .inr g
      · left
        rw [dq q hq.2.2.2.1 hq.2.2.2.2.1, cq q hq.2.2.2.1 (by omega)]
        by_cases g2 : q < 194
        · exact yq q g2 hq.1 hq.2.1 (by omega)
        · exact hY q (by omega)
    · have y1 : ∀ j, D 1 j = zup a 1 11 0 1 j := fun j => by
        rw [dq 1 (by decide) (by decide), cq 1 (by decide) (by decide), bq 1 (by decide)]
        unfold zup
        rw [congrFun (f1 1 (by decide)) j]
      have z2 : zmask D 2 = zmask a 2 := zmk_row (.inl ((dq 2 (by decide) (by decide)).trans ((cq 2 (by decide) (by decide)).trans (yq 2 (by decide) (by decide) (by decide) (by decide)))))
      have z12 : zmask D 12 = zmask a 12 := zmk_row (.inl ((dq 12 (by decide) (by decide)).trans ((cq 12 (by decide) (by decide)).trans (yq 12 (by decide) (by decide) (by decide) (by decide)))))
      rw [z2, z12]
      refine ⟨⟨n1.1, (cj 3 (by decide) (by decide) (by decide) (by decide) (by decide) (by decide)).trans n1.2.1, n1.2.2⟩, ⟨n4.1, (cj 7 (by decide) (by decide) (by decide) (by decide) (by decide) (by decide)).trans n4.2.1, n4.2.2⟩, ⟨n5.1, (cj 15 (by decide) (by decide) (by decide) (by decide) (by decide) (by decide)).trans n5.2.1, n5.2.2⟩, ⟨(y1 11).trans (zup_eq _ _ _ _), (dj 34 (by decide) (by decide) (by decide) (by decide)).trans ((f3.2 34 (by decide) (by decide)).trans m2), by decide⟩, ⟨((y1 12).trans (zup_nj (by decide))).trans n9.1, (cj 1 (by decide) (by decide) (by decide) (by decide) (by decide) (by decide)).trans n9.2.1, n9.2.2⟩, (cj 37 (by decide) (by decide) (by decide) (by decide) (by decide) (by decide)).trans n10, (cj 38 (by decide) (by decide) (by decide) (by decide) (by decide) (by decide)).trans n11⟩
    · obtain ⟨⟨⟨v1, w1, s1, s1'⟩, ⟨v2, w2, s2, s2'⟩, v3, w3, s3, s3'⟩, s4, s5, s6, s7⟩ := R
      have lo : ∀ q, (8 ≤ q ∧ q ≤ 11) → D q = Y q := fun q hq => (dq q (by omega) (by omega)).trans (cq q (by omega) (by omega))
      have x9 : ∀ j, j < 2 → D 9 j = A' 23 j := fun j hj => by rw [lo 9 (by decide), hYd]; exact if_pos ⟨rfl, hj⟩
      have x10 : ∀ j, j < 10 → D 10 j = A' 24 j := fun j hj => by
        rw [lo 10 (by decide), hYd]
        unfold becX
        rw [if_neg (by omega), if_pos ⟨rfl, hj⟩, zup_row (by decide)]
      have x11 : ∀ j, j < 1000 → D 11 j = A' 25 j := fun j hj => by
        rw [lo 11 (by decide), hYd]
        unfold becX
        rw [if_neg (by omega), if_neg (by omega), if_pos ⟨rfl, hj⟩, zup_row (by decide)]
      have x8 : D 8 3 = A' 22 3 := by
        rw [lo 8 (by decide), hYd]
        unfold becX
        rw [if_neg (by omega), if_neg (by omega), if_neg (by omega), if_pos ⟨rfl, rfl⟩, zup_row (by decide)]
      have d17 : D 194 17 = C' 194 25 := by rw [hDd]; exact if_pos ⟨rfl, rfl⟩
      have d18 : D 194 18 = C' 194 26 := by rw [hDd]; unfold becM; rw [if_neg (by omega), if_pos ⟨rfl, rfl⟩]
      have d19 : D 194 19 = C' 194 27 := by rw [hDd]; unfold becM; rw [if_neg (by omega), if_neg (by omega), if_pos ⟨rfl, rfl⟩]
      have d21 : D 194 21 = C' 194 29 := by rw [hDd]; unfold becM; rw [if_neg (by omega), if_neg (by omega), if_neg (by omega), if_pos ⟨rfl, rfl⟩]
      have dr : ∀ q j, 207 ≤ q → q ≤ 210 → j < 10 → D q j = C' (q + 4) j := fun q j g1 g2 g3 => by
        rw [hDd]
        unfold becM
        rw [if_neg (by omega), if_neg (by omega), if_neg (by omega), if_neg (by omega), if_pos ⟨⟨g1, g2⟩, g3⟩]
      have zl : ∀ q, q ≤ 20 ∨ (173 ≤ q ∧ q ≤ 210 ∧ q ≠ 194) → zmask D q = D q := fun q h => zm_lo h
      have zk : ∀ j, kf j → zmask D 194 j = D 194 j := fun j h => zm_kf h
      rw [zl 8 (by decide), zl 9 (by decide), zl 10 (by decide), zl 11 (by decide), zl 207 (by decide), zl 208 (by decide), zl 209 (by decide), zl 210 (by decide)]
      unfold rRule
      rw [zk 17 (by unfold kf; omega), zk 18 (by unfold kf; omega), zk 19 (by unfold kf; omega), zk 21 (by unfold kf; omega), d17, d18, d19, d21, x9 0 (by decide), x9 1 (by decide), x8, s1, s1', s2, s2', s3, s3', s5]
      refine ⟨⟨rfl, nI_le (a := 0) (by omega) (by omega), nI_le (b := 9) w1 (by decide)⟩, ⟨rfl, nI_le (a := 0) (by omega) (by omega), nI_le (b := 9) w2 (by decide)⟩, ⟨rfl, nI_le (a := 0) (by omega) (by omega), nI_le (b := 1023) (by omega) (by decide)⟩, fun j hj => ?_, K', by omega, rfl, fun k hk => ?_, fun p d hp hd => ?_⟩
      · obtain ⟨v, t1, t2, t3⟩ := s4 j hj
        rw [x10 j hj, dr 207 j (by decide) (by decide) hj, t2, t3]
        exact ⟨rfl, nI_le (a := 0) (by omega) (by omega), nI_le (b := 1023) (by omega) (by decide)⟩
      · rw [dr 208 k (by decide) (by decide) (by omega), dr 209 k (by decide) (by decide) (by omega), dr 210 k (by decide) (by decide) (by omega)]
        exact s6 k hk
      · rw [x11 _ (by omega)]
        obtain ⟨t1, t2⟩ := s7 p d hp hd
        refine ⟨t1, t2.trans ?_⟩
        constructor
        · rintro ⟨k, f, t, q1, q2, q3, q4, q5, q6⟩
          exact ⟨k, f, t, q1, q2, by rw [dr 208 k (by decide) (by decide) (by omega)]; exact q3, by rw [dr 209 k (by decide) (by decide) (by omega)]; exact q4, by rw [dr 210 k (by decide) (by decide) (by omega)]; exact q5, q6⟩
        · rintro ⟨k, f, t, q1, q2, q3, q4, q5, q6⟩
          rw [dr 208 k (by decide) (by decide) (by omega)] at q3
          rw [dr 209 k (by decide) (by decide) (by omega)] at q4
          rw [dr 210 k (by decide) (by decide) (by omega)] at q5
          exact ⟨k, f, t, q1, q2, q3, q4, q5, q6⟩
