/-! days by kinds: go. -/
def kE (k P T p : Nat) : Int32 := if k = 0 then (if p < P then nI ((p + T) % P) else -1) else if k = 1 then (if 2 * p + T % 2 < P then nI (2 * p + T % 2) else -1) else zzE P T p
theorem zz_mod (n d p : Nat) : zz n (d % n) p = zz n d p := by
  unfold zz
  rw [Nat.mod_add_mod]
theorem zz_rowG {n d Q : Nat} (hn : 1 ≤ n) (hn2 : n ≤ 10) (hQ : Q ≤ 10) : ∀ p q, p < Q → q < Q → p ≠ q → zzE n d p = zzE n d q → zzE n d p = -1 := by
  intro p q hp hq h e
  have lt : ∀ p, zz n d p < n := fun p => Nat.mod_lt _ hn
  unfold zzE at e ⊢
  by_cases c : p < n
  · rw [if_pos c] at e ⊢
    by_cases c2 : q < n
    · rw [if_pos c2, nI_eq (by have := lt p; omega) (by have := lt q; omega), ← zz_mod, ← zz_mod n d q] at e
      exact absurd e (zz_tab ⟨n, by omega⟩ ⟨d % n, by have := Nat.mod_lt d hn; omega⟩ ⟨p, by omega⟩ ⟨q, by omega⟩ c c2 h)
    · rw [if_neg c2] at e
      exact e
  · rw [if_neg c]
set_option maxRecDepth 100000 in
theorem rr_tab : ∀ n : Fin 11, ∀ d : Fin 11, ∀ p : Fin 10, ∀ q : Fin 10, p.val < n.val → q.val < n.val → p.val ≠ q.val → (p.val + d.val) % n.val ≠ (q.val + d.val) % n.val := by decide +kernel
theorem kE_row {k P T Q : Nat} (hP : 1 ≤ P) (hP2 : P ≤ 10) (hQ : Q ≤ 10) : rowOk P Q (fun p => if p < Q then kE k P T p else -1) := by
  refine ⟨fun p hp => ?_, fun p q hp hq h e => ?_, fun p h1 h2 => if_neg (by omega)⟩
  · show rOne P (if p < Q then kE k P T p else -1)
    rw [if_pos hp]
    unfold kE
    by_cases c : k = 0
    · rw [if_pos c]
      by_cases c2 : p < P
      · rw [if_pos c2]; exact .inr ⟨_, Nat.mod_lt _ hP, rfl⟩
      · rw [if_neg c2]; exact .inl rfl
    · rw [if_neg c]
      by_cases c1 : k = 1
      · rw [if_pos c1]
        by_cases c2 : 2 * p + T % 2 < P
        · rw [if_pos c2]; exact .inr ⟨_, c2, rfl⟩
        · rw [if_neg c2]; exact .inl rfl
      · rw [if_neg c1]
        unfold zzE
        by_cases c2 : p < P
        · rw [if_pos c2]; exact .inr ⟨_, Nat.mod_lt _ hP, rfl⟩
        · rw [if_neg c2]; exact .inl rfl
  · have e : (if p < Q then kE k P T p else -1) = (if q < Q then kE k P T q else -1) := e
    show (if p < Q then kE k P T p else -1) = -1
    rw [if_pos hp, if_pos hq] at e
    rw [if_pos hp]
    unfold kE at e ⊢
    by_cases c : k = 0
    · rw [if_pos c] at e ⊢
      rw [if_pos c] at e
      by_cases c2 : p < P
      · rw [if_pos c2] at e ⊢
        by_cases c3 : q < P
        · have l1 := Nat.mod_lt (p + T) hP
          have l2 := Nat.mod_lt (q + T) hP
          rw [if_pos c3, nI_eq (by omega) (by omega), ← Nat.add_mod_mod p, ← Nat.add_mod_mod q] at e
          exact absurd e (rr_tab ⟨P, by omega⟩ ⟨T % P, by have := Nat.mod_lt T hP; omega⟩ ⟨p, by omega⟩ ⟨q, by omega⟩ c2 c3 h)
        · rw [if_neg c3] at e
          exact e
      · rw [if_neg c2]
    · rw [if_neg c] at e ⊢
      rw [if_neg c] at e
      by_cases c1 : k = 1
      · rw [if_pos c1] at e ⊢
        rw [if_pos c1] at e
        by_cases c2 : 2 * p + T % 2 < P
        · rw [if_pos c2] at e ⊢
          by_cases c3 : 2 * q + T % 2 < P
          · rw [if_pos c3, nI_eq (by omega) (by omega)] at e
            omega
          · rw [if_neg c3] at e
            exact e
        · rw [if_neg c2]
      · rw [if_neg c1] at e ⊢
        rw [if_neg c1] at e
        exact zz_rowG hP hP2 hQ p q hp hq h e
theorem x_kind {k P T p : Nat} {a : zA} {b : zB} (hP : 1 ≤ P) (hP2 : P ≤ 10) (hT : T ≤ 60) (hp : p < 10) (hk : k ≤ 2) (h1 : a 2 0 = nI P) (h2 : a 12 6 = nI T) : ∃ y, X_oneByKind (nI k) (nI p) a b = okI y a b ∧ (if ¬ y < 0 ∧ y < nI P then y else -1) = kE k P T p := by
  have pk : ∀ v, v < P → (if ¬ nI v < 0 ∧ nI v < nI P then nI v else (-1 : Int32)) = nI v := fun v hv => if_pos ⟨nI_pos (by omega), nI_lt hv (by omega)⟩
  have pm : (if ¬ (-1 : Int32) < 0 ∧ (-1 : Int32) < nI P then (-1 : Int32) else -1) = -1 := if_neg (fun z => z.1 (by decide))
  rw [q_X_oneByKind, h1, h2]
  unfold kE
  by_cases c0 : k = 0
  · subst c0
    rw [zcond_f (show ¬ nI 0 = 1 by decide), if_pos rfl]
    by_cases c2 : p < P
    · refine ⟨nI ((p + T) % P), ?_, ?_⟩
      · rw [zcond_t (nI_lt c2 (by omega)), zcond_t (show nI 0 = 0 from rfl), zcond_f (show ¬ nI P = 0 from fun z => absurd ((nI_eq (by omega) (by decide)).mp (show nI P = nI 0 from z)) (by omega)), nI_add, pk_rem (by omega) (by omega) (by omega), q_X_oneByKind_74]
        exact okI_ret _ _ _
      · rw [if_pos c2]; exact pk _ (Nat.mod_lt _ hP)
    · refine ⟨-1, ?_, ?_⟩
      · rw [zcond_f (nI_nlt (by omega) (by omega))]
        exact okI_ret _ _ _
      · rw [if_neg c2]; exact pm
  · rw [if_neg c0]
    by_cases c1 : k = 1
    · subst c1
      rw [if_pos rfl]
      refine ⟨nI (2 * p + T % 2), ?_, ?_⟩
      · rw [zcond_t (show nI 1 = 1 from rfl), zcond_f (show ¬ (2 : Int32) = 0 by decide), rem2 (by omega), show (2 : Int32) = nI 2 from rfl, s_mul]
        exact okI_ret _ _ _
      · by_cases c2 : 2 * p + T % 2 < P
        · rw [if_pos c2]; exact pk _ c2
        · rw [if_neg c2, if_neg (fun z => nI_nlt (show P ≤ 2 * p + T % 2 by omega) (by omega) z.2)]
    · have k2 : k = 2 := by omega
      subst k2
      rw [if_neg c1, zcond_f (show ¬ nI 2 = 1 by decide), zcond_f (show ¬ nI 2 = 0 by decide)]
      unfold zzE
      by_cases c2 : p < P
      · refine ⟨nI (zz P T p), ?_, ?_⟩
        · rw [zcond_t (nI_lt c2 (by omega)), x_zig hP hP2 (by omega) c2, zcI_ok, q_X_oneByKind_74]
          exact okI_ret _ _ _
        · rw [if_pos c2]; exact pk _ (Nat.mod_lt _ hP)
      · refine ⟨-1, ?_, ?_⟩
        · rw [zcond_f (nI_nlt (by omega) (by omega))]
          exact okI_ret _ _ _
        · rw [if_neg c2]; exact pm
theorem m_kind {k P T p : Nat} {a : zA} {b : zB} (hP : 1 ≤ P) (hP2 : P ≤ 10) (hT : T ≤ 60) (hp : p < 10) (hk : k ≤ 2) (h1 : a 194 3 = nI P) (h2 : a 194 15 = nI T) : M_byKind (nI k) (nI p) a b = okI (kE k P T p) a b := by
  rw [q_M_byKind, h1, h2]
  unfold kE
  by_cases c0 : k = 0
  · subst c0
    rw [zcond_t (show nI 0 = 0 from rfl), if_pos rfl]
    by_cases c2 : p < P
    · rw [zcond_t (nI_lt c2 (by omega)), zcond_f (show ¬ nI P = 0 from fun z => absurd ((nI_eq (by omega) (by decide)).mp (show nI P = nI 0 from z)) (by omega)), nI_add, pk_rem (by omega) (by omega) (by omega), q_M_byKind_27, if_pos c2]
      exact okI_ret _ _ _
    · rw [zcond_f (nI_nlt (by omega) (by omega)), q_M_byKind_27, if_neg c2]
      exact okI_ret _ _ _
  · rw [if_neg c0, zcond_f (show ¬ nI k = 0 from fun z => c0 ((nI_eq (by omega) (by decide)).mp (show nI k = nI 0 from z)))]
    by_cases c1 : k = 1
    · subst c1
      rw [if_pos rfl, zcond_t (show nI 1 = 1 from rfl), zcond_f (show ¬ (2 : Int32) = 0 by decide), rem2 (by omega), show (2 : Int32) = nI 2 from rfl, s_mul]
      by_cases c2 : 2 * p + T % 2 < P
      · rw [zcond_t (nI_lt c2 (by omega)), zcond_f (show ¬ nI 2 = 0 by decide), q_M_byKind_64, if_pos c2]
        exact okI_ret _ _ _
      · rw [zcond_f (nI_nlt (by omega) (by omega)), q_M_byKind_64, if_neg c2]
        exact okI_ret _ _ _
    · have k2 : k = 2 := by omega
      subst k2
      rw [if_neg c1, zcond_f (show ¬ nI 2 = 1 by decide)]
      unfold zzE
      by_cases c2 : p < P
      · rw [zcond_t (nI_lt c2 (by omega)), m_zig hP hP2 (by omega) c2, zcI_ok, q_M_byKind_89, if_pos c2]
        exact okI_ret _ _ _
      · rw [zcond_f (nI_nlt (by omega) (by omega)), q_M_byKind_89, if_neg c2]
        exact okI_ret _ _ _
/-- the draft by a kind, in both memories -/
theorem kind_go {L : Nat} {xs : Nat → Int32} {P Q T G N k : Nat} {a c : zA} {b b' : zB} (h : rAll L xs P Q T G N (zmask (cmb a c))) (hP : 1 ≤ P) (hk : k ≤ 2) (v2 v3 v4 : Int32) : ∃ a' c', X_draftByKind (nI k) a b = okV a' b ∧ M_go_73 (nI k) v2 v3 v4 0 c b' = M_go_111 (nI k) v2 v3 v4 c' b' ∧ rAll L xs P Q T G N (zmask (cmb a' c')) ∧ (∀ q, q ≠ 13 → a' q = a q) ∧ (∀ q, q ≠ 206 → c' q = c q) := by
  obtain ⟨W, S, hv⟩ := pr_vw h
  obtain ⟨g1, g2, g3, g4, g5⟩ := hv.1
  have hR := vw_row hv T (Nat.le_refl T)
  obtain ⟨⟨p1, p2⟩, ⟨q1, q2⟩, ⟨t1, t2⟩, -⟩ := hv.2.1
  obtain ⟨g, hg⟩ : ∃ g : Nat → Int32, g = fun p => if p < Q then kE k P T p else -1 := ⟨_, rfl⟩
  have hg1 : ∀ q, q < Q → g q = kE k P T q := fun q hq => by rw [hg]; exact if_pos hq
  have hg2 : ∀ q, Q ≤ q → g q = -1 := fun q h1 => by rw [hg]; exact if_neg (by omega)
  have hrow : rowOk P Q g := hg ▸ kE_row hP g1 g2
  have sX : ∀ i, i < Q → X_draftByKind_2 (nI k) (nI i) (zfo a 13 (10 * T) 10 (fun k => if k < i then g k else a 13 (10 * T + k))) b = X_draftByKind_2 (nI k) (nI (i + 1)) (zfo a 13 (10 * T) 10 (fun k => if k < i + 1 then g k else a 13 (10 * T + k))) b := by
    intro i hi
    have r : ∀ q, q ≠ 13 → zfo a 13 (10 * T) 10 (fun k => if k < i then g k else a 13 (10 * T + k)) q = a q := fun q hq => zfo_q hq
    obtain ⟨y, e1, e2⟩ := x_kind (k := k) (T := T) (p := i) (b := b) hP g1 g3 (by omega) hk ((congrFun (r 2 (by decide)) 0).trans p1) ((congrFun (r 12 (by decide)) 6).trans t1)
    have e3 : ∀ x, S_place (nI i) x (zfo a 13 (10 * T) 10 (fun k => if k < i then g k else a 13 (10 * T + k))) b = okV (zfo a 13 (10 * T) 10 (fun k => if k = i then x else if k < i then g k else a 13 (10 * T + k))) b := fun x => x_putD g3 (by omega) t1 x
    have e4 : zfo a 13 (10 * T) 10 (fun k => if k = i then g i else if k < i then g k else a 13 (10 * T + k)) = zfo a 13 (10 * T) 10 (fun k => if k < i + 1 then g k else a 13 (10 * T + k)) := zfo_c fun k hk => by
      by_cases c : k = i
      · rw [if_pos c, if_pos (by omega), c]
      · rw [if_neg c]
        by_cases c2 : k < i
        · rw [if_pos c2, if_pos (by omega)]
        · rw [if_neg c2, if_neg (by omega)]
    rw [q_X_draftByKind_2, congrFun (r 2 (by decide)) 1, q1, zcond_t (nI_lt hi (by omega)), e1, zcI_ok, s_hasPerson ((congrFun (r 2 (by decide)) 0).trans p1), zcI_ok]
    have key : g i = kE k P T i := hg1 i hi
    rw [← e2] at key
    by_cases c : ¬ y < 0 ∧ y < nI P
    · rw [if_pos c] at key ⊢
      rw [zcond_f (by decide), q_X_draftByKind_41, ← key, e3, e4, zcV_ok, nI_1]
    · rw [if_neg c] at key ⊢
      rw [zcond_t rfl, q_X_draftByKind_41, ← key, e3, e4, zcV_ok, nI_1]
  have lX := lpC (F := fun i => X_draftByKind_2 (nI k) (nI i) (zfo a 13 (10 * T) 10 (fun k => if k < i then g k else a 13 (10 * T + k))) b) sX Q 0 (Nat.zero_add _)
  rw [show zfo a 13 (10 * T) 10 (fun k => if k < 0 then g k else a 13 (10 * T + k)) = a from (zfo_c fun k _ => if_neg (Nat.not_lt_zero k)).trans (zfo_id a 13 (10 * T) 10), show zfo a 13 (10 * T) 10 (fun k => if k < Q then g k else a 13 (10 * T + k)) = zfo a 13 (10 * T) 10 g from zfo_c fun k hk => by
    by_cases c : k < Q
    · rw [if_pos c]
    · rw [if_neg c, hg2 k (by omega)]
      exact hR.2.2 k (by omega) hk] at lX
  have k3 : ¬ nI k = 3 := fun z => absurd ((nI_eq (by omega) (by decide)).mp (show nI k = nI 3 from z)) (by omega)
  have sM : ∀ i, i < Q → M_go_73 (nI k) v2 v3 v4 (nI i) (zfo c 206 630 i g) b' = M_go_73 (nI k) v2 v3 v4 (nI (i + 1)) (zfo c 206 630 (i + 1) g) b' := by
    intro i hi
    have r : ∀ q, q ≠ 206 → zfo c 206 630 i g q = c q := fun q hq => zfo_q hq
    rw [q_M_go_73, congrFun (r 194 (by decide)) 7, q2, zcond_t (nI_lt hi (by omega)), zcond_f k3, m_kind hP g1 g3 (by omega) hk ((congrFun (r 194 (by decide)) 3).trans p2) ((congrFun (r 194 (by decide)) 15).trans t2), zcI_ok, ← hg1 i hi, ← zfo_s]
    simp (disch := omega) only [zqA0, zqB0, zqC0, zqD0, zqE0, zqF0, zqG0, zqH0, zqA1, zqB1, zqC1, zqD1, zqE1, zqF1, zqG1, zqH1, zqA2, zqB2, zqC2, zqD2, zqE2, zqF2, zqG2, zqH2, zqA3, zqB3, zqC3, zqD3, zqE3, zqF3, zqG3, zqH3, zqA4, zqB4, zqC4, zqD4, zqE4, zqF4, zqG4, zqH4, zqA5, zqB5, zqC5, zqD5, zqE5, zqF5, zqG5, zqH5, zqA6, zqB6, zqC6, zqD6, zqE6, zqF6, zqG6, zqH6, zqA8, zqB8, zqC8, zqD8, zqE8, zqF8, zqG8, zqH8, zqA9, zqB9, zqC9, zqD9, zqE9, zqF9, zqG9, zqH9, zqA10, zqB10, zqC10, zqD10, zqE10, zqF10, zqG10, zqH10, zqA11, zqB11, zqC11, zqD11, zqE11, zqF11, zqG11, zqH11, zqA16, zqB16, zqC16, zqD16, zqE16, zqF16, zqG16, zqH16, zqA18, zqB18, zqC18, zqD18, zqE18, zqF18, zqG18, zqH18, zqA20, zqB20, zqC20, zqD20, zqE20, zqF20, zqG20, zqH20, zqA60, zqB60, zqC60, zqD60, zqE60, zqF60, zqG60, zqH60, zqA63, zqB63, zqC63, zqD63, zqE63, zqF63, zqG63, zqH63, zqA80, zqB80, zqC80, zqD80, zqE80, zqF80, zqG80, zqH80, zqA100, zqB100, zqC100, zqD100, zqE100, zqF100, zqG100, zqH100, zqA120, zqB120, zqC120, zqD120, zqE120, zqF120, zqG120, zqH120, zqA630, zqB630, zqC630, zqD630, zqE630, zqF630, zqG630, zqH630, zqA1000, zqB1000, zqC1000, zqD1000, zqE1000, zqF1000, zqG1000, zqH1000, zqA1010, zqB1010, zqC1010, zqD1010, zqE1010, zqF1010, zqG1010, zqH1010, zqA5000, zqB5000, zqC5000, zqD5000, zqE5000, zqF5000, zqG5000, zqH5000, zz_p01, zz_p02, zz_p03, zz_p04, zz_p05, zz_p06, zz_p10, zz_p12, zz_p13, zz_p14, zz_p15, zz_p16, zz_p20, zz_p21, zz_p23, zz_p24, zz_p25, zz_p26, zz_p30, zz_p31, zz_p32, zz_p34, zz_p35, zz_p36, zz_p40, zz_p41, zz_p42, zz_p43, zz_p45, zz_p46, zz_p50, zz_p51, zz_p52, zz_p53, zz_p54, zz_p56, zz_p60, zz_p61, zz_p62, zz_p63, zz_p64, zz_p65, zz_q1, zz_w1, zz_q2, zz_w2, zz_q3, zz_w3, zz_q4, zz_w4, zz_q5, zz_w5, zz_q6, zz_w6, zz_w0, zz_m1, zz_lt, zz_01, zz_le, zz_eq, zz_n1, zz_in, zz_cl, zz_max, zz_min, zz_minN, zz_maxN, zz_02, zz_12, zz_c0, zz_c1, zz_b0, zz_b1, zz_bb, zz_d00, zz_d10, zz_neg, nI_add, pk_mul, zc_b0, zc_b1, cond_true, cond_false, zcI_ok, zcV_ok, okI_ret, okV_ret, zz_sub, zcond_t, zcond_f, bI_t, bI_f, eq_self, decide_true, decide_false, Bool.false_or, Bool.true_or, Bool.or_false, Bool.or_true, Bool.and_true, Bool.true_and, Bool.and_false, Bool.false_and, Bool.not_true, Bool.not_false, if_true, if_false]
  have lM := lpC (F := fun i => M_go_73 (nI k) v2 v3 v4 (nI i) (zfo c 206 630 i g) b') sM Q 0 (Nat.zero_add _)
  rw [zfo_0] at lM
  refine ⟨zfo a 13 (10 * T) 10 g, zfo c 206 630 Q g, ?_, ?_, ?_, fun q h1 => zfo_q h1, fun q h1 => zfo_q h1⟩
  · rw [q_X_draftByKind]
    refine Eq.trans lX ?_
    rw [q_X_draftByKind_2, show zfo a 13 (10 * T) 10 g 2 1 = nI Q from (congrFun (zfo_q (by decide)) 1).trans q1, zcond_f (nI_nlt (Nat.le_refl _) (by omega))]
    exact okV_ret _ _
  · refine Eq.trans lM ?_
    rw [q_M_go_73, show zfo c 206 630 Q g 194 7 = nI Q from (congrFun (zfo_q (by decide)) 7).trans q2, zcond_f (nI_nlt (Nat.le_refl _) (by omega))]
  · have e8 : cmb (zfo a 13 (10 * T) 10 g) (zfo c 206 630 Q g) = zfo (zfo (cmb a c) 13 (10 * T) 10 g) 206 630 Q g := by
      funext q j
      by_cases cc : q < 194
      · refine (congrFun (cmb_a cc) j).trans ?_
        unfold zfo
        rw [if_neg (show ¬ (q = 206 ∧ 630 ≤ j ∧ j < 630 + Q) from fun z => by omega), cmb_a cc]
      · refine (congrFun (cmb_c (by omega)) j).trans ?_
        unfold zfo
        rw [if_neg (show ¬ (q = 13 ∧ 10 * T ≤ j ∧ j < 10 * T + 10) from fun z => by omega), cmb_c (by omega)]
    rw [e8, zm_fo (fun _ => rfl), zm_fo (fun _ => rfl)]
    exact rel_draft h hrow
