/-! The reference's search from the back: how many days to one. -/
def FQ (C C0 : zA) : Prop := ∀ q, q ≠ 225 → q ≠ 226 → C q = C0 q
/-- what is known while the search goes on: n are queued, k of them done -/
def BQ (L : Nat) (R : Nat → Nat → Bool) (z n k : Nat) (QD : Nat → Bool) (dv q : Nat → Nat) (C : zA) : Prop :=
  (∀ a, a < L → C 225 a = cond (QD a) (nI (dv a)) (-1)) ∧ (∀ i, i < n → C 226 i = nI (q i)) ∧ n = cnt QD L ∧ (∀ i, i < n → q i < L ∧ QD (q i) = true) ∧ (∀ a, a < L → QD a = true → ∃ i, i < n ∧ q i = a) ∧
  (∀ a, a < L → QD a = true → wkB L R (dv a) a z ∧ dv a < n) ∧ (∀ i j, i ≤ j → j < n → dv (q i) ≤ dv (q j)) ∧ (k < n → ∀ i, i < n → dv (q i) ≤ dv (q k) + 1) ∧ (∀ i, i < k → ∀ a, a < L → R a (q i) = true → QD a = true ∧ dv a ≤ dv (q i) + 1) ∧ (z < L ∧ QD z = true ∧ dv z = 0)
def upB (f : Nat → Bool) (a : Nat) : Nat → Bool := fun x => f x || decide (x = a)
def upD (f : Nat → Nat) (a v : Nat) : Nat → Nat := fun x => if x = a then v else f x
theorem cnt_add1 {U : Nat → Bool} {i : Nat} : ∀ n, i < n → U i = false → cnt (upB U i) n = cnt U n + 1
  | 0, h, _ => absurd h (Nat.not_lt_zero _)
  | n + 1, h, g => by
    unfold cnt
    by_cases c : i = n
    · subst c
      have e : cnt (upB U i) i = cnt U i := cnt_c i (fun x hx => by
        unfold upB
        rw [decide_eq_false (show ¬ x = i by omega), Bool.or_false])
      rw [e, g, show upB U i i = true by unfold upB; rw [decide_eq_true rfl, Bool.or_true]]
      rfl
    · have ih := cnt_add1 (U := U) n (by omega) g
      rw [ih, show upB U i n = U n by unfold upB; rw [decide_eq_false (show ¬ n = i by omega), Bool.or_false]]
      omega
theorem bq_push {L : Nat} {R : Nat → Nat → Bool} {z n k a : Nat} {QD : Nat → Bool} {dv q : Nat → Nat} {C : zA} (h : BQ L R z n k QD dv q C) (hk : k < n) (ha : a < L) (hq : QD a = false) (hr : R a (q k) = true) : BQ L R z (n + 1) k (upB QD a) (upD dv a (dv (q k) + 1)) (upD q n a) (zup (zup C 225 a (nI (dv (q k) + 1))) 226 n (nI a)) ∧ upD q n a k = q k ∧ upD dv a (dv (q k) + 1) (q k) = dv (q k) := by
  obtain ⟨h1, h2, h3, h4, h5, h6, h7, h8, h9, h10, h11, h12⟩ := h
  have ne : ∀ x, QD x = true → x ≠ a := fun x hx e => by rw [e, hq] at hx; exact absurd hx (by decide)
  have dq : ∀ x, QD x = true → upD dv a (dv (q k) + 1) x = dv x := fun x hx => if_neg (ne x hx)
  have da : upD dv a (dv (q k) + 1) a = dv (q k) + 1 := if_pos rfl
  have qn : ∀ i, i < n → upD q n a i = q i := fun i hi => if_neg (by omega)
  have qe : upD q n a n = a := if_pos rfl
  have bq : ∀ x, QD x = true → upB QD a x = true := fun x hx => by unfold upB; rw [hx]; rfl
  have ba : upB QD a a = true := by unfold upB; rw [decide_eq_true rfl, Bool.or_true]
  have inv : ∀ x, upB QD a x = true → QD x = true ∨ x = a := fun x hx => by
    unfold upB at hx
    rw [Bool.or_eq_true, decide_eq_true_iff] at hx
    exact hx
  have dk : dv (q k) < n := (h6 (q k) (h4 k hk).1 (h4 k hk).2).2
  refine ⟨⟨fun x hx => ?_, fun i hi => ?_, ?_, fun i hi => ?_, fun x hx hd => ?_, fun x hx hd => ?_, fun i j hij hj => ?_, fun _ i hi => ?_, fun i hi x hx hrx => ?_, h10, bq z h11, ?_⟩, qn k hk, dq _ (h4 k hk).2⟩
  · rw [zup_ne (by decide)]
    by_cases c : x = a
    · rw [c, zup_eq, ba, cond_true, da]
    · rw [zup_nj c, h1 x hx]
      unfold upB upD
      rw [decide_eq_false c, Bool.or_false, if_neg c]
  · by_cases c : i = n
    · rw [c, zup_eq, qe]
    · rw [zup_nj c, zup_ne (by decide), qn i (by omega)]
      exact h2 i (by omega)
  · rw [cnt_add1 L ha hq, ← h3]
  · by_cases c : i = n
    · rw [c, qe]; exact ⟨ha, ba⟩
    · rw [qn i (by omega)]; exact ⟨(h4 i (by omega)).1, bq _ (h4 i (by omega)).2⟩
  · rcases inv x hd with g | g
    · obtain ⟨i, g1, g2⟩ := h5 x hx g
      exact ⟨i, by omega, by rw [qn i g1]; exact g2⟩
    · exact ⟨n, Nat.lt_succ_self n, by rw [qe, g]⟩
  · rcases inv x hd with g | g
    · rw [dq x g]
      have := h6 x hx g
      exact ⟨this.1, by omega⟩
    · rw [g, da]
      exact ⟨⟨q k, (h4 k hk).1, hr, (h6 (q k) (h4 k hk).1 (h4 k hk).2).1⟩, by omega⟩
  · by_cases c : j = n
    · rw [c, qe, da]
      by_cases d : i = n
      · rw [d, qe, da]; exact Nat.le_refl _
      · rw [qn i (by omega), dq _ (h4 i (by omega)).2]
        exact h8 hk i (by omega)
    · rw [qn i (by omega), qn j (by omega), dq _ (h4 i (by omega)).2, dq _ (h4 j (by omega)).2]
      exact h7 i j hij (by omega)
  · rw [qn k hk, dq _ (h4 k hk).2]
    by_cases c : i = n
    · rw [c, qe, da]; exact Nat.le_refl _
    · rw [qn i (by omega), dq _ (h4 i (by omega)).2]
      exact h8 hk i (by omega)
  · rw [qn i (by omega)] at hrx ⊢
    have g := h9 i hi x hx hrx
    rw [dq _ (h4 i (by omega)).2, dq x g.1]
    exact ⟨bq x g.1, g.2⟩
  · rw [dq z h11]; exact h12
theorem m_scan {L : Nat} {R : Nat → Nat → Bool} {z : Nat} {C0 : zA} (b : zB) (hL : L ≤ 120) (h47 : C0 194 47 = nI L) (hR : LD L R C0) {k : Nat} : ∀ m a n QD dv q C, a + m = L → k < n → FQ C C0 → BQ L R z n k QD dv q C → (∀ a', a' < a → R a' (q k) = true → QD a' = true ∧ dv a' ≤ dv (q k) + 1) → ∃ n' QD' dv' q' C', M_reaches_49 (nI n) (nI k) (nI a) C b = M_reaches_41 (nI n') (nI (k + 1)) C' b ∧ k < n' ∧ FQ C' C0 ∧ BQ L R z n' k QD' dv' q' C' ∧ ∀ a', a' < L → R a' (q' k) = true → QD' a' = true ∧ dv' a' ≤ dv' (q' k) + 1 := by
  intro m
  induction m with
  | zero =>
    intro a n QD dv q C e hk hF hB hs
    have : a = L := by omega
    subst this
    refine ⟨n, QD, dv, q, C, ?_, hk, hF, hB, hs⟩
    rw [q_M_reaches_49, hF 194 (by decide) (by decide), h47, zcond_f (nI_nlt (Nat.le_refl _) (by omega)), nI_1]
  | succ m ih =>
    intro a n QD dv q C e hk hF hB hs
    have ha : a < L := by omega
    obtain ⟨h1, h2, h3, h4, h5, h6, h7, h8, h9, h10⟩ := id hB
    have hn : n ≤ L := by rw [h3]; exact cnt_le _ _
    have nx : ∀ n' C', M_reaches_119 (nI n') (nI k) (nI a) C' b = M_reaches_49 (nI n') (nI k) (nI (a + 1)) C' b := fun n' C' => by rw [q_M_reaches_119, nI_1]
    have qk := h4 k hk
    have dk := (h6 (q k) qk.1 qk.2).2
    have stay : (R a (q k) = true → QD a = true ∧ dv a ≤ dv (q k) + 1) → ∃ n' QD' dv' q' C', M_reaches_49 (nI n) (nI k) (nI (a + 1)) C b = M_reaches_41 (nI n') (nI (k + 1)) C' b ∧ k < n' ∧ FQ C' C0 ∧ BQ L R z n' k QD' dv' q' C' ∧ ∀ a', a' < L → R a' (q' k) = true → QD' a' = true ∧ dv' a' ≤ dv' (q' k) + 1 := fun g => ih (a + 1) n QD dv q C (by omega) hk hF hB (fun a' ha' hr => by
      by_cases c : a' = a
      · rw [c] at hr ⊢; exact g hr
      · exact hs a' (by omega) hr)
    rw [q_M_reaches_49, hF 194 (by decide) (by decide), h47, zcond_t (nI_lt ha (by omega)), zin_nI (n := 120) (by omega) (by decide), cond_true, show (nI a).toNatClampNeg = a from nI_clamp (by omega), h1 a ha, nx]
    cases cq : QD a
    · rw [cond_false, zcond_t (show (-1 : Int32) < 0 by decide), zin_nI (n := 120) (by omega) (by decide), cond_true, show (nI k).toNatClampNeg = k from nI_clamp (by omega), h2 k hk, show (120 : Int32) * nI a + nI (q k) = nI (120 * a + q k) from s_mul 120 a (q k), zin_nI (n := 14400) (by omega) (by decide), cond_true, show (nI (120 * a + q k)).toNatClampNeg = 120 * a + q k from nI_clamp (by omega), congrFun (hF 222 (by decide) (by decide)) _, hR a ha (q k) qk.1, zc_b0]
      cases cr : R a (q k)
      · exact stay (fun z => by rw [cr] at z; exact absurd z (by decide))
      · have n120 : n < 120 := by
          have := cnt_add1 (U := QD) L ha cq
          have := cnt_le (upB QD a) L
          omega
        obtain ⟨g1, g2, g3⟩ := bq_push hB hk ha cq cr
        rw [cond_true, zin_nI (n := 120) (show q k < 120 by omega) (by decide), cond_true, zin_nI (n := 120) n120 (by decide), cond_true, show (nI (q k)).toNatClampNeg = q k from nI_clamp (by omega), h1 (q k) qk.1, qk.2, cond_true, cond_true, cond_true, nI_1, nI_1, show (nI n).toNatClampNeg = n from nI_clamp (by omega), nx]
        refine ih (a + 1) (n + 1) _ _ _ _ (by omega) (by omega) (fun r e1 e2 => by rw [zup_row e2, zup_row e1]; exact hF r e1 e2) g1 (fun a' ha' hr => ?_)
        rw [g2] at hr ⊢
        rw [g3]
        by_cases c : a' = a
        · rw [c]
          exact ⟨by unfold upB; rw [decide_eq_true rfl, Bool.or_true], by unfold upD; rw [if_pos rfl]; exact Nat.le_refl _⟩
        · have g := hs a' (by omega) hr
          exact ⟨by unfold upB; rw [g.1]; rfl, by unfold upD; rw [if_neg c]; exact g.2⟩
    · have da := (h6 a ha cq).2
      rw [cond_true, zcond_f (nI_pos (by omega))]
      refine stay (fun _ => ⟨cq, ?_⟩)
      obtain ⟨i, i1, i2⟩ := h5 a ha cq
      rw [← i2]
      exact h8 hk i i1
/-- the fewest days to one, written -/
def RD (L : Nat) (R : Nat → Nat → Bool) (z : Nat) (C : zA) : Prop := ∀ a, a < L → (C 225 a = -1 ∧ ∀ s, ¬ wkB L R s a z) ∨ ∃ d, d < 120 ∧ C 225 a = nI d ∧ wkB L R d a z ∧ ∀ s, s < d → ¬ wkB L R s a z
theorem bq_done {L : Nat} {R : Nat → Nat → Bool} {z n : Nat} {QD : Nat → Bool} {dv q : Nat → Nat} {C : zA} (hL : L ≤ 120) (h : BQ L R z n n QD dv q C) : RD L R z C := by
  obtain ⟨h1, h2, h3, h4, h5, h6, h7, h8, h9, h10, h11, h12⟩ := h
  have hn : n ≤ L := by rw [h3]; exact cnt_le _ _
  have low : ∀ s a, a < L → wkB L R s a z → QD a = true ∧ dv a ≤ s := by
    intro s
    induction s with
    | zero =>
      intro a ha hw
      have : a = z := hw
      rw [this]
      exact ⟨h11, by omega⟩
    | succ s ih =>
      rintro a ha ⟨x, x1, x2, x3⟩
      obtain ⟨g1, g2⟩ := ih x x1 x3
      obtain ⟨i, i1, i2⟩ := h5 x x1 g1
      have := h9 i i1 a ha (by rw [i2]; exact x2)
      rw [i2] at this
      exact ⟨this.1, by omega⟩
  intro a ha
  cases c : QD a
  · refine .inl ⟨by rw [h1 a ha, c]; rfl, fun s hs => ?_⟩
    have := (low s a ha hs).1
    rw [c] at this
    exact absurd this (by decide)
  · have g := h6 a ha c
    refine .inr ⟨dv a, by omega, by rw [h1 a ha, c]; rfl, g.1, fun s hs hw => ?_⟩
    have := (low s a ha hw).2
    omega
theorem m_reach {L : Nat} {R : Nat → Nat → Bool} {z : Nat} {C0 : zA} (b : zB) (hL : L ≤ 120) (h47 : C0 194 47 = nI L) (hR : LD L R C0) (hz : z < L) : ∃ C', M_reaches (nI z) C0 b = okV C' b ∧ FQ C' C0 ∧ RD L R z C' := by
  have loop : ∀ m k n QD dv q C, L ≤ k + m → k ≤ n → FQ C C0 → BQ L R z n k QD dv q C → ∃ C', M_reaches_41 (nI n) (nI k) C b = okV C' b ∧ FQ C' C0 ∧ RD L R z C' := by
    intro m
    induction m with
    | zero =>
      intro k n QD dv q C hm hk hF hB
      have hn : n ≤ L := by rw [hB.2.2.1]; exact cnt_le _ _
      have : k = n := by omega
      subst this
      refine ⟨C, ?_, hF, bq_done hL hB⟩
      rw [q_M_reaches_41, zcond_f (nI_nlt (Nat.le_refl _) (by omega))]
      exact okV_ret _ _
    | succ m ih =>
      intro k n QD dv q C hm hk hF hB
      have hn : n ≤ L := by rw [hB.2.2.1]; exact cnt_le _ _
      by_cases c : k < n
      · obtain ⟨n', QD', dv', q', C', y1, y2, y3, y4, y5⟩ := m_scan b hL h47 hR L 0 n QD dv q C (Nat.zero_add _) c hF hB (fun a' ha' => absurd ha' (Nat.not_lt_zero _))
        rw [q_M_reaches_41, zcond_t (nI_lt c (by omega)), show (0 : Int32) = nI 0 from rfl, y1]
        refine ih (k + 1) n' QD' dv' q' C' (by omega) (by omega) y3 ?_
        obtain ⟨h1, h2, h3, h4, h5, h6, h7, h8, h9, h10⟩ := y4
        refine ⟨h1, h2, h3, h4, h5, h6, h7, fun hk1 i hi => ?_, fun i hi a ha hr => ?_, h10⟩
        · have a1 := h8 y2 i hi
          have a2 := h7 k (k + 1) (by omega) hk1
          omega
        · by_cases d : i = k
          · rw [d] at hr ⊢; exact y5 a ha hr
          · exact h9 i (by omega) a ha hr
      · have : k = n := by omega
        subst this
        refine ⟨C, ?_, hF, bq_done hL hB⟩
        rw [q_M_reaches_41, zcond_f (nI_nlt (Nat.le_refl _) (by omega))]
        exact okV_ret _ _
  have st : ∀ i, i < L → M_reaches_2 (nI z) (nI i) (zfn C0 225 i (fun _ => -1)) b = M_reaches_2 (nI z) (nI (i + 1)) (zfn C0 225 (i + 1) (fun _ => -1)) b := fun i hi => by
    rw [q_M_reaches_2, congrFun (zfn_q (by decide)) 47, h47, zcond_t (nI_lt hi (by omega)), zin_nI (n := 120) (by omega) (by decide), cond_true, show (nI i).toNatClampNeg = i from nI_clamp (by omega), nI_1, zfn_s (g := fun _ => (-1 : Int32))]
  have lp := lpC (F := fun i => M_reaches_2 (nI z) (nI i) (zfn C0 225 i (fun _ => -1)) b) st L 0 (Nat.zero_add _)
  rw [show zfn C0 225 0 (fun _ => -1) = C0 from zfn_0 _ _ _] at lp
  obtain ⟨D, hD⟩ : ∃ D, D = zfn C0 225 L (fun _ => -1) := ⟨_, rfl⟩
  obtain ⟨E, hE⟩ : ∃ E, E = zup (zup D 225 z 0) 226 0 (nI z) := ⟨_, rfl⟩
  have cz : cnt (fun x => decide (x = z)) L = 1 := by
    have := cnt_add1 (U := fun _ => false) (i := z) L hz rfl
    rw [(cnt_0 L).mpr (fun _ _ => rfl)] at this
    exact (cnt_c L (fun x _ => (Bool.false_or _).symm)).trans this
  obtain ⟨C', y1, y2, y3⟩ := loop L 0 1 (fun x => decide (x = z)) (fun _ => 0) (fun _ => z) E (by omega) (by omega) (fun q h1 h2 => by rw [hE, zup_row h2, zup_row h1, hD, zfn_q h1]) ⟨fun a ha => by
    show E 225 a = cond (decide (a = z)) (nI 0) (-1)
    rw [hE, zup_ne (by decide)]
    by_cases c : a = z
    · rw [c, zup_eq, decide_eq_true rfl]; rfl
    · rw [zup_nj c, decide_eq_false c, hD, zfn_j ha]; rfl, fun i hi => by
    have : i = 0 := by omega
    rw [hE, this, zup_eq], cz.symm, fun i _ => ⟨hz, decide_eq_true rfl⟩, fun a _ hd => ⟨0, Nat.zero_lt_one, (show a = z from of_decide_eq_true hd).symm⟩, fun a _ hd => ⟨show a = z from of_decide_eq_true hd, Nat.zero_lt_one⟩, fun _ _ _ _ => Nat.le_refl _, fun _ _ _ => Nat.zero_le _, fun i hi => absurd hi (Nat.not_lt_zero _), hz, decide_eq_true rfl, rfl⟩
  refine ⟨C', ?_, y2, y3⟩
  rw [q_M_reaches, show M_reaches_2 (nI z) 0 C0 b = _ from lp, ← hD, q_M_reaches_2, show D 194 47 = nI L from by rw [hD, zfn_q (by decide)]; exact h47, zcond_f (nI_nlt (Nat.le_refl _) (by omega)), zin_nI (n := 120) (by omega) (by decide), cond_true, show zin 0 120 = true from rfl, cond_true, show (nI z).toNatClampNeg = z from nI_clamp (by omega), show (0 : Int32).toNatClampNeg = 0 from rfl, ← hE]
  exact y1
