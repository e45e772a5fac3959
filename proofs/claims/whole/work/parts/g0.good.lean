/-! A day ahead of which others are chosen: whether it is good, by both. -/
theorem enN_used {f : Nat → Nat → Bool} {P : Nat} {s : Nat → Nat} : ∀ k p u t, s ∈ enN f P k p u t → ∀ q, p ≤ q → q < p + k → Nat.testBit u (s q) = false ∧ ∀ q', p ≤ q' → q' < p + k → q ≠ q' → s q ≠ s q'
  | 0, p, u, t, h, q, h1, h2 => absurd h2 (by omega)
  | k + 1, p, u, t, h, q, h1, h2 => by
    unfold enN at h
    obtain ⟨i, _, hi, h3⟩ := enL_mem _ _ h
    cases c : Nat.testBit u i
    · cases d : f i p
      · rw [c, d] at h3
        exact absurd h3 List.not_mem_nil
      · rw [c, d] at h3
        have h3' : s ∈ enN f P k (p + 1) (u ||| 2 ^ i) (updN t p i) := h3
        have e : s p = i := enN_at h3'
        have ih := enN_used k (p + 1) _ _ h3'
        have up : ∀ x, p + 1 ≤ x → x < p + (k + 1) → Nat.testBit u (s x) = false ∧ s x ≠ i := fun x g1 g2 => by
          have := (ih x g1 (by omega)).1
          rw [tb_or, Bool.or_eq_false_iff, decide_eq_false_iff_not] at this
          exact ⟨this.1, fun z => this.2 z.symm⟩
        by_cases c1 : q = p
        · subst c1
          refine ⟨by rw [e]; exact c, fun q' g1 g2 g3 => ?_⟩
          rw [e]
          exact fun z => (up q' (by omega) g2).2 z.symm
        · refine ⟨(up q (by omega) h2).1, fun q' g1 g2 g3 => ?_⟩
          by_cases c2 : q' = p
          · rw [c2, e]
            exact (up q (by omega) h2).2
          · exact (ih q (by omega) (by omega)).2 q' (by omega) (by omega) g3
    · rw [c] at h3
      exact absurd h3 List.not_mem_nil
theorem all_inj {P Q i q q' : Nat} (h : i < (ALL P Q).length) (hq : q < Q) (hq' : q' < Q) (n : q ≠ q') : nd (ALL P Q) i q ≠ nd (ALL P Q) i q' :=
  (enN_used Q 0 0 _ (nd_mem h) q (Nat.zero_le _) (by omega)).2 q' (Nat.zero_le _) (by omega) n
/-- why one may not, by any days ahead -/
def thR (E : Nat → Nat → Int32) (W p d w : Nat) : Bool := aF (fun j => decide (E (d - j) p = nI w)) 1 (min W d)
def frR (a : zA) (E : Nat → Nat → Int32) (Q p d w : Nat) : Bool := decide (0 < d) && aF (fun q => decide (E (d - 1) q = nI w) && hB (a 10 q) p) 0 Q
def awB (a : zA) (w d : Nat) : Bool := !decide (a 11 (100 * w + d) = 0)
def whB (a : zA) (E : Nat → Nat → Int32) (Q W p d w : Nat) : Bool := awB a w d || ((!hB (a 8 3) p && thR E W p d w) || frR a E Q p d w)
def meB (E : Nat → Nat → Int32) (Q S d w y : Nat) : Bool := aF (fun j => aF (nbF E (d - j) (nI w) (nI y)) 1 (Q - 1)) 1 (min S d)
theorem whX_0 (aw fr th fm : Bool) : (decide (whyX aw fr th fm = 0) = !(aw || ((!fr && th) || fm))) ∧ (whyX aw fr th fm = 0 ∨ 0 < whyX aw fr th fm) := by
  cases aw <;> cases fr <;> cases th <;> cases fm <;> decide
theorem g_why {P Q T W S w p d : Nat} {E : Nat → Nat → Int32} {a C : zA} (b : zB) (hv : vw P Q T W S a C) (h0 : v0 C) (hw : w < P) (hp : p < Q) (hd : d ≤ 63) (hE : ∀ e q, e < d → q < Q → C 206 (10 * e + q) = E e q) : M_why (nI w) (nI p) (nI d) C b = okI (whyX (awB a w d) (hB (a 8 3) p) (thR E W p d w) (frR a E Q p d w)) C b := by
  have hA := fun K => v_away (K := K) hv (w := w) (d := d)
  obtain ⟨⟨h1, h2, h3, h4, h5⟩, ⟨-, ⟨-, q2⟩, ⟨-, t2⟩, ⟨-, w2⟩, -⟩, ⟨f1, f2, K, k1, k2, -⟩, -⟩ := hv
  have hF : aF (fun q => decide (E (d - 1) q = nI w) && hB (C 207 q) p) 0 Q = aF (fun q => decide (E (d - 1) q = nI w) && hB (a 10 q) p) 0 Q := aF_congr Q 0 (fun i _ h => by rw [(f2 i (by omega)).1])
  have kk : ∀ v, M_why_51 v C b = okI v C b := fun v => by rw [q_M_why_51]; exact okI_ret _ _ _
  rw [q_M_why, m_away k1 k2 rfl, hA K (by omega) (by omega) k2 k1, zcI_ok, zc_b0, m_free (by omega), zcI_ok, zc_b0, m_was (E := E) hp h2 hd w2 h4 hE, zcI_ok, zc_b0, m_comes (E := E) hp h2 hd q2 hE, zcI_ok, zc_b0, hF, ← f1, h0.1, h0.2, hB_zero, Bool.and_false, decide_eq_false (nI_m1 (show w < 2147483648 by omega)), Bool.false_and, Bool.false_or, kk, kk, kk, okI_ret]
  unfold whyX awB thR frR
  cases decide (a 11 (100 * w + d) = 0) <;> cases aF (fun j => decide (E (d - j) p = nI w)) 1 (min W d) <;> cases hB (a 8 3) p <;> cases (decide (0 < d) && aF (fun q => decide (E (d - 1) q = nI w) && hB (a 10 q) p) 0 Q) <;> rfl
/-- what is wrong at a post -/
def bdR (a : zA) (E : Nat → Nat → Int32) (Q W S d : Nat) (x : Nat → Nat) (p : Nat) : Bool := whB a E Q W p d (x p) || (decide (0 < p) && meB E Q S d (x (p - 1)) (x p))
theorem g_at {P Q T W S p d : Nat} {E : Nat → Nat → Int32} {x : Nat → Nat} {a C : zA} (b : zB) (hv : vw P Q T W S a C) (h0 : v0 C) (hp : p < Q) (hd : d ≤ 62) (hE : ∀ e q, e < d → q < Q → C 206 (10 * e + q) = E e q) (hX : ∀ q, q < Q → C 206 (10 * d + q) = nI (x q) ∧ x q < P) (hA : yAble a (x p) p = true) : ∃ v, M_whyAt (nI d) (nI p) (nI d) C b = okI v C b ∧ decide (v = 0) = !bdR a E Q W S d x p := by
  have h1 := hv.1
  have q2 := hv.2.1.2.1.2
  have s2 := hv.2.1.2.2.2.2.2
  have hw := (hX p hp).2
  obtain ⟨e0, e1⟩ := whX_0 (awB a (x p) d) (hB (a 8 3) p) (thR E W p d (x p)) (frR a E Q p d (x p))
  have h85 : ∀ v, M_whyAt_85 v C b = okI v C b := fun v => by rw [q_M_whyAt_85]; exact okI_ret _ _ _
  have h84 : M_whyAt_84 C b = okI 0 C b := by rw [q_M_whyAt_84]; exact h85 0
  rw [q_M_whyAt, s_on (by omega), zcI_ok, (hX p hp).1, zcond_f (nI_pos (by omega)), g_why b hv h0 hw hp (by omega) hE, zcI_ok, v_ableM hv hw hp, hA, zcI_ok]
  generalize whyX (awB a (x p) d) (hB (a 8 3) p) (thR E W p d (x p)) (frR a E Q p d (x p)) = y at e0 e1
  unfold bdR whB
  rcases e1 with e1 | e1
  · have e2 : (awB a (x p) d || ((!hB (a 8 3) p && thR E W p d (x p)) || frR a E Q p d (x p))) = false := by
      rw [e1, decide_eq_true rfl] at e0
      cases c : (awB a (x p) d || ((!hB (a 8 3) p && thR E W p d (x p)) || frR a E Q p d (x p)))
      · rfl
      · rw [c] at e0; exact absurd e0 (by decide)
    rw [e2, Bool.false_or, e1, zcond_f (show ¬ (0 : Int32) < 0 by decide), zcond_f (show ¬ bI true = 0 by decide)]
    by_cases c0 : 0 < p
    · rw [zcond_f (show ¬ nI p = 0 from fun z => by have := (nI_eq (b := 0) (by omega) (by decide)).mp z; omega), show nI p - 1 = nI (p - 1) from pk_sub (b := 1) c0, s_on (by omega), zcI_ok, (hX (p - 1) (by omega)).1, q_M_whyAt_61, zcond_f (nI_pos (by have := (hX (p - 1) (by omega)).2; omega)), m_beside (E := E) h1.2.1 (by omega) s2 h1.2.2.2.2 (by have := (hX (p - 1) (by omega)).2; omega) (by omega) q2 hE, h0.2, hB_zero, hB_zero, Bool.or_false, Bool.and_false, Bool.false_or, zcI_ok, zc_b0, h85, h84, decide_eq_true c0, Bool.true_and]
      unfold meB
      cases aF (fun j => aF (nbF E (d - j) (nI (x (p - 1))) (nI (x p))) 1 (Q - 1)) 1 (min S d)
      · exact ⟨0, rfl, rfl⟩
      · exact ⟨5, rfl, rfl⟩
    · have : p = 0 := by omega
      subst this
      rw [zcond_t (show nI 0 = 0 from rfl), q_M_whyAt_61, zcond_t (show (-1 : Int32) < 0 by decide), h84]
      exact ⟨0, rfl, rfl⟩
  · have e2 : (awB a (x p) d || ((!hB (a 8 3) p && thR E W p d (x p)) || frR a E Q p d (x p))) = true := by
      rw [decide_eq_false (fun z => by rw [z] at e1; exact absurd e1 (by decide))] at e0
      cases c : (awB a (x p) d || ((!hB (a 8 3) p && thR E W p d (x p)) || frR a E Q p d (x p)))
      · rw [c] at e0; exact absurd e0 (by decide)
      · rfl
    rw [e2, Bool.true_or, zcond_t e1]
    exact ⟨y, okI_ret _ _ _, decide_eq_false (fun z => by rw [z] at e1; exact absurd e1 (by decide))⟩
theorem g_good {P Q T W S d : Nat} {E : Nat → Nat → Int32} {x : Nat → Nat} {a C : zA} (b : zB) (hv : vw P Q T W S a C) (h0 : v0 C) (hd : d ≤ 62) (hE : ∀ e q, e < d → q < Q → C 206 (10 * e + q) = E e q) (hX : ∀ q, q < Q → C 206 (10 * d + q) = nI (x q) ∧ x q < P) (hA : ∀ p, p < Q → yAble a (x p) p = true) : M_isGood (nI d) (nI d) C b = okI (bI (!aF (bdR a E Q W S d x) 0 Q)) C b := by
  have h1 := hv.1
  have q1 := hv.2.1.2.1.2
  have k34 : ∀ (v : Bool) i, M_isGood_34 (nI d) (nI d) (nI i) (bI v) C b = M_isGood_5 (nI d) (nI d) (bI v) (nI (i + 1)) C b := fun v i => by rw [q_M_isGood_34, nI_1]
  have k33 : ∀ i, M_isGood_33 (nI d) (nI d) (nI i) C b = M_isGood_5 (nI d) (nI d) (bI false) (nI (i + 1)) C b := fun i => by rw [q_M_isGood_33]; exact k34 false i
  have hs : ∀ v i, 0 ≤ i → i < Q → M_isGood_5 (nI d) (nI d) (bI (!v)) (nI i) C b = M_isGood_5 (nI d) (nI d) (bI (!(v || bdR a E Q W S d x i))) (nI (i + 1)) C b := by
    intro v i _ h2
    obtain ⟨y, y1, y2⟩ := g_at b hv h0 h2 hd hE hX (hA i h2)
    rw [q_M_isGood_5, q1, zcond_t (nI_lt h2 (by omega)), zc_b0, y1, zcI_ok, y2, k33, show M_isGood_34 (nI d) (nI d) (nI i) 1 C b = _ from k34 true i]
    cases v <;> cases bdR a E Q W S d x i <;> rfl
  have he : ∀ v, M_isGood_5 (nI d) (nI d) (bI (!v)) (nI Q) C b = okI (bI (!v)) C b := by
    intro v
    rw [q_M_isGood_5, q1, zcond_f (nI_nlt (Nat.le_refl _) (by omega))]
    cases v
    · exact okI_ret _ _ _
    · exact okI_ret _ _ _
  rw [q_M_isGood]
  have := lpB (F := fun v i => M_isGood_5 (nI d) (nI d) (bI (!v)) (nI i) C b) (K := fun v => okI (bI (!v)) C b) hs he Q false 0 (Nat.le_refl _) (Nat.zero_add _)
  rw [Bool.false_or] at this
  exact this
/-! The same, cut: by days that went by, by the day ahead, by the day ahead of that. -/
def chE (a : zA) (T : Nat) (c : Nat → Nat → Nat) (e q : Nat) : Int32 := if e < T then xE a e q else nI (c (e - T) q)
def VV (x : Nat → Nat) (q : Nat) : Int32 := nI (x q)
def fiB (a : zA) (Q T W S k : Nat) (x : Nat → Nat) : Bool := !aF (fun p => !decide (yWhy a T W Q (x p) p (T + k) = 0) || (decide (0 < p) && metB (xE a) Q T S (T + k) (x (p - 1)) (x p))) 0 Q
def twB (W S : Nat) (F : Int32) (Q : Nat) (V X : Nat → Int32) : Bool := !(decide (2 ≤ S) && metP Q V X) && !(decide (2 ≤ W) && aF (fun p => !hB F p && decide (V p = X p)) 0 Q)
def goB (a : zA) (Q T W S k : Nat) (c : Nat → Nat → Nat) (x : Nat → Nat) : Bool := fiB a Q T W S k x && ((decide (k = 0) || folB W S (a 8 3) (a 10) Q (VV (c (k - 1))) (VV x)) && (decide (k < 2) || twB W S (a 8 3) Q (VV (c (k - 2))) (VV x)))
theorem day_cut {T k M : Nat} (hk : k < 3) (Z : Nat → Prop) : (∃ j, 1 ≤ j ∧ j < 1 + min M (T + k) ∧ Z (T + k - j)) ↔ (∃ e, T + k - M ≤ e ∧ e < min T (T + k) ∧ Z e) ∨ (1 ≤ k ∧ 1 ≤ M ∧ Z (T + k - 1)) ∨ (2 ≤ k ∧ 2 ≤ M ∧ Z (T + k - 2)) := by
  constructor
  · rintro ⟨j, h1, h2, h3⟩
    by_cases c : T + k - j < T
    · exact .inl ⟨T + k - j, by omega, by omega, h3⟩
    · have : j = 1 ∨ j = 2 := by omega
      rcases this with rfl | rfl
      · exact .inr (.inl ⟨by omega, by omega, h3⟩)
      · exact .inr (.inr ⟨by omega, by omega, h3⟩)
  · rintro (⟨e, h1, h2, h3⟩ | ⟨h1, h2, h3⟩ | ⟨h1, h2, h3⟩)
    · exact ⟨T + k - e, by omega, by omega, by rw [show T + k - (T + k - e) = e by omega]; exact h3⟩
    · exact ⟨1, by omega, by omega, h3⟩
    · exact ⟨2, by omega, by omega, h3⟩
theorem ch_lo {a : zA} {T e q : Nat} {c : Nat → Nat → Nat} (h : e < T) : chE a T c e q = xE a e q := if_pos h
theorem ch_hi {a : zA} {T k q : Nat} {c : Nat → Nat → Nat} : chE a T c (T + k) q = VV (c k) q := by
  unfold chE VV
  rw [if_neg (by omega), Nat.add_sub_cancel_left]
theorem go_bd {a : zA} {Q T W S k : Nat} {c : Nat → Nat → Nat} {x : Nat → Nat} (hk : k < 3) : (!aF (bdR a (chE a T c) Q W S (T + k) x) 0 Q) = goB a Q T W S k c x := by
  have e1 : 1 ≤ k → T + k - 1 = T + (k - 1) := fun h => by omega
  have e2 : 2 ≤ k → T + k - 2 = T + (k - 2) := fun h => by omega
  have nb : ∀ e y z r, e < T → nbF (chE a T c) e y z r = nbF (xE a) e y z r := fun e y z r h => by
    unfold nbF
    rw [ch_lo h, ch_lo h]
  have nh : ∀ j y z r, nbF (chE a T c) (T + j) y z r = ((decide (VV (c j) (r - 1) = y) && decide (VV (c j) r = z)) || (decide (VV (c j) (r - 1) = z) && decide (VV (c j) r = y))) := fun j y z r => by
    unfold nbF
    rw [ch_hi, ch_hi]
  -- one was there
  have th : ∀ p w, thR (chE a T c) W p (T + k) w = true ↔ thereB (xE a) T W p (T + k) w = true ∨ (1 ≤ k ∧ 0 < W ∧ VV (c (k - 1)) p = nI w) ∨ (2 ≤ k ∧ 2 ≤ W ∧ VV (c (k - 2)) p = nI w) := fun p w => by
    have dc := day_cut (T := T) (M := W) hk (fun e => chE a T c e p = nI w)
    unfold thR thereB
    rw [aF_i, aF_i]
    simp only [decide_eq_true_iff]
    rw [dc]
    refine or_congr ⟨?_, ?_⟩ (or_congr ⟨?_, ?_⟩ ⟨?_, ?_⟩)
    · rintro ⟨e, h1, h2, h3⟩
      rw [ch_lo (by omega)] at h3
      exact ⟨e, h1, by omega, h3⟩
    · rintro ⟨e, h1, h2, h3⟩
      exact ⟨e, h1, by omega, by rw [ch_lo (by omega)]; exact h3⟩
    · rintro ⟨h1, h2, h3⟩
      rw [e1 h1, ch_hi] at h3
      exact ⟨h1, h2, h3⟩
    · rintro ⟨h1, h2, h3⟩
      exact ⟨h1, h2, by rw [e1 h1, ch_hi]; exact h3⟩
    · rintro ⟨h1, h2, h3⟩
      rw [e2 h1, ch_hi] at h3
      exact ⟨h1, h2, h3⟩
    · rintro ⟨h1, h2, h3⟩
      exact ⟨h1, h2, by rw [e2 h1, ch_hi]; exact h3⟩
  have fr : ∀ p w, frR a (chE a T c) Q p (T + k) w = true ↔ (decide (0 < T + k) && (decide (T + k ≤ T) && fromB (xE a) (a 10) Q p (T + k) w)) = true ∨ (1 ≤ k ∧ aF (fun q => decide (VV (c (k - 1)) q = nI w) && hB (a 10 q) p) 0 Q = true) := fun p w => by
    unfold frR fromB
    by_cases c0 : k = 0
    · subst c0
      rw [show T + 0 = T from rfl, decide_eq_true (Nat.le_refl T), Bool.true_and]
      have : (decide (0 < T) && aF (fun q => decide (chE a T c (T - 1) q = nI w) && hB (a 10 q) p) 0 Q) = (decide (0 < T) && aF (fun q => decide (xE a (T - 1) q = nI w) && hB (a 10 q) p) 0 Q) := by
        by_cases c1 : 0 < T
        · rw [decide_eq_true c1, Bool.true_and, Bool.true_and]
          exact aF_congr Q 0 (fun q _ _ => by rw [ch_lo (by omega)])
        · rw [decide_eq_false c1]; rfl
      rw [this]
      constructor
      · intro h; exact .inl h
      · rintro (h | ⟨h, -⟩)
        · exact h
        · omega
    · rw [decide_eq_true (show 0 < T + k by omega), decide_eq_false (show ¬ T + k ≤ T by omega), Bool.true_and, Bool.false_and, Bool.true_and]
      have : aF (fun q => decide (chE a T c (T + k - 1) q = nI w) && hB (a 10 q) p) 0 Q = aF (fun q => decide (VV (c (k - 1)) q = nI w) && hB (a 10 q) p) 0 Q := aF_congr Q 0 (fun q _ _ => by rw [e1 (by omega), ch_hi])
      rw [this]
      constructor
      · intro h; exact .inr ⟨by omega, h⟩
      · rintro (h | ⟨-, h⟩)
        · exact absurd h (by decide)
        · exact h
  have me : ∀ w y, meB (chE a T c) Q S (T + k) w y = true ↔ metB (xE a) Q T S (T + k) w y = true ∨ (1 ≤ k ∧ 0 < S ∧ satB Q (VV (c (k - 1))) (nI w) (nI y) = true) ∨ (2 ≤ k ∧ 2 ≤ S ∧ satB Q (VV (c (k - 2))) (nI w) (nI y) = true) := fun w y => by
    have dc := day_cut (T := T) (M := S) hk (fun e => aF (nbF (chE a T c) e (nI w) (nI y)) 1 (Q - 1) = true)
    have hi : ∀ j, aF (nbF (chE a T c) (T + j) (nI w) (nI y)) 1 (Q - 1) = satB Q (VV (c j)) (nI w) (nI y) := fun j => aF_congr _ _ (fun r _ _ => nh j _ _ r)
    have lo : ∀ e, e < T → aF (nbF (chE a T c) e (nI w) (nI y)) 1 (Q - 1) = aF (nbF (xE a) e (nI w) (nI y)) 1 (Q - 1) := fun e h => aF_congr _ _ (fun r _ _ => nb e _ _ r h)
    unfold meB metB
    rw [aF_i, aF_i, dc]
    refine or_congr ⟨?_, ?_⟩ (or_congr ⟨?_, ?_⟩ ⟨?_, ?_⟩)
    · rintro ⟨e, h1, h2, h3⟩
      rw [lo e (by omega)] at h3
      exact ⟨e, h1, by omega, h3⟩
    · rintro ⟨e, h1, h2, h3⟩
      exact ⟨e, h1, by omega, by rw [lo e (by omega)]; exact h3⟩
    · rintro ⟨h1, h2, h3⟩
      rw [e1 h1, hi] at h3
      exact ⟨h1, h2, h3⟩
    · rintro ⟨h1, h2, h3⟩
      exact ⟨h1, h2, by rw [e1 h1, hi]; exact h3⟩
    · rintro ⟨h1, h2, h3⟩
      rw [e2 h1, hi] at h3
      exact ⟨h1, h2, h3⟩
    · rintro ⟨h1, h2, h3⟩
      exact ⟨h1, h2, by rw [e2 h1, hi]; exact h3⟩
  have yw : ∀ w p, (!decide (yWhy a T W Q w p (T + k) = 0)) = true ↔ awB a w (T + k) = true ∨ (hB (a 8 3) p = false ∧ thereB (xE a) T W p (T + k) w = true) ∨ (decide (0 < T + k) && (decide (T + k ≤ T) && fromB (xE a) (a 10) Q p (T + k) w)) = true := fun w p => by
    unfold yWhy
    rw [(whX_0 _ _ _ _).1, Bool.not_not, Bool.or_eq_true, Bool.or_eq_true, Bool.and_eq_true (a := !hB (a 8 3) p), Bool.not_eq_true' (hB (a 8 3) p)]
    exact Iff.rfl
  rw [Bool.eq_iff_iff]
  unfold goB fiB folB twB
  rw [Bool.not_eq_true', Bool.and_eq_true, Bool.and_eq_true, Bool.or_eq_true, Bool.or_eq_true, Bool.and_eq_true, Bool.and_eq_true, Bool.not_eq_true', Bool.not_eq_true', Bool.not_eq_true', Bool.not_eq_true', Bool.not_eq_true', decide_eq_true_iff, decide_eq_true_iff]
  constructor
  · intro h
    have hn : ∀ p, p < Q → bdR a (chE a T c) Q W S (T + k) x p = true → False := fun p hp g => by
      have : aF (bdR a (chE a T c) Q W S (T + k) x) 0 Q = true := (aF_i _ _).mpr ⟨p, Nat.zero_le _, by omega, g⟩
      rw [h] at this
      exact absurd this (by decide)
    have mk1 : ∀ p, awB a (x p) (T + k) = true ∨ (hB (a 8 3) p = false ∧ thR (chE a T c) W p (T + k) (x p) = true) ∨ frR a (chE a T c) Q p (T + k) (x p) = true → bdR a (chE a T c) Q W S (T + k) x p = true := fun p g => by
      unfold bdR whB
      rw [Bool.or_eq_true, Bool.or_eq_true, Bool.or_eq_true, Bool.and_eq_true, Bool.not_eq_true']
      exact .inl g
    have mk2 : ∀ p, 0 < p → meB (chE a T c) Q S (T + k) (x (p - 1)) (x p) = true → bdR a (chE a T c) Q W S (T + k) x p = true := fun p g1 g2 => by
      unfold bdR
      rw [g2, decide_eq_true g1, Bool.true_and, Bool.or_true]
    refine ⟨Bool.eq_false_iff.mpr fun z => ?_, ?_, ?_⟩
    · obtain ⟨p, _, hp, g⟩ := (aF_i _ _).mp z
      rw [Bool.or_eq_true, Bool.and_eq_true, decide_eq_true_iff, yw] at g
      rcases g with (g | ⟨g1, g2⟩ | g) | ⟨g1, g2⟩
      · exact hn p (by omega) (mk1 p (.inl g))
      · exact hn p (by omega) (mk1 p (.inr (.inl ⟨g1, (th p (x p)).mpr (.inl g2)⟩)))
      · exact hn p (by omega) (mk1 p (.inr (.inr ((fr p (x p)).mpr (.inl g)))))
      · exact hn p (by omega) (mk2 p g1 ((me _ _).mpr (.inl g2)))
    · by_cases c0 : k = 0
      · exact .inl c0
      · refine .inr ⟨Bool.eq_false_iff.mpr fun z => ?_, Bool.eq_false_iff.mpr fun z => ?_⟩
        · obtain ⟨p, _, hp, g⟩ := (aF_i _ _).mp z
          unfold hitB at g
          rw [Bool.or_eq_true, Bool.and_eq_true, Bool.and_eq_true, Bool.not_eq_true', decide_eq_true_iff, decide_eq_true_iff] at g
          rcases g with ⟨⟨g1, g2⟩, g3⟩ | g
          · exact hn p (by omega) (mk1 p (.inr (.inl ⟨g2, (th p (x p)).mpr (.inr (.inl ⟨by omega, g1, g3⟩))⟩)))
          · exact hn p (by omega) (mk1 p (.inr (.inr ((fr p (x p)).mpr (.inr ⟨by omega, g⟩)))))
        · rw [Bool.and_eq_true, decide_eq_true_iff] at z
          obtain ⟨p, p1, p2, g⟩ := (aF_i _ _).mp z.2
          exact hn p (by omega) (mk2 p (by omega) ((me _ _).mpr (.inr (.inl ⟨by omega, z.1, g⟩))))
    · by_cases c0 : k < 2
      · exact .inl c0
      · refine .inr ⟨Bool.eq_false_iff.mpr fun z => ?_, Bool.eq_false_iff.mpr fun z => ?_⟩
        · rw [Bool.and_eq_true, decide_eq_true_iff] at z
          obtain ⟨p, p1, p2, g⟩ := (aF_i _ _).mp z.2
          exact hn p (by omega) (mk2 p (by omega) ((me _ _).mpr (.inr (.inr ⟨by omega, z.1, g⟩))))
        · rw [Bool.and_eq_true, decide_eq_true_iff] at z
          obtain ⟨p, _, p2, g⟩ := (aF_i _ _).mp z.2
          rw [Bool.and_eq_true, Bool.not_eq_true', decide_eq_true_iff] at g
          exact hn p (by omega) (mk1 p (.inr (.inl ⟨g.1, (th p (x p)).mpr (.inr (.inr ⟨by omega, z.1, g.2⟩))⟩)))
  · rintro ⟨h1, h2, h3⟩
    refine Bool.eq_false_iff.mpr fun z => ?_
    obtain ⟨p, _, hp, g⟩ := (aF_i _ _).mp z
    have no1 : (!decide (yWhy a T W Q (x p) p (T + k) = 0) || (decide (0 < p) && metB (xE a) Q T S (T + k) (x (p - 1)) (x p))) = true → False := fun g => by
      have : aF (fun p => !decide (yWhy a T W Q (x p) p (T + k) = 0) || (decide (0 < p) && metB (xE a) Q T S (T + k) (x (p - 1)) (x p))) 0 Q = true := (aF_i _ _).mpr ⟨p, Nat.zero_le _, hp, g⟩
      rw [h1] at this
      exact absurd this (by decide)
    have no2 : 1 ≤ k → hitB W (a 8 3) (a 10) Q (VV (c (k - 1))) (VV x) p = true → False := fun hk1 g => by
      rcases h2 with h2 | ⟨h2, -⟩
      · omega
      · have : aF (hitB W (a 8 3) (a 10) Q (VV (c (k - 1))) (VV x)) 0 Q = true := (aF_i _ _).mpr ⟨p, Nat.zero_le _, hp, g⟩
        rw [h2] at this
        exact absurd this (by decide)
    have no3 : 1 ≤ k → 0 < S → 0 < p → satB Q (VV (c (k - 1))) (nI (x (p - 1))) (nI (x p)) = true → False := fun hk1 hS hp1 g => by
      rcases h2 with h2 | ⟨-, h2⟩
      · omega
      · have : metP Q (VV (c (k - 1))) (VV x) = true := (aF_i _ _).mpr ⟨p, by omega, by omega, g⟩
        rw [this, decide_eq_true hS] at h2
        exact absurd h2 (by decide)
    have no4 : 2 ≤ k → 2 ≤ S → 0 < p → satB Q (VV (c (k - 2))) (nI (x (p - 1))) (nI (x p)) = true → False := fun hk1 hS hp1 g => by
      rcases h3 with h3 | ⟨h3, -⟩
      · omega
      · have : metP Q (VV (c (k - 2))) (VV x) = true := (aF_i _ _).mpr ⟨p, by omega, by omega, g⟩
        rw [this, decide_eq_true hS] at h3
        exact absurd h3 (by decide)
    have no5 : 2 ≤ k → 2 ≤ W → hB (a 8 3) p = false → VV (c (k - 2)) p = nI (x p) → False := fun hk1 hW hf g => by
      rcases h3 with h3 | ⟨-, h3⟩
      · omega
      · have : aF (fun p => !hB (a 8 3) p && decide (VV (c (k - 2)) p = VV x p)) 0 Q = true := (aF_i _ _).mpr ⟨p, Nat.zero_le _, hp, by rw [hf, decide_eq_true (show VV (c (k - 2)) p = VV x p from g)]; rfl⟩
        rw [this, decide_eq_true hW] at h3
        exact absurd h3 (by decide)
    unfold bdR whB at g
    rw [Bool.or_eq_true, Bool.or_eq_true, Bool.or_eq_true, Bool.and_eq_true, Bool.not_eq_true', Bool.and_eq_true, decide_eq_true_iff, th, fr, me] at g
    rcases g with (g | ⟨g1, g | ⟨g2, g3, g4⟩ | ⟨g2, g3, g4⟩⟩ | (g | ⟨g2, g3⟩)) | ⟨g1, g | ⟨g2, g3, g4⟩ | ⟨g2, g3, g4⟩⟩
    · exact no1 (by rw [Bool.or_eq_true, yw]; exact .inl (.inl g))
    · exact no1 (by rw [Bool.or_eq_true, yw]; exact .inl (.inr (.inl ⟨g1, g⟩)))
    · refine no2 g2 ?_
      unfold hitB
      rw [g1, decide_eq_true g3, decide_eq_true (show VV (c (k - 1)) p = VV x p from g4)]
      rfl
    · exact no5 g2 g3 g1 g4
    · exact no1 (by rw [Bool.or_eq_true, yw]; exact .inl (.inr (.inr g)))
    · refine no2 g2 ?_
      unfold hitB
      rw [show aF (fun p_1 => decide (VV (c (k - 1)) p_1 = VV x p) && hB (a 10 p_1) p) 0 Q = true from g3, Bool.or_true]
    · exact no1 (by rw [g, decide_eq_true g1, Bool.true_and, Bool.or_true])
    · exact no3 g2 g3 g1 g4
    · exact no4 g2 g3 g1 g4
