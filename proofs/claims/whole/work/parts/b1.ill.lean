/-! One who is ill: the draft kept where it can be. -/
def likO (a : zA) (T p : Nat) (o : Option Nat) : Int := if encW o = xE a T p then 1 else 0
def scI (i : Nat) (a : zA) (T W Q p w : Nat) : Option Int := cond (decide (w = i)) none ((scN 0 a T W Q p w).elim none (fun s => some (16 * s + likO a T p (some w))))
def blI (a : zA) (T p : Nat) : Int := likO a T p none
theorem likO_b (a : zA) (T p : Nat) (o : Option Nat) : 0 ≤ likO a T p o ∧ likO a T p o ≤ 1 := by
  unfold likO
  by_cases c : encW o = xE a T p
  · rw [if_pos c]; omega
  · rw [if_neg c]; omega
theorem scN_v {F : Int32} {a : zA} {T W Q p w : Nat} {s : Int} (h : scN F a T W Q p w = some s) : s = prz a p := by
  have h2 : gnO (scN F a T W Q) (tgN F a Q T 0) p 10 w = some s := by
    unfold gnO
    rw [h]
    rfl
  exact gnN h2
theorem scI_v {i : Nat} {a : zA} {T W Q p w : Nat} {s : Int} (h : scI i a T W Q p w = some s) : w ≠ i ∧ scN 0 a T W Q p w = some (prz a p) ∧ s = 16 * prz a p + likO a T p (some w) := by
  unfold scI at h
  by_cases c : w = i
  · rw [decide_eq_true c] at h; exact absurd h (by simp)
  · rw [decide_eq_false c, cond_false] at h
    cases hs : scN 0 a T W Q p w with
    | none => rw [hs] at h; exact absurd h (by simp)
    | some s0 =>
      rw [hs] at h
      have := scN_v hs
      have h : 16 * s0 + likO a T p (some w) = s := Option.some.inj h
      exact ⟨c, by rw [this], by rw [← h, this]⟩
theorem tgN_v {F : Int32} {a : zA} {Q T S l w : Nat} {t : Int} (h : tgN F a Q T S l w = some t) : t = 0 := by
  unfold tgN tgP at h
  cases h4 : (!metB (xE a) Q T S T l w || (hB F l || hB F w))
  · rw [h4] at h; exact absurd h (by simp)
  · rw [h4] at h
    exact (Option.some.inj h).symm
theorem opB_I (i : Nat) (a : zA) (T W Q S : Nat) : opB (scI i a T W Q) (tgN 0 a Q T S) (blI a T) := by
  refine ⟨fun p w s h => ?_, fun l w t h => ?_, fun p => likO_b a T p none⟩
  · obtain ⟨-, -, h3⟩ := scI_v h
    have := prz_b a p
    have := likO_b a T p (some w)
    omega
  · have := tgN_v h
    omega
theorem gnI {i : Nat} {a : zA} {T W Q S p l w : Nat} {g : Int} (h : gnO (scI i a T W Q) (tgN 0 a Q T S) p l w = some g) : g = 16 * prz a p + likO a T p (some w) := by
  unfold gnO at h
  cases hs : scI i a T W Q p w with
  | none => rw [hs] at h; exact absurd h (by simp)
  | some s =>
    rw [hs] at h
    have hv := (scI_v hs).2.2
    have h : cond (decide (l < 10)) ((tgN 0 a Q T S l w).elim none (fun t => some (s + t))) (some s) = some g := h
    cases hl : decide (l < 10)
    · rw [hl] at h
      have : s = g := Option.some.inj h
      omega
    · rw [hl, cond_true] at h
      cases ht : tgN 0 a Q T S l w with
      | none => rw [ht] at h; exact absurd h (by simp)
      | some t =>
        rw [ht] at h
        have h : s + t = g := Option.some.inj h
        have := tgN_v ht
        omega
theorem simI (i : Nat) (a : zA) {P Q T W S : Nat} (hQ : Q ≤ 10) : simO (scI i a T W Q) (tgN 0 a Q T S) (blI a T) P Q (fun p o => 100 * opW a p o + likO a T p o - 1) (fun k v => 100 * (v / 16) + v % 16 - k) (fun k v => 0 ≤ v ∧ v % 16 ≤ k ∧ v / 16 ≤ 2000 * k ∧ k ≤ 10) := by
  refine ⟨⟨rfl, by decide, by decide, by decide, by decide⟩, fun k p v hp hD => ?_, fun k p w l g v hp hw hg hD => ?_, fun k v v' h h' => ?_, fun k v hD => ?_⟩
  · have hb : 0 ≤ blI a T p ∧ blI a T p ≤ 1 := likO_b a T p none
    obtain ⟨h1, h2, h3, h4⟩ := hD
    refine ⟨⟨by omega, by omega, by omega, by omega⟩, ?_⟩
    show 100 * ((blI a T p + v) / 16) + (blI a T p + v) % 16 - ((k + 1 : Nat) : Int) = 100 * 0 + blI a T p - 1 + (100 * (v / 16) + v % 16 - k)
    omega
  · have e := gnI hg
    have hb := prz_b a p
    have hl := likO_b a T p (some w)
    obtain ⟨h1, h2, h3, h4⟩ := hD
    refine ⟨⟨by omega, by omega, by omega, by omega⟩, ?_⟩
    show 100 * ((g + v) / 16) + (g + v) % 16 - ((k + 1 : Nat) : Int) = 100 * prz a p + likO a T p (some w) - 1 + (100 * (v / 16) + v % 16 - k)
    omega
  · obtain ⟨h1, h2, h3, h4⟩ := h
    obtain ⟨g1, g2, g3, g4⟩ := h'
    show 100 * (v / 16) + v % 16 - k < 100 * (v' / 16) + v' % 16 - k ↔ v < v'
    omega
  · obtain ⟨h1, h2, h3, h4⟩ := hD
    show -100000000 ≤ 100 * (v / 16) + v % 16 - k ∧ 100 * (v / 16) + v % 16 - k ≤ 100000000
    omega
theorem sumI (i : Nat) (a : zA) {P Q T W S : Nat} : ∀ k p u l, 16 * sumO (scI i a T W Q) (tgN 0 a Q T S) (blI a T) P (opW a) k p u l + sumO (scI i a T W Q) (tgN 0 a Q T S) (blI a T) P (likO a T) k p u l = opV (scI i a T W Q) (tgN 0 a Q T S) (blI a T) P k p u l ∧ 0 ≤ sumO (scI i a T W Q) (tgN 0 a Q T S) (blI a T) P (likO a T) k p u l ∧ sumO (scI i a T W Q) (tgN 0 a Q T S) (blI a T) P (likO a T) k p u l ≤ k
  | 0, _, _, _ => ⟨rfl, Int.le_refl _, Int.le_refl _⟩
  | k + 1, p, u, l => by
    rw [chO_v]
    obtain ⟨h1, h2, h3⟩ := sumI i a (P := P) (Q := Q) (T := T) (W := W) (S := S) k (p + 1) (usO u (chO (scI i a T W Q) (tgN 0 a Q T S) (blI a T) P k p u l)) (laO (chO (scI i a T W Q) (tgN 0 a Q T S) (blI a T) P k p u l))
    have hb := likO_b a T p (chO (scI i a T W Q) (tgN 0 a Q T S) (blI a T) P k p u l)
    have key : vaO (scI i a T W Q) (tgN 0 a Q T S) (blI a T) p l (chO (scI i a T W Q) (tgN 0 a Q T S) (blI a T) P k p u l) = 16 * opW a p (chO (scI i a T W Q) (tgN 0 a Q T S) (blI a T) P k p u l) + likO a T p (chO (scI i a T W Q) (tgN 0 a Q T S) (blI a T) P k p u l) := by
      cases hc : chO (scI i a T W Q) (tgN 0 a Q T S) (blI a T) P k p u l with
      | none =>
        show blI a T p = 16 * 0 + likO a T p none
        unfold blI
        omega
      | some w =>
        obtain ⟨_, _, g, h3, _⟩ := chO_some hc
        show encO (gnO _ _ p l w) = 16 * prz a p + likO a T p (some w)
        rw [h3]
        exact gnI h3
    show 16 * (opW a p _ + sumO _ _ _ _ _ k (p + 1) _ _) + (likO a T p _ + sumO _ _ _ _ _ k (p + 1) _ _) = _ ∧ 0 ≤ likO a T p _ + sumO _ _ _ _ _ k (p + 1) _ _ ∧ likO a T p _ + sumO _ _ _ _ _ k (p + 1) _ _ ≤ ((k + 1 : Nat) : Int)
    rw [key]
    refine ⟨?_, ?_, ?_⟩ <;> omega
/-- what is asked of a filling, post by post -/
def sumR (h : Nat → Int) : Nat → Nat → Int
  | _, 0 => 0
  | p, k + 1 => h p + sumR h (p + 1) k
theorem sumR_c {h g : Nat → Int} : ∀ k p, (∀ q, p ≤ q → q < p + k → h q = g q) → sumR h p k = sumR g p k
  | 0, _, _ => rfl
  | k + 1, p, e => by
    show h p + sumR h (p + 1) k = g p + sumR g (p + 1) k
    rw [e p (Nat.le_refl _) (by omega), sumR_c k (p + 1) (fun q h1 h2 => e q (by omega) (by omega))]
theorem sumR_sn {h : Nat → Int} : ∀ k p, sumR h p (k + 1) = sumR h p k + h (p + k)
  | 0, p => by show h p + 0 = 0 + h (p + 0); rw [Nat.add_zero]; omega
  | k + 1, p => by
    show h p + sumR h (p + 1) (k + 1) = (h p + sumR h (p + 1) k) + h (p + (k + 1))
    rw [sumR_sn k (p + 1), show p + 1 + k = p + (k + 1) by omega]
    omega
theorem sumO_R {sc tg : Nat → Nat → Option Int} {bl : Nat → Int} {P : Nat} {wM : Nat → Option Nat → Int} : ∀ k p u l, sumO sc tg bl P wM k p u l = sumR (fun q => wM q (filO sc tg bl P k p u l q)) p k
  | 0, _, _, _ => rfl
  | k + 1, p, u, l => by
    show wM p _ + sumO sc tg bl P wM k (p + 1) _ _ = wM p (filO sc tg bl P (k + 1) p u l p) + sumR (fun q => wM q (filO sc tg bl P (k + 1) p u l q)) (p + 1) k
    rw [sumO_R k, show filO sc tg bl P (k + 1) p u l p = chO sc tg bl P k p u l from if_pos rfl]
    congr 1
    refine sumR_c k (p + 1) (fun q h1 h2 => ?_)
    show wM q _ = wM q (if q = p then _ else _)
    rw [if_neg (by omega)]
theorem cnt_like {d : Nat → Bool} : ∀ k, ((cnt d k : Nat) : Int) + sumR (fun q => if d q = true then 0 else 1) 0 k = k
  | 0 => rfl
  | k + 1 => by
    have := cnt_like (d := d) k
    rw [sumR_sn, Nat.zero_add]
    show ((cnt d k + cond (d k) 1 0 : Nat) : Int) + (sumR _ 0 k + (if d k = true then 0 else 1)) = ((k + 1 : Nat) : Int)
    cases d k
    · show ((cnt d k + 0 : Nat) : Int) + (sumR _ 0 k + 1) = _
      omega
    · show ((cnt d k + 1 : Nat) : Int) + (sumR _ 0 k + 0) = _
      omega
/-- the reference's answers, with one ill and the draft liked -/
theorem MG_I {P Q T W S i : Nat} {a c : zA} (hv : vw P Q T W S a c) (hi : c 194 37 = nI i) (hiP : i < P) (hf : c 194 38 = 0) (hl : c 194 44 = 1) : MGo (scI i a T W Q) (tgN 0 a Q T S) P Q (fun p o => 100 * opW a p o + likO a T p o - 1) (opW a) (askM c P Q T W S a) := by
  obtain ⟨g1, g2, g3, g4, g5⟩ := hv.1
  refine ⟨⟨?_, ?_⟩, fun p l w hp hw hl2 hne => ?_, fun A hA p o b hp ho => ?_⟩
  · rw [askM_q (by decide)]; exact hv.2.1.1.2
  · rw [askM_q (by decide)]; exact hv.2.1.2.1.2
  · rw [askM_may hp, hB_bitsN (by omega) (by omega), decide_eq_true hw, Bool.true_and, hi, hf]
    have e1 : yMay (nI i) 0 a T W Q w p = (scI i a T W Q p w).isSome := by
      unfold yMay yWhyG scI scN scP
      by_cases cw : w = i
      · rw [decide_eq_true cw, decide_eq_true (show nI w = nI i by rw [cw]), decide_eq_true (rfl : T = T)]
        cases yAble a w p <;> rfl
      · rw [decide_eq_false cw, decide_eq_false (show ¬ nI w = nI i from fun z => cw ((nI_eq (by omega) (by omega)).mp z)), Bool.false_and, Bool.false_or, decide_eq_true (rfl : T = T), Bool.true_and, hB_zero]
        cases yAble a w p
        · rfl
        · by_cases c1 : a 11 (100 * w + T) = 0
          · rw [decide_eq_true c1]
            show decide (yWhy a T W Q w p T = 0) = _
            cases decide (yWhy a T W Q w p T = 0) <;> rfl
          · rw [decide_eq_false c1]
            rfl
    rw [e1]
    unfold gnO
    cases hs : scI i a T W Q p w with
    | none => rfl
    | some s =>
      rcases hl2 with h | h
      · rw [decide_eq_true h, show decide (l < 10) = false from decide_eq_false (by omega)]
        rfl
      · rw [decide_eq_false (show ¬ l = 10 by omega), show decide (l < 10) = true from decide_eq_true (by omega), askM_with h, hB_bitsN (by omega) (by omega), decide_eq_true hw, Bool.true_and, hf]
        show (true && (false || yWith 0 a Q T S l w)) = ((tgN 0 a Q T S l w).elim none (fun t => some (s + t))).isSome
        unfold yWith tgN tgP
        rw [decide_eq_false hne]
        cases hB 0 l <;> cases hB 0 w <;> cases metB (xE a) Q T S T l w <;> rfl
  · have hvA : vw P Q T W S a A := vw_c hv (fun j hj => by rw [hA 194 (by decide) (by decide), askM_q (by decide)]) (fun q h1 h2 => by rw [hA q (by omega) (by omega), askM_q (by omega)])
    have e1 : M_worthAt (nI p) (encW o) A b = okI (kI (opW a p o)) A b := by rw [m_prize hvA hp (rOne_enc ho), yPrize_e g1 ho]
    refine ⟨?_, e1⟩
    have hb := prz_b a p
    have e2 : (100 : Int32) * kI (opW a p o) = kI (100 * opW a p o) := (Int32.ofInt_mul 100 _).symm
    have e3 : A 206 (630 + p) = xE a T p := (hvA.2.2.2.1.2.1 p hp).symm
    rw [q_M_gain, e1, zcI_ok, hA 194 (by decide) (by decide), askM_q (by decide), hl, zcond_f (by decide), show (63 : Int32) = nI 63 from rfl, s_on (by omega), zcI_ok, show 10 * 63 + p = 630 + p by omega, e3, q_M_gain_31, q_M_gain_32, q_M_gain_32, e2]
    show _ = okI (kI (100 * opW a p o + likO a T p o - 1)) A b
    unfold likO
    by_cases c : encW o = xE a T p
    · rw [zcond_t c.symm, if_pos c, Int32.sub_zero, show 100 * opW a p o + 1 - 1 = 100 * opW a p o by omega]
      exact okI_ret _ _ _
    · rw [zcond_f (fun z => c z.symm), if_neg c, show (1 : Int32) = kI 1 from rfl, kI_sub, show 100 * opW a p o + 0 - 1 = 100 * opW a p o - 1 by omega]
      exact okI_ret _ _ _
def illV (i : Nat) (a : zA) (P Q T W S : Nat) : Int := opV (scI i a T W Q) (tgN 0 a Q T S) (blI a T) P Q 0 0 10
def illF (i : Nat) (a : zA) (P Q T W S q : Nat) : Option Nat := filO (scI i a T W Q) (tgN 0 a Q T S) (blI a T) P Q 0 0 10 q
def illD (i : Nat) (a : zA) (P Q T W S q : Nat) : Bool := !decide (encW (illF i a P Q T W S q) = xE a T q)
theorem ill_cnt (i : Nat) (a : zA) {P Q T W S : Nat} (hQ : Q ≤ 10) : illV i a P Q T W S = 16 * (illV i a P Q T W S / 16) + (Q - cnt (illD i a P Q T W S) Q : Nat) ∧ sumO (scI i a T W Q) (tgN 0 a Q T S) (blI a T) P (opW a) Q 0 0 10 = illV i a P Q T W S / 16 ∧ illV i a P Q T W S % 16 = (Q - cnt (illD i a P Q T W S) Q : Nat) ∧ cnt (illD i a P Q T W S) Q ≤ Q := by
  obtain ⟨h1, h2, h3⟩ := sumI i a (P := P) (Q := Q) (T := T) (W := W) (S := S) Q 0 0 10
  have h4 := sumO_R (sc := scI i a T W Q) (tg := tgN 0 a Q T S) (bl := blI a T) (P := P) (wM := likO a T) Q 0 0 10
  have h5 := cnt_like (d := illD i a P Q T W S) Q
  rw [sumR_c (h := fun q => if illD i a P Q T W S q = true then 0 else 1) (g := fun q => likO a T q (filO (scI i a T W Q) (tgN 0 a Q T S) (blI a T) P Q 0 0 10 q)) Q 0 (fun q _ _ => by
    show (if illD i a P Q T W S q = true then 0 else 1) = likO a T q (illF i a P Q T W S q)
    unfold illD likO
    by_cases c : encW (illF i a P Q T W S q) = xE a T q
    · rw [decide_eq_true c, if_pos c]; rfl
    · rw [decide_eq_false c, if_neg c]; rfl), ← h4] at h5
  have e : illV i a P Q T W S = opV (scI i a T W Q) (tgN 0 a Q T S) (blI a T) P Q 0 0 10 := rfl
  rw [← e] at h1
  refine ⟨?_, ?_, ?_, ?_⟩ <;> omega
theorem m_bests1 {P Q T W S i : Nat} {a c : zA} {b : zB} (hv : vw P Q T W S a c) (hi : c 194 37 = nI i) (hiP : i < P) (hf : c 194 38 = 0) : ∃ c', M_bests 1 c b = okI (kI (illV i a P Q T W S / 16)) c' b ∧ frM c' c ∧ ∀ q, q < Q → c' 220 q = encW (illF i a P Q T W S q) := by
  have hv2 : vw P Q T W S a (zup c 194 44 1) := vw_u hv (.inr ⟨rfl, by unfold kf; omega⟩)
  have g := MG_I hv2 ((zup_nj (by decide)).trans hi) hiP ((zup_nj (by decide)).trans hf) (zup_eq _ _ _ _)
  obtain ⟨c', e1, e2, e3⟩ := m_bestsG (b := b) (simI i a (P := P) (T := T) (W := W) (S := S) hv.1.2.1) g hv.1.1 hv.1.2.1
  refine ⟨c', ?_, ⟨fun q h1 h2 => ?_, fun j hj => ?_⟩, e3⟩
  · rw [q_M_bests, show zisB 1 = true from rfl, cond_true, m_asks hv2, zcV_ok, e1, (ill_cnt i a hv.1.2.1).2.1]
  · rw [e2 q (by omega) (by omega), askM_q (by omega), zup_row h1]
  · rw [e2 194 (by decide) (by decide), askM_q (by decide), zup_nj hj]
