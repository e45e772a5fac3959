/-! Places and pairs as bits. -/
def pB (v : Int32) (F : Nat → Nat → Bool) : Prop := (∀ q w, q < 5 → w < 5 → hB v (5 * q + w) = F q w) ∧ ∀ i, 25 ≤ i → i < 32 → hB v i = false
theorem pB_0 : pB 0 (fun _ _ => false) := ⟨fun _ _ _ _ => hB_zero _, fun _ _ _ => hB_zero _⟩
theorem pB_or {v v' : Int32} {F F' : Nat → Nat → Bool} (h : pB v F) (h' : pB v' F') : pB (v ||| v') (fun q w => F q w || F' q w) := ⟨fun q w h1 h2 => by rw [hB_or, h.1 q w h1 h2, h'.1 q w h1 h2], fun i h1 h2 => by rw [hB_or, h.2 i h1 h2, h'.2 i h1 h2]; rfl⟩
theorem pB_c {v : Int32} {F F' : Nat → Nat → Bool} (h : pB v F) (e : ∀ q w, q < 5 → w < 5 → F q w = F' q w) : pB v F' := ⟨fun q w h1 h2 => (h.1 q w h1 h2).trans (e q w h1 h2), h.2⟩
theorem i25 {i : Nat} (h : i < 25) : ∃ q w, q < 5 ∧ w < 5 ∧ i = 5 * q + w := ⟨i / 5, i % 5, by omega, by omega, by omega⟩
theorem pB_and {v v' : Int32} {F F' : Nat → Nat → Bool} (h : pB v F) (h' : pB v' F') : (v &&& v' = 0) ↔ ∀ q w, q < 5 → w < 5 → F q w = true → F' q w = false := by
  constructor
  · intro e q w h1 h2 h3
    have g := hB_and v v' (5 * q + w)
    rw [e, hB_zero, h.1 q w h1 h2, h'.1 q w h1 h2, h3, Bool.true_and] at g
    exact g.symm
  · intro e
    refine hB_ext fun i hi => ?_
    rw [hB_and, hB_zero]
    by_cases c : i < 25
    · obtain ⟨q, w, h1, h2, rfl⟩ := i25 c
      rw [h.1 q w h1 h2, h'.1 q w h1 h2]
      cases g : F q w
      · rfl
      · rw [e q w h1 h2 g]; rfl
    · rw [h.2 i (by omega) hi]; rfl
theorem hB_xor1 (x : Int32) {i : Nat} (h : i < 32) : hB (x ^^^ (-1)) i = !hB x i := by
  have e : (-1 : Int32).toBitVec = BitVec.allOnes 32 := by decide
  unfold hB
  rw [Int32.toBitVec_xor, e, BitVec.getLsbD_xor, BitVec.getLsbD_allOnes, decide_eq_true h]
  cases x.toBitVec.getLsbD i <;> rfl
theorem pB_sub {v v' : Int32} {F F' : Nat → Nat → Bool} (h : pB v F) (h' : pB v' F') : (v &&& (v' ^^^ (-1)) = 0) ↔ ∀ q w, q < 5 → w < 5 → F q w = true → F' q w = true := by
  constructor
  · intro e q w h1 h2 h3
    have g := hB_and v (v' ^^^ (-1)) (5 * q + w)
    rw [e, hB_zero, h.1 q w h1 h2, hB_xor1 _ (by omega), h'.1 q w h1 h2, h3, Bool.true_and] at g
    cases c : F' q w
    · rw [c] at g; exact absurd g (by decide)
    · rfl
  · intro e
    refine hB_ext fun i hi => ?_
    rw [hB_and, hB_zero, hB_xor1 _ hi]
    by_cases c : i < 25
    · obtain ⟨q, w, h1, h2, rfl⟩ := i25 c
      rw [h.1 q w h1 h2, h'.1 q w h1 h2]
      cases g : F q w
      · rfl
      · rw [e q w h1 h2 g]; rfl
    · rw [h.2 i (by omega) hi]; rfl
def plF (x : Int32) (p q w : Nat) : Bool := decide (q = p) && decide (x = nI w)
theorem pB_bit {q w : Nat} (hq : q < 5) (hw : w < 5) : pB (1 <<< (nI (5 * q + w) &&& 31)) (fun q' w' => decide (q' = q) && decide (w' = w)) := by
  refine ⟨fun q' w' h1 h2 => ?_, fun i h1 h2 => ?_⟩
  · rw [hB_bit (by omega) _ (by omega)]
    show decide (5 * q' + w' = 5 * q + w) = (decide (q' = q) && decide (w' = w))
    by_cases c : q' = q
    · by_cases d : w' = w
      · rw [c, d, decide_eq_true rfl, decide_eq_true rfl, decide_eq_true rfl]; rfl
      · rw [decide_eq_false (show ¬ 5 * q' + w' = 5 * q + w by omega), decide_eq_false d, Bool.and_false]
    · rw [decide_eq_false (show ¬ 5 * q' + w' = 5 * q + w by omega), decide_eq_false c, Bool.false_and]
  · rw [hB_bit (by omega) _ h2]
    exact decide_eq_false (by omega)
theorem x_place {x : Int32} {p : Nat} (hx : rOne 5 x) (hp : p < 5) (a : zA) (b : zB) : ∃ v, R_placeBit x (nI p) a b = okI v a b ∧ pB v (plF x p) := by
  have k15 : ∀ v, R_placeBit_15 v a b = okI v a b := fun v => by rw [q_R_placeBit_15]; exact okI_ret _ _ _
  rw [q_R_placeBit]
  rcases hx with rfl | ⟨w, hw, rfl⟩
  · refine ⟨0, ?_, pB_c pB_0 (fun q w h1 h2 => ?_)⟩
    · rw [zcond_t (by decide), k15]
    · unfold plF
      rw [decide_eq_false (show ¬ (-1 : Int32) = nI w from fun z => nI_m1 (by omega) z.symm), Bool.and_false]
  · refine ⟨_, ?_, pB_c (pB_bit hp hw) (fun q' w' h1 h2 => ?_)⟩
    · rw [zcond_f (nI_pos (by omega)), k15, show nI p * 5 + nI w = nI (5 * p + w) from (s_mul p 5 w).trans (by rw [Nat.mul_comm])]
    · unfold plF
      congr 1
      rw [Bool.eq_iff_iff, decide_eq_true_iff, decide_eq_true_iff, nI_eq (by omega) (by omega)]
      exact ⟨Eq.symm, Eq.symm⟩
def prF (x y : Int32) (q w : Nat) : Bool := decide (q ≤ w) && ((decide (x = nI q) && decide (y = nI w)) || (decide (x = nI w) && decide (y = nI q)))
theorem x_pair {x y : Int32} (hx : rOne 5 x) (hy : rOne 5 y) (a : zA) (b : zB) : ∃ v, R_pairBit x y a b = okI v a b ∧ pB v (prF x y) := by
  have k8 : R_pairBit_8 a b = okI 0 a b := by rw [q_R_pairBit_8]; exact okI_ret _ _ _
  have ng : ∀ w, w < 5 → ¬ (-1 : Int32) = nI w := fun w h z => nI_m1 (w := w) (by omega) z.symm
  rw [q_R_pairBit, k8]
  rcases hx with rfl | ⟨u, hu, rfl⟩
  · refine ⟨0, zcond_t (by decide), pB_c pB_0 (fun q w h1 h2 => ?_)⟩
    unfold prF
    rw [decide_eq_false (ng q h1), decide_eq_false (ng w h2), Bool.false_and, Bool.false_and, Bool.or_false, Bool.and_false]
  · rw [zcond_f (nI_pos (by omega))]
    rcases hy with rfl | ⟨z, hz, rfl⟩
    · refine ⟨0, zcond_t (by decide), pB_c pB_0 (fun q w h1 h2 => ?_)⟩
      unfold prF
      rw [decide_eq_false (ng q h1), decide_eq_false (ng w h2), Bool.and_false, Bool.and_false, Bool.or_false, Bool.and_false]
    · rw [zcond_f (nI_pos (by omega))]
      have e1 : (if nI z < nI u then nI z else nI u) = nI (min z u) := zz_min (by omega) (by omega)
      have e2 : (if nI u < nI z then nI z else nI u) = nI (max z u) := by
        by_cases c : u < z
        · rw [if_pos (nI_lt c (by omega)), Nat.max_eq_left (by omega)]
        · rw [if_neg (nI_nlt (by omega) (by omega)), Nat.max_eq_right (by omega)]
      rw [e1, e2, show nI (min z u) * 5 + nI (max z u) = nI (5 * min z u + max z u) from (s_mul _ 5 _).trans (by rw [Nat.mul_comm])]
      refine ⟨_, okI_ret _ _ _, pB_c (pB_bit (show min z u < 5 by omega) (show max z u < 5 by omega)) (fun q w h1 h2 => ?_)⟩
      unfold prF
      rw [Bool.eq_iff_iff]
      simp only [Bool.and_eq_true, Bool.or_eq_true, decide_eq_true_iff]
      rw [nI_eq (by omega) (by omega), nI_eq (by omega) (by omega), nI_eq (by omega) (by omega), nI_eq (by omega) (by omega)]
      omega
theorem x_isFree {p : Nat} (hp : p < 32) (a : zA) (b : zB) : L_isFree (nI p) a b = okI (bI (hB (a 8 3) p)) a b := by
  have k16 : ∀ x : Bool, L_isFree_16 (bI x) a b = okI (bI x) a b := fun x => by
    rw [q_L_isFree_16]
    cases x
    · exact okI_ret _ _ _
    · exact okI_ret _ _ _
  rw [q_L_isFree, hB_test hp, zc_b0, show L_isFree_16 0 a b = okI (bI false) a b from k16 false, show L_isFree_16 1 a b = okI (bI true) a b from k16 true]
  cases hB (a 8 3) p <;> rfl
theorem x_barsN {p q : Nat} (hp : p < 10) (hq : q < 32) (a : zA) (b : zB) : L_bars (nI p) (nI q) a b = okI (bI (hB (a 10 p) q)) a b := by
  have k28 : ∀ x : Bool, L_bars_28 (bI x) a b = okI (bI x) a b := fun x => by
    rw [q_L_bars_28]
    cases x
    · exact okI_ret _ _ _
    · exact okI_ret _ _ _
  have k27 : L_bars_27 a b = okI (bI false) a b := by rw [q_L_bars_27]; exact k28 false
  rw [q_L_bars, zcond_f (nI_pos (by omega)), zcond_t (show nI p < 10 from nI_lt (b := 10) hp (by decide)), zin_nI hp (by decide), cond_true, show (nI p).toNatClampNeg = p from nI_clamp (by omega), hB_test hq, zc_b0, k27, show L_bars_28 1 a b = okI (bI true) a b from k28 true]
  cases hB (a 10 p) q <;> rfl
/-- where one may not be behind a post -/
def baF (W : Nat) (F : Int32) (N : Nat → Int32) (Q : Nat) (x : Int32) (p q w : Nat) : Bool := decide (x = nI w) && ((decide (q = p) && (decide (0 < W) && !hB F p)) || (decide (q < Q) && hB (N p) q))
theorem x_barTo {Q W : Nat} {x : Int32} {p : Nat} {a : zA} {b : zB} (hQ : Q ≤ 5) (hq : a 2 1 = nI Q) (hW : a 9 0 = nI W) (h9 : W ≤ 9) (hx : rOne 5 x) (hp : p < Q) : ∃ v, R_placesBarredTo x (nI p) a b = okI v a b ∧ pB v (baF W (a 8 3) (a 10) Q x p) := by
  have nx : ∀ v q, R_placesBarredTo_68 x (nI p) v (nI q) a b = R_placesBarredTo_34 x (nI p) v (nI (q + 1)) a b := fun v q => by rw [q_R_placesBarredTo_68, nI_1]
  have loop : ∀ k q v, q + k = Q → ∀ F, pB v F → ∃ v', R_placesBarredTo_34 x (nI p) v (nI q) a b = okI v' a b ∧ pB v' (fun q' w => F q' w || (decide (x = nI w) && (decide (q ≤ q' ∧ q' < Q) && hB (a 10 p) q'))) := by
    intro k
    induction k with
    | zero =>
      intro q v e F hF
      have : q = Q := by omega
      subst this
      refine ⟨v, ?_, pB_c hF (fun q' w _ _ => ?_)⟩
      · rw [q_R_placesBarredTo_34, hq, zcond_f (nI_nlt (Nat.le_refl _) (by omega))]
        exact okI_ret _ _ _
      · rw [decide_eq_false (show ¬ (q ≤ q' ∧ q' < q) by omega), Bool.false_and, Bool.and_false, Bool.or_false]
    | succ k ih =>
      intro q v e F hF
      rw [q_R_placesBarredTo_34, hq, zcond_t (nI_lt (show q < Q by omega) (by omega)), x_barsN (by omega) (by omega), zcI_ok, zc_b0, nx]
      cases c : hB (a 10 p) q
      · obtain ⟨v', y1, y2⟩ := ih (q + 1) v (by omega) F hF
        refine ⟨v', y1, pB_c y2 (fun q' w _ _ => ?_)⟩
        congr 2
        by_cases e : q' = q
        · rw [e, c, Bool.and_false, Bool.and_false]
        · congr 1
          rw [Bool.eq_iff_iff, decide_eq_true_iff, decide_eq_true_iff]
          omega
      · obtain ⟨u, z1, z2⟩ := x_place (x := x) (p := q) hx (by omega) a b
        obtain ⟨v', y1, y2⟩ := ih (q + 1) (v ||| u) (by omega) _ (pB_or hF z2)
        refine ⟨v', ?_, pB_c y2 (fun q' w _ _ => ?_)⟩
        · rw [cond_true, z1, zcI_ok, nx]; exact y1
        · show ((F q' w || plF x q q' w) || _) = _
          rw [Bool.or_assoc]
          congr 1
          unfold plF
          rw [Bool.eq_iff_iff]
          simp only [Bool.and_eq_true, Bool.or_eq_true, decide_eq_true_iff]
          constructor
          · rintro (⟨h1, h2⟩ | ⟨h1, h2, h3⟩)
            · exact ⟨h2, ⟨by omega, by omega⟩, by rw [h1]; exact c⟩
            · exact ⟨h1, ⟨by omega, by omega⟩, h3⟩
          · rintro ⟨h1, ⟨h2, h3⟩, h4⟩
            by_cases e : q' = q
            · exact .inl ⟨e, h1⟩
            · exact .inr ⟨h1, ⟨by omega, h3⟩, h4⟩
  have fin : ∀ v F, pB v F → (∀ q w, q < 5 → w < 5 → F q w = (plF x p q w && (decide (0 < W) && !hB (a 8 3) p))) → ∃ v', R_placesBarredTo_31 x (nI p) v a b = okI v' a b ∧ pB v' (baF W (a 8 3) (a 10) Q x p) := fun v F hF e => by
    obtain ⟨v', y1, y2⟩ := loop Q 0 v (Nat.zero_add _) F hF
    refine ⟨v', by rw [q_R_placesBarredTo_31]; exact y1, pB_c y2 (fun q w h1 h2 => ?_)⟩
    rw [e q w h1 h2]
    unfold baF plF
    rw [show decide (0 ≤ q ∧ q < Q) = decide (q < Q) by rw [Bool.eq_iff_iff, decide_eq_true_iff, decide_eq_true_iff]; omega]
    cases decide (q = p) <;> cases decide (x = nI w) <;> cases decide (0 < W) <;> cases hB (a 8 3) p <;> cases decide (q < Q) <;> cases hB (a 10 p) q <;> rfl
  rw [q_R_placesBarredTo, show zin 0 2 = true from rfl, cond_true, show (0 : Int32).toNatClampNeg = 0 from rfl, hW]
  by_cases c : 0 < W
  · rw [zcond_t (show (0 : Int32) < nI W from nI_lt (a := 0) c (by omega)), x_isFree (by omega), zcI_ok, zc_b0]
    cases d : hB (a 8 3) p
    · obtain ⟨u, z1, z2⟩ := x_place (x := x) (p := p) hx (by omega) a b
      rw [cond_false, z1, zcI_ok]
      exact fin u _ z2 (fun q w _ _ => by rw [decide_eq_true c, d]; cases plF x p q w <;> rfl)
    · exact fin 0 _ pB_0 (fun q w _ _ => by rw [d]; cases plF x p q w <;> cases decide (0 < W) <;> rfl)
  · rw [zcond_f (show ¬ (0 : Int32) < nI W from nI_nlt (a := 0) (by omega) (by omega))]
    exact fin 0 _ pB_0 (fun q w _ _ => by rw [decide_eq_false c]; cases plF x p q w <;> rfl)
