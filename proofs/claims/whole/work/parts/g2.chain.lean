/-! Parts, chains; the search for the most, purely. -/
def paS (Lw X : Nat → Int32) (lo : Nat → Nat) (p s : Nat) : Nat := s + cond (!decide (Lw p = -1) && !decide (Lw p = X p)) (10 - lo p) 10
def paN (Lw X : Nat → Int32) (lo : Nat → Nat) (Q : Nat) : Nat := fF (paS Lw X lo) 0 Q 0
theorem pa_le {Lw X : Nat → Int32} {lo : Nat → Nat} : ∀ k j s, fF (paS Lw X lo) j k s ≤ s + 10 * k
  | 0, _, s => Nat.le_refl _
  | k + 1, j, s => by
    have := pa_le (Lw := Lw) (X := X) (lo := lo) k (j + 1) (paS Lw X lo j s)
    have h : paS Lw X lo j s ≤ s + 10 := by
      unfold paS
      cases (!decide (Lw j = -1) && !decide (Lw j = X j))
      · exact Nat.le_refl _
      · exact Nat.add_le_add_left (Nat.sub_le _ _) _
    show fF (paS Lw X lo) (j + 1) k (paS Lw X lo j s) ≤ _
    omega
theorem paN_le {Lw X : Nat → Int32} {lo : Nat → Nat} {Q : Nat} (hQ : Q ≤ 5) : paN Lw X lo Q ≤ 50 := by
  have := pa_le (Lw := Lw) (X := X) (lo := lo) Q 0 0
  unfold paN
  omega
theorem paN_c {Lw Lw' X : Nat → Int32} {lo : Nat → Nat} {Q : Nat} (h : ∀ p, p < Q → Lw p = Lw' p) : paN Lw X lo Q = paN Lw' X lo Q := by
  have : ∀ k j s, j + k = Q → fF (paS Lw X lo) j k s = fF (paS Lw' X lo) j k s := by
    intro k
    induction k with
    | zero => intro j s _; rfl
    | succ k ih =>
      intro j s e
      show fF (paS Lw X lo) (j + 1) k (paS Lw X lo j s) = fF (paS Lw' X lo) (j + 1) k (paS Lw' X lo j s)
      rw [ih (j + 1) _ (by omega), show paS Lw X lo j s = paS Lw' X lo j s by unfold paS; rw [h j (by omega)]]
  exact this Q 0 0 (Nat.zero_add _)
def loN (a : zA) (p : Nat) : Nat := (a 7 p).toNatClampNeg
theorem nI_10 {x : Int32} (h : 0 ≤ x) (h9 : x ≤ 10) : x = nI x.toNatClampNeg ∧ x.toNatClampNeg ≤ 10 := by
  obtain ⟨n, hn, e⟩ := nI_of2 (M := 10) (n := 10) (by decide) (show ¬ x < 0 from fun z => by rw [Int32.lt_iff_toInt_lt] at z; rw [Int32.le_iff_toInt_le] at h; omega) h9
  rw [e, show (nI n).toNatClampNeg = n from nI_clamp (by omega)]
  exact ⟨rfl, hn⟩
theorem x_parts {Q j : Nat} {l : List (Nat → Nat)} {A : zA} {x : Int32} {Lw : Nat → Int32} (b : zB) (hQ : Q ≤ 5) (hq : A 2 1 = nI Q) (h7 : ∀ p, p < Q → A 7 p = nI (loN A p) ∧ loN A p ≤ 10) (hl : ∀ q, q < Q → A 37 (5 * j + q) = VL l j q) (hj : j < 120) (hx : (x = -1 ∧ ∀ p, p < Q → A 16 p = Lw p) ∨ ∃ i, i < 120 ∧ x = nI i ∧ ∀ p, p < Q → A 37 (5 * i + p) = Lw p) : R_partsBehind x (nI j) A b = okI (nI (paN Lw (VL l j) (loN A) Q)) A b := by
  have st : ∀ s p, 0 ≤ p → p < Q → R_partsBehind_5 x (nI j) (nI s) (nI p) A b = R_partsBehind_5 x (nI j) (nI (paS Lw (VL l j) (loN A) p s)) (nI (p + 1)) A b := fun s p _ hp => by
    have k93 : ∀ v, R_partsBehind_93 x (nI j) (nI p) (nI s) (nI v) A b = R_partsBehind_5 x (nI j) (nI (s + v)) (nI (p + 1)) A b := fun v => by rw [q_R_partsBehind_93, nI_add, nI_1]
    have k67 : R_partsBehind_67 x (nI j) (nI s) (nI p) 0 A b = R_partsBehind_5 x (nI j) (nI (s + 10)) (nI (p + 1)) A b := by
      rw [q_R_partsBehind_67, zcond_t rfl]
      exact k93 10
    have k67' : R_partsBehind_67 x (nI j) (nI s) (nI p) 1 A b = R_partsBehind_5 x (nI j) (nI (s + (10 - loN A p))) (nI (p + 1)) A b := by
      rw [q_R_partsBehind_67, zcond_f (by decide), zin_nI (n := 10) (by omega) (by decide), cond_true, show (nI p).toNatClampNeg = p from nI_clamp (by omega), (h7 p hp).1, show (10 : Int32) - nI (loN A p) = nI (10 - loN A p) from pk_sub (a := 10) (h7 p hp).2, k93]
    have k66 : R_partsBehind_66 x (nI j) (nI s) (nI p) A b = R_partsBehind_5 x (nI j) (nI (s + 10)) (nI (p + 1)) A b := by rw [q_R_partsBehind_66, k67]
    have e42 : R_partsBehind_42 x (nI j) (nI s) (nI p) (Lw p) A b = R_partsBehind_5 x (nI j) (nI (paS Lw (VL l j) (loN A) p s)) (nI (p + 1)) A b := by
      rw [q_R_partsBehind_42, k66, x_one hj (by omega), zcI_ok, hl p hp, k66, k67']
      unfold paS
      cases decide (Lw p = -1) <;> cases decide (Lw p = VL l j p) <;> rfl
    rw [q_R_partsBehind_5, hq, zcond_t (nI_lt hp (by omega))]
    rcases hx with ⟨h1, h2⟩ | ⟨i, h1, h2, h3⟩
    · rw [zcond_t h1, zin_nI (n := 10) (by omega) (by decide), cond_true, show (nI p).toNatClampNeg = p from nI_clamp (by omega), h2 p hp, e42]
    · rw [zcond_f (show ¬ x = -1 from fun z => nI_m1 (w := i) (by omega) (h2.symm.trans z)), show R_oneAt x (nI p) A b = okI (Lw p) A b by rw [h2, x_one h1 (by omega), h3 p hp], zcI_ok, e42]
  have en : ∀ s, R_partsBehind_5 x (nI j) (nI s) (nI Q) A b = okI (nI s) A b := fun s => by
    rw [q_R_partsBehind_5, hq, zcond_f (nI_nlt (Nat.le_refl _) (by omega))]
    exact okI_ret _ _ _
  rw [q_R_partsBehind]
  exact lpF (F := fun s p => R_partsBehind_5 x (nI j) (nI s) (nI p) A b) (K := fun s => okI (nI s) A b) (lo := 0) (n := Q) st en Q 0 0 (Nat.le_refl _) (Nat.zero_add _)
theorem x_two {P Q W S i j : Nat} {R : Nat → Nat → Bool} {A : zA} {b : zB} (hP : P ≤ 5) (hQ : Q ≤ 5) (hq : A 2 1 = nI Q) (hW : A 9 0 = nI W) (hW9 : W ≤ 9) (hS : A 9 1 = nI S) (hS9 : S ≤ 9) (hG : GX Q (ALL P Q) R A b) (hi : i < (ALL P Q).length) (hj : j < (ALL P Q).length) : R_mayFollowByTwo (nI i) (nI j) A b = okI (bI (twB W S (A 8 3) Q (VL (ALL P Q) i) (VL (ALL P Q) j))) A b := by
  have hN := all_120 hP hQ
  have k85 : ∀ p, R_mayFollowByTwo_85 (nI i) (nI j) (nI p) A b = R_mayFollowByTwo_33 (nI i) (nI j) (nI (p + 1)) A b := fun p => by rw [q_R_mayFollowByTwo_85, nI_1]
  have k91 : R_mayFollowByTwo_91 A b = okI 1 A b := by rw [q_R_mayFollowByTwo_91]; exact okI_ret _ _ _
  have e31 : R_mayFollowByTwo_31 (nI i) (nI j) A b = okI (bI (!(decide (2 ≤ W) && aF (fun p => !hB (A 8 3) p && decide (VL (ALL P Q) i p = VL (ALL P Q) j p)) 0 Q))) A b := by
    rw [q_R_mayFollowByTwo_31]
    by_cases c : 2 ≤ W
    · have st : ∀ p, 0 ≤ p → p < Q → R_mayFollowByTwo_33 (nI i) (nI j) (nI p) A b = cond (!hB (A 8 3) p && decide (VL (ALL P Q) i p = VL (ALL P Q) j p)) (okI 0 A b) (R_mayFollowByTwo_33 (nI i) (nI j) (nI (p + 1)) A b) := fun p _ hp => by
        rw [q_R_mayFollowByTwo_33, hq, zcond_t (nI_lt hp (by omega)), show zin 0 2 = true from rfl, cond_true, show (0 : Int32).toNatClampNeg = 0 from rfl, hW, zcond_f (show ¬ nI W < 2 from nI_nlt (b := 2) c (by omega)), x_isFree (by omega), zcI_ok, zc_b0, x_one (by omega) (by omega), zcI_ok, x_one (by omega) (by omega), zcI_ok, hG.1.2 i hi p hp, hG.1.2 j hj p hp, k85, okI_ret]
        unfold VL
        cases hB (A 8 3) p <;> cases decide (nI (nd (ALL P Q) i p) = nI (nd (ALL P Q) j p)) <;> rfl
      have en : R_mayFollowByTwo_33 (nI i) (nI j) (nI Q) A b = okI 1 A b := by
        rw [q_R_mayFollowByTwo_33, hq, zcond_f (nI_nlt (Nat.le_refl _) (by omega)), k91]
      rw [show (0 : Int32) = nI 0 from rfl, lpE (F := fun p => R_mayFollowByTwo_33 (nI i) (nI j) (nI p) A b) (R := okI 0 A b) st en Q 0 (Nat.le_refl _) (Nat.zero_add _), decide_eq_true c, Bool.true_and]
      cases aF (fun p => !hB (A 8 3) p && decide (VL (ALL P Q) i p = VL (ALL P Q) j p)) 0 Q <;> rfl
    · rw [q_R_mayFollowByTwo_33, hq, decide_eq_false c, show zin 0 2 = true from rfl, cond_true, show (0 : Int32).toNatClampNeg = 0 from rfl, hW, zcond_t (show nI W < 2 from nI_lt (b := 2) (by omega) (by decide)), k91]
      cases decide ((0 : Int32) < nI Q) <;> rfl
  rw [q_R_mayFollowByTwo, show zin 1 2 = true from rfl, cond_true, show (1 : Int32).toNatClampNeg = 1 from rfl, hS, e31, zin_nI (n := 120) (by omega) (by decide), zin_nI (n := 120) (by omega) (by decide), cond_true, cond_true, show (nI i).toNatClampNeg = i from nI_clamp (by omega), show (nI j).toNatClampNeg = j from nI_clamp (by omega), met_bits hQ (all_per hP hj) (hG.2.1 i hi).2 (hG.2.1 j hj).2, okI_ret]
  unfold twB
  by_cases c : 2 ≤ S
  · rw [zcond_f (show ¬ nI S < 2 from nI_nlt (b := 2) c (by omega)), decide_eq_true c, Bool.true_and]
    cases metP Q (VL (ALL P Q) i) (VL (ALL P Q) j) <;> rfl
  · rw [zcond_t (show nI S < 2 from nI_lt (b := 2) (by omega) (by decide)), decide_eq_false c]
    rfl
/-- the search, without bounds -/
def brN (n : Nat) (G : Nat → (Nat → Nat) → Nat → Bool) (V : Nat → (Nat → Nat) → Nat → Int) : Nat → Nat → (Nat → Nat) → Int → Int × (Nat → Nat) → Int × (Nat → Nat)
  | 0, _, c, s, st => cond (decide (st.1 < s)) (s, c) st
  | m + 1, k, c, s, st => fF (fun i st => cond (G k c i) (brN n G V m (k + 1) (updN c k i) (s + V k c i) st) st) 0 n st
def hpN (n : Nat) (fit : Nat → Nat → Bool) (nx : Nat → Nat → Bool) (pb : Nat → Nat → Int) : Nat → Nat → Nat → Int
  | 0, _, _ => 0
  | m + 1, k, i => fF (fun j v => cond (decide (0 ≤ hpN n fit nx pb m (k + 1) j) && (fit (k + 1) j && nx i j)) (max v (hpN n fit nx pb m (k + 1) j + pb i j)) v) 0 n (-1)
theorem mx_up {g : Nat → Bool} {h : Nat → Int} : ∀ k j v, v ≤ fF (fun j v => cond (g j) (max v (h j)) v) j k v
  | 0, _, v => Int.le_refl _
  | k + 1, j, v => by
    have := mx_up (g := g) (h := h) k (j + 1) (cond (g j) (max v (h j)) v)
    have e : v ≤ cond (g j) (max v (h j)) v := by
      cases g j
      · exact Int.le_refl _
      · show v ≤ max v (h j)
        omega
    exact Int.le_trans e this
theorem mx_at {g : Nat → Bool} {h : Nat → Int} : ∀ k j v i, j ≤ i → i < j + k → g i = true → h i ≤ fF (fun j v => cond (g j) (max v (h j)) v) j k v
  | 0, _, _, _, h1, h2, _ => absurd h2 (by omega)
  | k + 1, j, v, i, h1, h2, h3 => by
    by_cases c : i = j
    · subst c
      have := mx_up (g := g) (h := h) k (i + 1) (cond (g i) (max v (h i)) v)
      rw [h3] at this
      have e : h i ≤ max v (h i) := by omega
      have t : fF (fun j v => cond (g j) (max v (h j)) v) i (k + 1) v = fF (fun j v => cond (g j) (max v (h j)) v) (i + 1) k (cond (g i) (max v (h i)) v) := rfl
      rw [t, h3]
      exact Int.le_trans e this
    · exact mx_at k (j + 1) _ i (by omega) (by omega) h3
theorem mx_le {g : Nat → Bool} {h : Nat → Int} {M : Int} (n : Nat) (hb : ∀ j, j < n → g j = true → h j ≤ M) : ∀ k j v, j + k = n → v ≤ M → fF (fun j v => cond (g j) (max v (h j)) v) j k v ≤ M
  | 0, _, v, _, hv => hv
  | k + 1, j, v, e, hv => by
    refine mx_le n hb k (j + 1) _ (by omega) ?_
    show cond (g j) (max v (h j)) v ≤ M
    cases c : g j
    · exact hv
    · have := hb j (by omega) c
      show max v (h j) ≤ M
      omega
theorem hp_b {n : Nat} {fit : Nat → Nat → Bool} {nx : Nat → Nat → Bool} {pb : Nat → Nat → Int} (hp : ∀ i j, 0 ≤ pb i j ∧ pb i j ≤ 50) : ∀ m k i, -1 ≤ hpN n fit nx pb m k i ∧ hpN n fit nx pb m k i ≤ 50 * m
  | 0, _, _ => by unfold hpN; omega
  | m + 1, k, i => by
    unfold hpN
    refine ⟨mx_up _ _ _, mx_le n (fun j _ _ => ?_) n 0 (-1) (Nat.zero_add _) (by omega)⟩
    have h1 := (hp_b hp (n := n) (fit := fit) (nx := nx) m (k + 1) j).2
    have h2 := (hp i j).2
    omega
theorem fF_id {α : Type} {st : Nat → α → α} {x : α} {n : Nat} (h : ∀ i, i < n → st i x = x) : ∀ k j, j + k = n → fF st j k x = x
  | 0, _, _ => rfl
  | k + 1, j, e => by
    show fF st (j + 1) k (st j x) = x
    rw [h j (by omega)]
    exact fF_id h k (j + 1) (by omega)
/-- what can't be better changes nothing -/
theorem br_dead {n : Nat} {G : Nat → (Nat → Nat) → Nat → Bool} {V : Nat → (Nat → Nat) → Nat → Int} {fit : Nat → Nat → Bool} {nx : Nat → Nat → Bool} {pb : Nat → Nat → Int} (hp : ∀ i j, 0 ≤ pb i j ∧ pb i j ≤ 50) (hG : ∀ k c j, G (k + 1) c j = true → fit (k + 1) j = true ∧ nx (c k) j = true) (hV : ∀ k c j, V (k + 1) c j = pb (c k) j) : ∀ m k c s st, (hpN n fit nx pb m k (c k) < 0 ∨ s + hpN n fit nx pb m k (c k) ≤ st.1) → brN n G V m (k + 1) c s st = st
  | 0, k, c, s, st, h => by
    have e : hpN n fit nx pb 0 k (c k) = 0 := rfl
    rw [e] at h
    unfold brN
    rw [decide_eq_false (show ¬ st.1 < s by omega)]
    rfl
  | m + 1, k, c, s, st, h => by
    unfold brN
    refine fF_id (fun j hj => ?_) n 0 (Nat.zero_add _)
    cases c0 : G (k + 1) c j
    · rfl
    · obtain ⟨g1, g2⟩ := hG k c j c0
      rw [cond_true, hV]
      have e : updN c (k + 1) j (k + 1) = j := if_pos rfl
      refine br_dead hp hG hV m (k + 1) (updN c (k + 1) j) (s + pb (c k) j) st ?_
      rw [e]
      by_cases d : hpN n fit nx pb m (k + 1) j < 0
      · exact .inl d
      · have t : hpN n fit nx pb m (k + 1) j + pb (c k) j ≤ hpN n fit nx pb (m + 1) k (c k) := by
          have := mx_at (g := fun j => decide (0 ≤ hpN n fit nx pb m (k + 1) j) && (fit (k + 1) j && nx (c k) j)) (h := fun j => hpN n fit nx pb m (k + 1) j + pb (c k) j) n 0 (-1) j (Nat.zero_le _) (by omega) (by
            show (decide (0 ≤ hpN n fit nx pb m (k + 1) j) && (fit (k + 1) j && nx (c k) j)) = true
            rw [decide_eq_true (show 0 ≤ hpN n fit nx pb m (k + 1) j by omega), g1, g2]
            rfl)
          exact this
        have := (hp (c k) j).1
        refine .inr ?_
        omega
theorem fF_rel {s1 s2 : Nat → Int × (Nat → Nat) → Int × (Nat → Nat)} {e : Nat → Nat} {l : Nat} (h : ∀ j b d, j < l → s1 j (b, fun q => e (d q)) = ((s2 j (b, d)).1, fun q => e ((s2 j (b, d)).2 q))) : ∀ x j b d, j + x = l → fF s1 j x (b, fun q => e (d q)) = ((fF s2 j x (b, d)).1, fun q => e ((fF s2 j x (b, d)).2 q))
  | 0, _, _, _, _ => rfl
  | x + 1, j, b, d, ej => by
    have ih := fF_rel h x (j + 1) (s2 j (b, d)).1 (s2 j (b, d)).2 (by omega)
    show fF s1 (j + 1) x (s1 j (b, fun q => e (d q))) = _
    rw [h j b d (by omega)]
    exact ih
/-- the same search over some of the numbers -/
theorem br_emb {n l : Nat} {ok : Nat → Bool} {e : Nat → Nat} {G G' : Nat → (Nat → Nat) → Nat → Bool} {V V' : Nat → (Nat → Nat) → Nat → Int} (he : embO n l ok e) (hO : ∀ k c i, G k c i = true → ok i = true) (hG : ∀ k c f, f < l → (∀ q, q < k → c q < l) → G' k c f = G k (fun q => e (c q)) (e f)) (hV : ∀ k c f, f < l → (∀ q, q < k → c q < l) → V' k c f = V k (fun q => e (c q)) (e f)) : ∀ m k c s b d, (∀ q, q < k → c q < l) → brN n G V m k (fun q => e (c q)) s (b, fun q => e (d q)) = ((brN l G' V' m k c s (b, d)).1, fun q => e ((brN l G' V' m k c s (b, d)).2 q))
  | 0, k, c, s, b, d, _ => by
    unfold brN
    cases decide (b < s) <;> rfl
  | m + 1, k, c, s, b, d, hc => by
    have stp : ∀ j b d, j < l → cond (G k (fun q => e (c q)) (e j)) (brN n G V m (k + 1) (updN (fun q => e (c q)) k (e j)) (s + V k (fun q => e (c q)) (e j)) (b, fun q => e (d q))) (b, fun q => e (d q)) = ((cond (G' k c j) (brN l G' V' m (k + 1) (updN c k j) (s + V' k c j) (b, d)) (b, d)).1, fun q => e ((cond (G' k c j) (brN l G' V' m (k + 1) (updN c k j) (s + V' k c j) (b, d)) (b, d)).2 q)) := fun j b d hj => by
      rw [hG k c j hj hc]
      cases c0 : G k (fun q => e (c q)) (e j)
      · rfl
      · have eu : updN (fun q => e (c q)) k (e j) = fun q => e (updN c k j q) := by
          funext q
          unfold updN
          by_cases c1 : q = k
          · rw [if_pos c1, if_pos c1]
          · rw [if_neg c1, if_neg c1]
        rw [cond_true, cond_true, eu, ← hV k c j hj hc]
        exact br_emb he hO hG hV m (k + 1) (updN c k j) (s + V' k c j) b d (fun q hq => by
          unfold updN
          by_cases c1 : q = k
          · rw [if_pos c1]; exact hj
          · rw [if_neg c1]; exact hc q (by omega))
    have st := fF_rel (s1 := fun f st => cond (G k (fun q => e (c q)) (e f)) (brN n G V m (k + 1) (updN (fun q => e (c q)) k (e f)) (s + V k (fun q => e (c q)) (e f)) st) st) (s2 := fun f st => cond (G' k c f) (brN l G' V' m (k + 1) (updN c k f) (s + V' k c f) st) st) (e := e) (l := l) stp
    have fold := emb_fold (st := fun i st => cond (G k (fun q => e (c q)) i) (brN n G V m (k + 1) (updN (fun q => e (c q)) k i) (s + V k (fun q => e (c q)) i) st) st) (b, fun q => e (d q)) n l he
    have guard : (fun i (st : Int × (Nat → Nat)) => cond (ok i) (cond (G k (fun q => e (c q)) i) (brN n G V m (k + 1) (updN (fun q => e (c q)) k i) (s + V k (fun q => e (c q)) i) st) st) st) = fun i st => cond (G k (fun q => e (c q)) i) (brN n G V m (k + 1) (updN (fun q => e (c q)) k i) (s + V k (fun q => e (c q)) i) st) st := by
      funext i st
      cases c0 : G k (fun q => e (c q)) i
      · cases ok i <;> rfl
      · rw [hO k _ i c0]
        rfl
    rw [guard] at fold
    unfold brN
    rw [fold]
    exact st l 0 b d (Nat.zero_add _)
