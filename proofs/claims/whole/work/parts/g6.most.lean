/-! The call most. -/
theorem br_lt {n : Nat} {G : Nat → (Nat → Nat) → Nat → Bool} {V : Nat → (Nat → Nat) → Nat → Int} : ∀ m k c s st, (∀ q, q < k → c q < n) → (0 ≤ st.1 → ∀ q, q < k + m → st.2 q < n) → 0 ≤ (brN n G V m k c s st).1 → ∀ q, q < k + m → (brN n G V m k c s st).2 q < n
  | 0, k, c, s, st, hc, hs => by
    unfold brN
    cases decide (st.1 < s)
    · exact hs
    · exact fun _ q hq => hc q (by omega)
  | m + 1, k, c, s, st, hc, hs => by
    unfold brN
    refine fF_inv (st := fun i st => cond (G k c i) (brN n G V m (k + 1) (updN c k i) (s + V k c i) st) st) (fun _ st => 0 ≤ st.1 → ∀ q, q < k + (m + 1) → st.2 q < n) (fun i x hi h => ?_) n 0 st (Nat.zero_add _) hs
    show 0 ≤ (cond (G k c i) (brN n G V m (k + 1) (updN c k i) (s + V k c i) x) x).1 → ∀ q, q < k + (m + 1) → (cond (G k c i) (brN n G V m (k + 1) (updN c k i) (s + V k c i) x) x).2 q < n
    cases G k c i
    · exact h
    · intro g q hq
      exact br_lt m (k + 1) (updN c k i) _ x (fun q hq => by
        unfold updN
        by_cases c1 : q = k
        · rw [if_pos c1]; exact hi
        · rw [if_neg c1]; exact hc q (by omega)) (fun g q hq => h g q (by omega)) g q (by omega)
def rwL (f : Nat → List Int32) : Nat → List Int32
  | 0 => []
  | k + 1 => rwL f k ++ f k
theorem rwL_len {f : Nat → List Int32} (h : ∀ k, (f k).length ≤ 5) : ∀ k, (rwL f k).length ≤ 5 * k
  | 0 => Nat.le_refl _
  | k + 1 => by
    have := rwL_len h k
    have := h k
    unfold rwL
    rw [List.length_append]
    omega
theorem rwL_c {f g : Nat → List Int32} : ∀ k, (∀ i, i < k → f i = g i) → rwL f k = rwL g k
  | 0, _ => rfl
  | k + 1, h => by
    unfold rwL
    rw [rwL_c k (fun i hi => h i (by omega)), h k (by omega)]
theorem mL_off {r : Nat} (hr : r ≠ 194 ∧ r ≠ 195) : ∀ (l : List Int32) N (c c' : zA), (∀ q, q ≠ r → c q = c' q) → ∀ q, q ≠ r → mList N l c q = mList N l c' q
  | [], _, _, _, h => h
  | x :: l, N, c, c', h => mL_off hr l (N + 1) _ _ (fun q hq => by
    funext j
    unfold mEnt zup
    rw [h q hq])
theorem mT_off {r : Nat} (hr : r ≠ 194 ∧ r ≠ 195) {c c' : zA} (l : List Int32) (h : ∀ q, q ≠ r → c q = c' q) : ∀ q, q ≠ r → mT c l q = mT c' l q :=
  mL_off hr l 0 _ _ (fun q hq => by
    funext j
    unfold zup
    rw [h q hq])
theorem rel_206 {L : Nat} {xs : Nat → Int32} {P Q T G N : Nat} {m M : zA} (h : rAll L xs P Q T G N m) (row : ∀ q, q ≠ 206 → M q = m q) (h206 : ∀ j, j < 10 * T ∨ 630 ≤ j → M 206 j = m 206 j) : rAll L xs P Q T G N M := by
  obtain ⟨-, ⟨-, ⟨-, -, hQ⟩, ⟨n1, n2, hT⟩, -⟩, -, hC, ⟨d1, d2, d3, d4, d5⟩, hW, -, -, -, -, -, hP, hG⟩ := id h
  refine rel_state h (fun q hq => row q (by omega)) (fun j _ => congrFun (row 194 (by decide)) j) ?_ ?_ hT ?_ ⟨fun d p e1 e2 => ?_, fun p e1 => ?_, ?_, ?_, ?_⟩ ?_ ?_ ?_
  · rw [row 12 (by decide)]; exact n1
  · rw [row 194 (by decide)]; exact n2
  · rw [row 17 (by decide), row 18 (by decide), row 196 (by decide), row 198 (by decide)]; exact hC
  · rw [row 13 (by decide), h206 _ (by omega)]; exact d1 d p e1 e2
  · show M 13 (10 * T + p) = M 206 (630 + p)
    rw [row 13 (by decide), h206 _ (by omega)]; exact d2 p e1
  · rw [row 13 (by decide)]; exact d3
  · rw [row 13 (by decide)]; exact d4
  · rw [row 13 (by decide)]; exact d5
  · rw [row 14 (by decide), row 15 (by decide), row 16 (by decide), row 203 (by decide), row 204 (by decide), row 205 (by decide)]; exact hW
  · rw [row 15 (by decide), row 6 (by decide)]; exact hP
  · rw [row 18 (by decide), row 3 (by decide)]; exact hG
theorem br_same {P Q T W S n : Nat} {a : zA} {e : Nat → Nat} {l : List (Nat → Nat)} (he : embO (ALL P Q).length l.length (okU P Q (fAb P a)) e) (hnd : ∀ k, k < l.length → nd l k = nd (ALL P Q) (e k)) (c d : Nat → Nat) : brC a P Q T W S n 0 (fun q => e (c q)) 0 (-1, fun q => e (d q)) = ((brM a Q T W S l n 0 c 0 (-1, d)).1, fun q => e ((brM a Q T W S l n 0 c 0 (-1, d)).2 q)) := by
  have vl : ∀ k, k < l.length → VL l k = VL (ALL P Q) (e k) := fun k hk => by
    funext q
    unfold VL
    rw [hnd k hk]
  refine br_emb (ok := okU P Q (fAb P a)) he (fun k c i h => ?_) (fun k c f hf hc => ?_) (fun k c f hf hc => ?_) n 0 c 0 (-1) d (fun q hq => absurd hq (Nat.not_lt_zero _))
  · unfold GNc fitN at h
    rw [Bool.and_eq_true, Bool.and_eq_true] at h
    exact h.1.1
  · unfold GNm GNc fitN goB
    rw [(he.1 f hf).2, Bool.true_and, hnd f hf]
    congr 1
    have e1 : (decide (k = 0) || folB W S (a 8 3) (a 10) Q (VV (nd l (c (k - 1)))) (VV (nd (ALL P Q) (e f)))) = (decide (k = 0) || fR W S (a 8 3) (a 10) Q (ALL P Q) (e (c (k - 1))) (e f)) := by
      by_cases c1 : k = 0
      · rw [decide_eq_true c1]; rfl
      · rw [hnd (c (k - 1)) (hc (k - 1) (by omega))]
        rfl
    have e2 : (decide (k < 2) || twB W S (a 8 3) Q (VV (nd l (c (k - 2)))) (VV (nd (ALL P Q) (e f)))) = (decide (k < 2) || twB W S (a 8 3) Q (VL (ALL P Q) (e (c (k - 2)))) (VL (ALL P Q) (e f))) := by
      by_cases c1 : k < 2
      · rw [decide_eq_true c1]; rfl
      · rw [hnd (c (k - 2)) (hc (k - 2) (by omega))]
        rfl
    show ((decide (k = 0) || folB W S (a 8 3) (a 10) Q (VV (nd l (c (k - 1)))) (VV (nd (ALL P Q) (e f)))) && (decide (k < 2) || twB W S (a 8 3) Q (VV (nd l (c (k - 2)))) (VV (nd (ALL P Q) (e f))))) = _
    rw [e1, e2]
  · unfold VNm VNc
    by_cases c1 : k = 0
    · rw [if_pos c1, if_pos c1, vl f hf]
    · rw [if_neg c1, if_neg c1, vl f hf, vl (c (k - 1)) (hc (k - 1) (by omega))]
      rfl
theorem r_most {L : Nat} {xs : Nat → Int32} (x1 : Int32) : zAns (Rel L xs) (X_most x1) (M_most x1) := by
  intro a b hr
  obtain ⟨P, Q, T, G, N, hall⟩ := id hr
  obtain ⟨W, S, hv⟩ := vw_mask hall
  obtain ⟨⟨g1, g2, g3, g4, g5⟩, ⟨⟨p1, p2⟩, ⟨q1, q2⟩, -⟩, -⟩ := id hv
  have hin : ∀ c (b : zB), M_in x1.toInt64 1 3 c b = okI (if x1 < 1 then 0 else if 3 < x1 then 0 else 1) c b := fun c b => s_in32 x1 1 3 (by decide) (by decide) c b
  have k10 : X_most_10 a b = okI (-1) a b := by rw [q_X_most_10]; exact okI_ret _ _ _
  by_cases c1 : x1 < 1
  · refine ans_thr hr (-1) ?_ ?_
    · rw [q_X_most, zcond_t c1, k10]
    · rw [q_M_most, hin, if_pos c1, zcI_ok, zcond_t rfl]; exact okI_ret _ _ _
  by_cases c2 : 3 < x1
  · refine ans_thr hr (-1) ?_ ?_
    · rw [q_X_most, zcond_f c1, zcond_t c2, k10]
    · rw [q_M_most, hin, if_neg c1, if_pos c2, zcI_ok, zcond_t rfl]; exact okI_ret _ _ _
  by_cases cf : P ≤ 5 ∧ Q ≤ 5
  case neg =>
    obtain ⟨f1, f2⟩ := few_no (b := b) hv cf
    refine ans_thr hr (-3) ?_ ?_
    · rw [q_X_most, zcond_f c1, zcond_f c2, f1, zcI_ok, zcond_t rfl]; exact okI_ret _ _ _
    · rw [q_M_most, hin, if_neg c1, if_neg c2, zcI_ok, zcond_f (show ¬ (1 : Int32) = 0 by decide), f2, zcI_ok, zcond_t rfl]; exact okI_ret _ _ _
  obtain ⟨hP, hQ⟩ := cf
  obtain ⟨n, hn, hn1, rfl⟩ : ∃ n, n ≤ 3 ∧ 1 ≤ n ∧ x1 = nI n := by
    obtain ⟨n, hn, e⟩ := nI_of2 (M := 3) (n := 3) (by decide) (show ¬ x1 < 0 from fun z => c1 (by rw [Int32.lt_iff_toInt_lt] at z ⊢; rw [show (0 : Int32).toInt = 0 from rfl] at z; rw [show (1 : Int32).toInt = 1 from rfl]; omega)) (show x1 ≤ 3 by rw [Int32.le_iff_toInt_le]; rw [Int32.lt_iff_toInt_lt] at c2; omega)
    refine ⟨n, hn, ?_, e⟩
    by_cases c3 : n = 0
    · rw [e, c3] at c1
      exact absurd (show nI 0 < 1 by decide) c1
    · omega
  obtain ⟨A, b1, y1, y2, y3⟩ := x_graph b hv hP hQ
  have fA := FXA_B y2
  have vA : vw P Q T W S A a := vw_s hv (FXA_s fA)
  have y3' : GX Q (ALL P Q) (fR W S (A 8 3) (A 10) Q (ALL P Q)) A b1 := by rw [congrFun (fA 8 (by decide)) 3, fA 10 (by decide)]; exact y3
  have hN := all_120 hP hQ
  obtain ⟨e, he, hnd⟩ := emb_lst P Q (fAb P A)
  have hL := lst_120 (fAb P A) hP hQ
  obtain ⟨l, el⟩ : ∃ l, l = LST (fAb P A) P Q := ⟨_, rfl⟩
  rw [← el] at he hnd hL
  obtain ⟨r, er⟩ : ∃ r, r = brM A Q T W S l n 0 (fun _ => 0) 0 (-1, fun _ => 0) := ⟨_, rfl⟩
  obtain ⟨A', b2, z1, z2, z3⟩ := x_mostP vA hP hQ hn1 hn b1 y3' (fun _ => e 0) (fun _ => e 0)
  have rs : brC A P Q T W S n 0 (fun _ => e 0) 0 (-1, fun _ => e 0) = (r.1, fun q => e (r.2 q)) := by
    rw [er]
    exact br_same he hnd (fun _ => 0) (fun _ => 0)
  rw [rs] at z1 z3
  have rl : 0 ≤ r.1 → ∀ q, q < n → r.2 q < l.length := fun g q hq => by
    rw [er] at g ⊢
    exact br_lt n 0 (fun _ => 0) 0 (-1, fun _ => 0) (fun q hq => absurd hq (Nat.not_lt_zero _)) (fun z => absurd (show (0 : Int) ≤ -1 from z) (by decide)) g q (by omega)
  have fA' : FXA A' a := FXA_t fA (fun q hq => z2.1 q (by omega) (by omega) (by omega) (by omega))
  have br := z3.2.1
  have br' : -1 ≤ r.1 ∧ r.1 ≤ 150 := br
  have eX : X_most (nI n) a b = cond (decide (kI r.1 < 0)) (okI (-2) A' b2) (zcV (X_clearRow A' b2) (fun a4 b4 => X_most_54 (nI n) (kI r.1) 0 a4 b4)) := by
    rw [q_X_most, zcond_f c1, zcond_f c2, x_fewY hv hP hQ, zcI_ok, zcond_f (show ¬ (1 : Int32) = 0 by decide), y1, zcV_ok, z1, zcI_ok]
    rfl
  have hw : ∀ p, p < Q → A 16 p = a 205 p ∧ rOne P (A 16 p) := fun p hp => by
    obtain ⟨-, -, -, -, -, ⟨-, -, w3, -⟩, -⟩ := hall
    have := w3 p hp
    rw [zm_lo (q := 16) (.inl (by decide)), zm_lo (q := 205) (.inr (by decide))] at this
    rw [fA 16 (by decide)]
    exact this
  -- the reference
  have eM : ∀ (Y : zA) (bb : zB), (∀ q, 194 ≤ q → q ≤ 210 → q ≠ 195 → Y q = a q) → ∃ C, M_most (nI n) Y bb = cond (decide (C 194 58 < 0)) (okI (-2) C bb) (M_most_90 (nI n) 0 (mT C []) bb) ∧ SSm n r C ∧ ML Q l C ∧ C 194 7 = nI Q ∧ (∀ q, q ≠ 206 → zmask C q = zmask Y q) ∧ ∀ j, j < 10 * T ∨ 630 ≤ j → C 206 j = Y 206 j := fun Y bb hY => by
    have vY : vw P Q T W S A (zup Y 194 0 0) := vw_c vA (fun j hj => (zup_nj (by rintro rfl; exact kf_0 hj)).trans (congrFun (hY 194 (by decide) (by decide) (by decide)) j)) (fun q h1 h2 => (zup_row (by omega)).trans (hY q (by omega) h2 (by omega)))
    obtain ⟨m1, m2, -, -, -, -, m7⟩ := mHas_vw bb vY
    obtain ⟨C1, w1, w2, w3⟩ := m_listsAll bb hP hQ m1 m2 m7
    rw [← el] at w3
    have vC1 : vw P Q T W S A C1 := vw_c vY (fun j hj => w2.2 j (by unfold kf at hj; omega)) (fun q h1 h2 => w2.1 q (by omega) (by omega) (by omega))
    have st : ∀ i, i < Q → M_most_35 (nI n) (nI i) (zfn C1 231 i (C1 205)) bb = M_most_35 (nI n) (nI (i + 1)) (zfn C1 231 (i + 1) (C1 205)) bb := fun i hi => by
      rw [q_M_most_35, congrFun (zfn_q (by decide)) 7, vC1.2.1.2.1.2, zcond_t (nI_lt hi (by omega)), zin_nI (n := 10) (by omega) (by decide), cond_true, zin_nI (n := 40) (by omega) (by decide), cond_true, show (nI i).toNatClampNeg = i from nI_clamp (by omega), congrFun (zfn_q (by decide)) i, zfn_s (g := C1 205), nI_1]
    have lp := lpC (F := fun i => M_most_35 (nI n) (nI i) (zfn C1 231 i (C1 205)) bb) st Q 0 (Nat.zero_add _)
    rw [show zfn C1 231 0 (C1 205) = C1 from zfn_0 _ _ _] at lp
    obtain ⟨C3, hC3⟩ : ∃ C3, C3 = zup (zfn C1 231 Q (C1 205)) 194 58 (-1) := ⟨_, rfl⟩
    have r3 : ∀ q, q ≠ 194 → q ≠ 231 → C3 q = C1 q := fun q h1 h2 => by rw [hC3, zup_row h1, zfn_q h2]
    have r194 : ∀ j, j ≠ 58 → C3 194 j = C1 194 j := fun j hj => by rw [hC3, zup_nj hj]; exact congrFun (zfn_q (by decide)) j
    have vC3 : vw P Q T W S A C3 := vw_c vC1 (fun j hj => r194 j (by unfold kf at hj; omega)) (fun q h1 h2 => r3 q (by omega) (by omega))
    have v0a := v0_of hall
    have y194 : ∀ j, j ≠ 0 → j ≠ 47 → j ≠ 58 → C3 194 j = a 194 j := fun j h1 h2 h3 => by rw [r194 j h3, w2.2 j h2, zup_nj h1]; exact congrFun (hY 194 (by decide) (by decide) (by decide)) j
    have v0C : v0 C3 := ⟨(y194 37 (by decide) (by decide) (by decide)).trans v0a.1, (y194 38 (by decide) (by decide) (by decide)).trans v0a.2⟩
    obtain ⟨C, u1, u2, u3, u4⟩ := m_brings (n := n) bb vC3 v0C hP hQ hn el ⟨by rw [r194 47 (by decide)]; exact w3.1, by rw [r3 221 (by decide) (by decide)]; exact w3.2⟩ (fun p hp => (hw p hp).2) n 31 0 (Nat.zero_add _) (by omega) (fun _ => 0) 0 (-1, fun _ => 0) C3 ⟨by decide, by decide⟩ ⟨fun _ _ _ _ _ _ => rfl, fun _ _ => rfl, fun _ _ => rfl⟩ ⟨fun q hq => absurd hq (Nat.not_lt_zero _), fun q p hq => absurd hq (Nat.not_lt_zero _), fun p hp => by
      rw [hC3, zup_ne (by decide), zfn_j hp, w2.1 205 (by decide) (by decide) (by decide), zup_row (by decide), hY 205 (by decide) (by decide) (by decide)]
      exact (hw p hp).1.symm, fun q p hq => absurd hq (Nat.not_lt_zero _)⟩ ⟨by rw [hC3, zup_eq]; rfl, ⟨show (-1 : Int) ≤ -1 by decide, show (-1 : Int) ≤ 150 by decide⟩, fun z => absurd (show (0 : Int) ≤ -1 from z) (by decide)⟩
    rw [← er] at u4
    refine ⟨C, ?_, u4, ⟨by rw [u2.2.1 47 (by decide), r194 47 (by decide)]; exact w3.1, fun i hi q hq => by rw [u2.1 221 (by decide) (by decide) (by decide) (by decide) (by decide), r3 221 (by decide) (by decide)]; exact w3.2 i hi q hq⟩, by rw [u2.2.1 7 (by decide)]; exact vC3.2.1.2.1.2, fun q hq => ?_, fun j hj => ?_⟩
    · rw [q_M_most, hin, if_neg c1, if_neg c2, zcI_ok, zcond_f (show ¬ (1 : Int32) = 0 by decide), m_fewY hv hP hQ hY, zcI_ok, zcond_f (show ¬ (1 : Int32) = 0 by decide), w1, zcV_ok, show M_most_35 (nI n) 0 C1 bb = _ from lp, q_M_most_35, congrFun (zfn_q (show 194 ≠ 231 by decide)) 7, vC1.2.1.2.1.2, zcond_f (nI_nlt (Nat.le_refl _) (by omega)), ← hC3, show M_brings 31 0 (nI n) 0 C3 bb = okV C bb from u1, zcV_ok, mT_0]
      rfl
    · funext j
      unfold zmask
      cases hf : zfr q j
      · show C q j = Y q j
        by_cases h1 : q = 194
        · subst h1
          have j47 : j ≠ 47 := fun z => by rw [z] at hf; exact absurd hf (by decide)
          have j58 : j ≠ 58 := fun z => by rw [z] at hf; exact absurd hf (by decide)
          have j0 : j ≠ 0 := fun z => by rw [z] at hf; exact absurd hf (by decide)
          rw [u2.2.1 j j58, r194 j j58, w2.2 j j47, zup_nj j0]
        · have nm : ¬ (216 ≤ q ∧ q ≤ 232) := fun z => by rw [zfr_hi z.1 z.2] at hf; exact absurd hf (by decide)
          rw [u2.1 q h1 hq (by omega) (by omega) (by omega), r3 q h1 (by omega), w2.1 q h1 (by omega) (by omega), zup_row h1]
      · rfl
    · rw [u2.2.2 j hj, r3 206 (by decide) (by decide), w2.1 206 (by decide) (by decide) (by decide), zup_row (by decide)]
  by_cases c3 : r.1 < 0
  · have d3 : decide (kI r.1 < 0) = true := decide_eq_true ((kI_l0 (by omega) (by omega)).mpr c3)
    obtain ⟨C, w1, w2, -, -, w5, w6⟩ := eM A' b2 (fun q h1 h2 h3 => fA' q (by omega))
    refine ⟨-2, A', b2, C, b2, by rw [eX, d3]; rfl, fun j => congrFun (fA' 0 (by decide)) j, by rw [w1, w2.1, d3]; rfl, P, Q, T, G, N, rel_206 hall (fun q hq => ?_) (fun j hj => ?_)⟩
    · rw [w5 q hq, FXA_m fA']
    · rw [zm_lo (q := 206) (.inr (by decide)), zm_lo (q := 206) (.inr (by decide)), w6 j hj, fA' 206 (by decide)]
  · have d3 : decide (kI r.1 < 0) = false := decide_eq_false (fun z => c3 ((kI_l0 (by omega) (by omega)).mp z))
    have h0 : 0 ≤ r.1 := by omega
    obtain ⟨F, hF⟩ : ∃ F : Nat → List Int32, F = fun k => (List.range Q).map (VL l (r.2 k)) := ⟨_, rfl⟩
    have F5 : ∀ k, (F k).length ≤ 5 := fun k => by rw [hF]; show ((List.range Q).map _).length ≤ 5; rw [List.length_map, List.length_range]; exact hQ
    have lenF := rwL_len F5
    have vl : ∀ k, k < n → VL (ALL P Q) (e (r.2 k)) = VL l (r.2 k) := fun k hk => by
      funext q
      unfold VL
      rw [hnd _ (rl h0 k hk)]
    have l54 : ∀ m k, k + m = n → X_most_54 (nI n) (kI r.1) (nI k) (xT A' (rwL F k)) b2 = okI (kI r.1) (xT A' (rwL F n)) b2 := by
      intro m
      induction m with
      | zero =>
        intro k ek
        have : k = n := by omega
        subst this
        rw [q_X_most_54, zcond_f (nI_nlt (Nat.le_refl _) (by omega))]
        exact okI_ret _ _ _
      | succ m ih =>
        intro k ek
        have ei := (he.1 _ (rl h0 k (by omega))).1
        have e36 : xT A' (rwL F k) 36 k = nI (e (r.2 k)) := (congrFun (xT_q (by decide)) k).trans (z3.2.2 h0 k (by omega))
        have tl := x_tellN (A := A') (b := b2) (l := rwL F k) (k := e (r.2 k)) (g := VL l (r.2 k)) hQ (by omega) (by have := lenF k; omega) ((congrFun (fA' 2 (by decide)) 1).trans q1) (fun q hq => by
          rw [z2.1 37 (by decide) (by decide) (by decide) (by decide), ← vl k (by omega)]
          exact y3.1.2 _ ei q hq)
        rw [q_X_most_54, zcond_t (nI_lt (show k < n by omega) (by omega)), zin_nI (n := 3) (by omega) (by decide), cond_true, show (nI k).toNatClampNeg = k from nI_clamp (by omega), e36, tl, zcV_ok, nI_1, show rwL F k ++ (List.range Q).map (VL l (r.2 k)) = rwL F (k + 1) by rw [hF]; rfl]
        exact ih (k + 1) (by omega)
    have eX2 : X_most (nI n) a b = okI (kI r.1) (xT A' (rwL F n)) b2 := by
      rw [eX, d3, cond_false, x_clear, zcV_ok]
      exact l54 n 0 (Nat.zero_add _)
    obtain ⟨C, w1, w2, w3, w4, w5, w6⟩ := eM (xT A' (rwL F n)) b2 (fun q h1 h2 h3 => by rw [xT_q (by omega)]; exact fA' q (by omega))
    have l90 : ∀ m k, k + m = n → M_most_90 (nI n) (nI k) (mT C (rwL F k)) b2 = okI (kI r.1) (mT C (rwL F n)) b2 := by
      intro m
      induction m with
      | zero =>
        intro k ek
        have : k = n := by omega
        subst this
        rw [q_M_most_90, zcond_f (nI_nlt (Nat.le_refl _) (by omega)), mT_j (by decide), w2.1]
        exact okI_ret _ _ _
      | succ m ih =>
        intro k ek
        have ei := rl h0 k (by omega)
        have e230 : mT C (rwL F k) 230 k = nI (r.2 k) := (congrFun (mT_q (by decide)) k).trans (w2.2.2 h0 k (by omega))
        have tl := m_tellN (C := C) (b := b2) (l := rwL F k) (k := r.2 k) (g := VL l (r.2 k)) hQ (by omega) (by have := lenF k; omega) w4 (fun q hq => w3.2 _ ei q hq)
        rw [q_M_most_90, zcond_t (nI_lt (show k < n by omega) (by omega)), zin_nI (n := 3) (by omega) (by decide), cond_true, show (nI k).toNatClampNeg = k from nI_clamp (by omega), e230, tl, zcV_ok, nI_1, show rwL F k ++ (List.range Q).map (VL l (r.2 k)) = rwL F (k + 1) by rw [hF]; rfl]
        exact ih (k + 1) (by omega)
    have told := rel_told hall (rwL F n) (by have := lenF n; omega)
    refine ⟨kI r.1, xT A' (rwL F n), b2, mT C (rwL F n), b2, eX2, fun j => by rw [xT_q (by decide)]; exact congrFun (fA' 0 (by decide)) j, by rw [w1, w2.1, d3, cond_false]; exact l90 n 0 (Nat.zero_add _), P, Q, T, G, (rwL F n).length, rel_206 told (fun q hq => ?_) (fun j hj => ?_)⟩
    · rw [mT_m]
      refine mT_off (by decide) (rwL F n) (fun q hq => ?_) q hq
      rw [w5 q hq, xT_m, FXA_m fA']
      rfl
    · rw [zm_lo (q := 206) (.inr (by decide)), mT_q (by decide), w6 j hj, xT_q (by decide), fA' 206 (by decide)]
      refine Eq.symm ((congrFun (mT_q (a := xT (zmask a) (rwL F n)) (l := rwL F n) (by decide)) j).trans ((congrFun (xT_q (by decide)) j).trans ?_))
      rw [zm_lo (q := 206) (.inr (by decide))]
