/-! The best filling by both. -/
/-- the law's problem: nobody breaks it -/
def scN (F : Int32) (a : zA) (T W Q : Nat) : Nat → Nat → Option Int := scP none F a T W Q
def tgN (F : Int32) (a : zA) (Q T S : Nat) : Nat → Nat → Option Int := tgP none F a Q T S
def bl0 : Nat → Int := fun _ => 0
def bstV (F : Int32) (a : zA) (P Q T W S : Nat) : Int := opV (scN F a T W Q) (tgN F a Q T S) bl0 P Q 0 0 10
def bstF (F : Int32) (a : zA) (P Q T W S q : Nat) : Option Nat := filO (scN F a T W Q) (tgN F a Q T S) bl0 P Q 0 0 10 q
def opW (a : zA) (p : Nat) (o : Option Nat) : Int := o.elim 0 (fun _ => prz a p)
theorem gnN {F : Int32} {a : zA} {T W Q S p l w : Nat} {g : Int} (h : gnO (scN F a T W Q) (tgN F a Q T S) p l w = some g) : g = prz a p := by
  unfold gnO scN at h
  unfold scP at h
  cases h1 : (yAble a w p && decide (a 11 (100 * w + T) = 0))
  · rw [h1] at h; exact absurd h (by simp)
  · rw [h1, cond_true] at h
    cases h2 : (hB F w || decide (yWhy a T W Q w p T = 0))
    · rw [h2] at h; exact absurd h (by simp)
    · rw [h2, cond_true] at h
      have h : cond (decide (l < 10)) ((tgN F a Q T S l w).elim none (fun t => some (prz a p + t))) (some (prz a p)) = some g := h
      cases h3 : decide (l < 10)
      · rw [h3] at h
        exact (Option.some.inj h).symm
      · rw [h3, cond_true] at h
        unfold tgN tgP at h
        cases h4 : (!metB (xE a) Q T S T l w || (hB F l || hB F w))
        · rw [h4] at h; exact absurd h (by simp)
        · rw [h4] at h
          have : prz a p + 0 = g := Option.some.inj h
          omega
theorem simN (F : Int32) (a : zA) {P Q T W S : Nat} (hQ : Q ≤ 10) : simO (scN F a T W Q) (tgN F a Q T S) bl0 P Q (fun p o => 100 * opW a p o) (fun _ v => 100 * v) (fun k v => 0 ≤ v ∧ v ≤ 2000 * k ∧ k ≤ 10) := by
  refine ⟨⟨rfl, by decide, by decide, by decide⟩, fun k p v hp hD => ⟨⟨?_, ?_, by omega⟩, ?_⟩, fun k p w l g v hp hw hg hD => ?_, fun k v v' _ _ => by show 100 * v < 100 * v' ↔ _; omega, fun k v hD => by show -100000000 ≤ 100 * v ∧ 100 * v ≤ _; obtain ⟨h1, h2, h3⟩ := hD; omega⟩
  · show 0 ≤ (0 : Int) + v; have := hD.1; omega
  · show (0 : Int) + v ≤ _; have := hD.2.1; omega
  · show 100 * ((0 : Int) + v) = 100 * 0 + 100 * v; omega
  · have e := gnN hg
    have hb := prz_b a p
    obtain ⟨h1, h2, h3⟩ := hD
    refine ⟨⟨by omega, by omega, by omega⟩, ?_⟩
    show 100 * (g + v) = 100 * prz a p + 100 * v
    omega
theorem sumN_o (F : Int32) (a : zA) {P Q T W S : Nat} : ∀ k p u l, sumO (scN F a T W Q) (tgN F a Q T S) bl0 P (opW a) k p u l = opV (scN F a T W Q) (tgN F a Q T S) bl0 P k p u l
  | 0, _, _, _ => rfl
  | k + 1, p, u, l => by
    rw [chO_v]
    show opW a p _ + sumO _ _ _ _ _ k (p + 1) _ _ = _
    rw [sumN_o F a k]
    congr 1
    cases hc : chO (scN F a T W Q) (tgN F a Q T S) bl0 P k p u l with
    | none => rfl
    | some w =>
      obtain ⟨_, _, g, h3, _⟩ := chO_some hc
      show prz a p = encO (gnO _ _ p l w)
      rw [h3, ← gnN h3]
      rfl
theorem rOne_enc {P : Nat} {o : Option Nat} (h : o = none ∨ ∃ w, w < P ∧ o = some w) : rOne P (encW o) := by
  rcases h with h | ⟨w, hw, h⟩
  · rw [h]; exact .inl rfl
  · rw [h]; exact .inr ⟨w, hw, rfl⟩
theorem yPrize_e {a : zA} {p P : Nat} {o : Option Nat} (hP : P ≤ 10) (h : o = none ∨ ∃ w, w < P ∧ o = some w) : yPrize a p (encW o) = kI (opW a p o) := by
  unfold yPrize opW prz
  rcases h with h | ⟨w, hw, h⟩
  · rw [h]; rfl
  · rw [h, show decide (encW (some w) = -1) = false from decide_eq_false (nI_m1 (by omega))]
    show cond (decide (a 5 p = 0)) 10 1010 = kI (if a 5 p = 0 then 10 else 1010)
    by_cases c : a 5 p = 0
    · rw [decide_eq_true c, if_pos c]; rfl
    · rw [decide_eq_false c, if_neg c]; rfl
/-- the reference's answers to the problem -/
theorem MG_N {P Q T W S : Nat} {a c : zA} (hv : vw P Q T W S a c) (hi : c 194 37 = -1) (hl : c 194 44 = 0) : MGo (scN (c 194 38) a T W Q) (tgN (c 194 38) a Q T S) P Q (fun p o => 100 * opW a p o) (opW a) (askM c P Q T W S a) := by
  obtain ⟨g1, g2, g3, g4, g5⟩ := hv.1
  refine ⟨⟨?_, ?_⟩, fun p l w hp hw hl2 hne => ?_, fun A hA p o b hp ho => ?_⟩
  · rw [askM_q (by decide)]; exact hv.2.1.1.2
  · rw [askM_q (by decide)]; exact hv.2.1.2.1.2
  · rw [askM_may hp, hB_bitsN (by omega) (by omega), decide_eq_true hw, Bool.true_and, hi]
    have e1 : yMay (-1) (c 194 38) a T W Q w p = (scN (c 194 38) a T W Q p w).isSome := by
      unfold yMay yWhyG scN scP
      rw [decide_eq_false (nI_m1 (w := w) (by omega)), Bool.false_and, Bool.false_or, decide_eq_true (rfl : T = T), Bool.true_and]
      cases yAble a w p
      · rfl
      · by_cases c1 : a 11 (100 * w + T) = 0
        · rw [decide_eq_true c1]
          cases hB (c 194 38) w
          · show decide (yWhy a T W Q w p T = 0) = _
            cases decide (yWhy a T W Q w p T = 0) <;> rfl
          · rfl
        · rw [decide_eq_false c1]
          rfl
    rw [e1]
    unfold gnO
    cases hs : scN (c 194 38) a T W Q p w with
    | none => rfl
    | some s =>
      rcases hl2 with h | h
      · rw [decide_eq_true h, show decide (l < 10) = false from decide_eq_false (by omega)]
        rfl
      · rw [decide_eq_false (show ¬ l = 10 by omega), show decide (l < 10) = true from decide_eq_true (by omega), askM_with h, hB_bitsN (by omega) (by omega), decide_eq_true hw, Bool.true_and]
        show (true && (false || yWith (c 194 38) a Q T S l w)) = ((tgN (c 194 38) a Q T S l w).elim none (fun t => some (s + t))).isSome
        unfold yWith tgN tgP
        rw [decide_eq_false hne]
        cases hB (c 194 38) l <;> cases hB (c 194 38) w <;> cases metB (xE a) Q T S T l w <;> rfl
  · have hvA : vw P Q T W S a A := vw_c hv (fun j hj => by rw [hA 194 (by decide) (by decide), askM_q (by decide)]) (fun q h1 h2 => by rw [hA q (by omega) (by omega), askM_q (by omega)])
    have e1 : M_worthAt (nI p) (encW o) A b = okI (kI (opW a p o)) A b := by rw [m_prize hvA hp (rOne_enc ho), yPrize_e g1 ho]
    refine ⟨?_, e1⟩
    have hb := prz_b a p
    have e2 : (100 : Int32) * kI (opW a p o) = kI (100 * opW a p o) := (Int32.ofInt_mul 100 _).symm
    rw [q_M_gain, e1, zcI_ok, hA 194 (by decide) (by decide), askM_q (by decide), zcond_t hl, q_M_gain_31, q_M_gain_32, e2, Int32.sub_zero]
    exact okI_ret _ _ _
/-- what a search of the reference writes -/
def frM (c' c : zA) : Prop := (∀ q, q ≠ 194 → ¬ (217 ≤ q ∧ q ≤ 220) → c' q = c q) ∧ ∀ j, j ≠ 44 → c' 194 j = c 194 j
theorem m_bests {P Q T W S : Nat} {a c : zA} {b : zB} (hv : vw P Q T W S a c) (hi : c 194 37 = -1) : ∃ c', M_bests 0 c b = okI (kI (bstV (c 194 38) a P Q T W S)) c' b ∧ frM c' c ∧ ∀ q, q < Q → c' 220 q = encW (bstF (c 194 38) a P Q T W S q) := by
  have hv2 : vw P Q T W S a (zup c 194 44 0) := vw_u hv (.inr ⟨rfl, by unfold kf; omega⟩)
  have f38 : zup c 194 44 0 194 38 = c 194 38 := zup_nj (by decide)
  have g := MG_N hv2 ((zup_nj (by decide)).trans hi) (zup_eq _ _ _ _)
  rw [f38] at g
  obtain ⟨c', e1, e2, e3⟩ := m_bestsG (b := b) (simN (c 194 38) a (P := P) (T := T) (W := W) (S := S) hv.1.2.1) g hv.1.1 hv.1.2.1
  refine ⟨c', ?_, ⟨fun q h1 h2 => ?_, fun j hj => ?_⟩, e3⟩
  · rw [q_M_bests, show zisB 0 = true from rfl, cond_true, m_asks hv2, zcV_ok, e1, sumN_o]
    rfl
  · rw [e2 q (by omega) (by omega), askM_q (by omega), zup_row h1]
  · rw [e2 194 (by decide) (by decide), askM_q (by decide), zup_nj hj]
theorem frM_m {c c' : zA} (h : frM c' c) : zmask c' = zmask c := by
  funext q j
  unfold zmask
  by_cases c1 : q = 194
  · subst c1
    by_cases c2 : j = 44
    · subst c2; rfl
    · rw [h.2 j c2]
  · by_cases c2 : 217 ≤ q ∧ q ≤ 220
    · have : zfr q j = true := by
        have : q = 217 ∨ q = 218 ∨ q = 219 ∨ q = 220 := by omega
        rcases this with rfl | rfl | rfl | rfl <;> rfl
      rw [this]
      rfl
    · rw [h.1 q c1 c2]
theorem frM_v {P Q T W S : Nat} {a c c' : zA} (h : frM c' c) (hv : vw P Q T W S a c) : vw P Q T W S a c' := vw_c hv (fun j hj => h.2 j (by unfold kf at hj; omega)) (fun q h1 h2 => h.1 q (by omega) (by omega))
/-- what a search of the class writes -/
def frX (a' a : zA) : Prop := (∀ q, q ≠ 27 → ¬ (28 ≤ q ∧ q ≤ 33) → a' q = a q) ∧ ∀ j, j ≠ 10 → a' 27 j = a 27 j
theorem frX_s {a a' : zA} (h : frX a' a) : sameX a' a := fun q h1 h2 => h.1 q (by omega) (by omega)
theorem frX_r (a : zA) : frX a a := ⟨fun _ _ _ => rfl, fun _ _ => rfl⟩
theorem frX_t {a b c : zA} (h : frX a b) (g : frX b c) : frX a c := ⟨fun q h1 h2 => (h.1 q h1 h2).trans (g.1 q h1 h2), fun j hj => (h.2 j hj).trans (g.2 j hj)⟩
theorem frM_t {a b c : zA} (h : frM a b) (g : frM b c) : frM a c := ⟨fun q h1 h2 => (h.1 q h1 h2).trans (g.1 q h1 h2), fun j hj => (h.2 j hj).trans (g.2 j hj)⟩
theorem rel_frX {L : Nat} {xs : Nat → Int32} {P Q T G N : Nat} {a a' : zA} (h : rAll L xs P Q T G N (zmask a)) (f : frX a' a) (hk : rKnown (a' 27) (a' 33)) : rAll L xs P Q T G N (zmask a') := by
  have row : ∀ q, q ≠ 27 → q ≠ 33 → zmask a' q = zmask a q := fun q h1 h2 => by
    funext j
    unfold zmask
    by_cases c : 28 ≤ q ∧ q ≤ 33
    · have : zfr q j = true := by
        have : q = 28 ∨ q = 29 ∨ q = 30 ∨ q = 31 ∨ q = 32 := by omega
        rcases this with rfl | rfl | rfl | rfl | rfl <;> rfl
      rw [this]
      rfl
    · rw [f.1 q h1 c]
  obtain ⟨h0, ⟨n1, n2, n3, n4, n5, n6, n7⟩, ⟨u1, u2, u3, u4, u5⟩, hC, hD, hW, hRu, hTa, hRo, hKe, hKn⟩ := h
  unfold rAll rHouse
  rw [row 0 (by decide) (by decide), row 2 (by decide) (by decide), row 12 (by decide) (by decide), row 1 (by decide) (by decide), row 194 (by decide) (by decide), row 3 (by decide) (by decide), row 4 (by decide) (by decide), row 5 (by decide) (by decide), row 6 (by decide) (by decide), row 7 (by decide) (by decide), row 197 (by decide) (by decide), row 199 (by decide) (by decide), row 200 (by decide) (by decide), row 201 (by decide) (by decide), row 202 (by decide) (by decide), row 17 (by decide) (by decide), row 18 (by decide) (by decide), row 196 (by decide) (by decide), row 198 (by decide) (by decide), row 13 (by decide) (by decide), row 206 (by decide) (by decide), row 14 (by decide) (by decide), row 15 (by decide) (by decide), row 16 (by decide) (by decide), row 203 (by decide) (by decide), row 204 (by decide) (by decide), row 205 (by decide) (by decide), row 8 (by decide) (by decide), row 9 (by decide) (by decide), row 10 (by decide) (by decide), row 11 (by decide) (by decide), row 207 (by decide) (by decide), row 208 (by decide) (by decide), row 209 (by decide) (by decide), row 210 (by decide) (by decide), row 20 (by decide) (by decide), row 215 (by decide) (by decide), row 171 (by decide) (by decide), row 195 (by decide) (by decide), row 173 (by decide) (by decide), row 174 (by decide) (by decide), row 175 (by decide) (by decide), row 176 (by decide) (by decide), row 177 (by decide) (by decide), row 178 (by decide) (by decide), row 179 (by decide) (by decide), row 180 (by decide) (by decide), row 181 (by decide) (by decide), row 182 (by decide) (by decide), row 183 (by decide) (by decide), row 184 (by decide) (by decide), row 185 (by decide) (by decide), row 186 (by decide) (by decide), row 187 (by decide) (by decide), row 188 (by decide) (by decide), row 189 (by decide) (by decide), row 190 (by decide) (by decide), row 191 (by decide) (by decide), row 192 (by decide) (by decide), row 193 (by decide) (by decide), row 233 (by decide) (by decide), row 234 (by decide) (by decide), row 235 (by decide) (by decide), row 236 (by decide) (by decide)]
  exact ⟨h0, ⟨n1, n2, n3, n4, n5, n6, n7⟩, ⟨u1, u2, u3, u4, u5⟩, hC, hD, hW, hRu, hTa, hRo, hKe, hk, hKn.2⟩
theorem frz_n {P : Nat} (hP : P ≤ 10) : frz P (-2) 0 := fun w hw => by
  rw [hB_zero]
  refine ⟨fun h => absurd h (by decide), fun h => ?_⟩
  rcases h with h | h
  · exact absurd h (by decide)
  · exfalso
    have := nI_pos (n := w) (by omega)
    rw [← h] at this
    exact this (by decide)
theorem frz_a {P : Nat} (hP : P ≤ 10) : frz P (-1) 1023 := fun w hw => by
  have : ∀ i : Fin 10, hB 1023 i.val = true := by decide
  exact ⟨fun _ => .inl rfl, fun _ => this ⟨w, by omega⟩⟩
theorem frz_w {P w0 : Nat} (hP : P ≤ 10) (hw0 : w0 < P) : frz P (nI w0) (1 <<< (nI w0 &&& 31)) := fun w hw => by
  rw [hB_bit (by omega) w (by omega), decide_eq_true_iff]
  constructor
  · rintro rfl; exact .inr rfl
  · rintro (h | h)
    · exact absurd h (nI_m1 (by omega))
    · exact ((nI_eq (by omega) (by omega)).mp h).symm
theorem x_bestW {P Q T W S : Nat} {x F : Int32} {a c : zA} {b : zB} (hv : vw P Q T W S a c) (hf : frz P x F) (hk : rKnown (a 27) (a 33)) : ∃ a', X_bestWorth x a b = okI (kI (bstV F a P Q T W S)) a' b ∧ frX a' a ∧ rKnown (a' 27) (a' 33) := by
  have hpr : prOk none := fun c h => absurd h (by simp)
  obtain ⟨a1, e1, e2, e3⟩ := x_load (b := b) hv hf hpr
  obtain ⟨a2, s, f1, f2, f3, ⟨f4, f5⟩, f6, f7⟩ := x_great (b := b) (opB_P hpr F a T W Q S) hv.1.1 hv.1.2.1 e3 (by rw [e2 27 (by omega), e2 33 (by omega)]; exact hk)
  refine ⟨a2, ?_, ⟨fun q h1 h2 => ?_, fun j hj => ?_⟩, KI_known f5 f6.2.2 f7⟩
  · rw [q_X_bestWorth, show (-1 : Int32) = prI none from rfl, e1, zcV_ok, f1, zcI_ok]
    exact okI_ret _ _ _
  · rw [f2 q h1 (by omega) (by omega), e2 q (by omega)]
  · rw [f3 j hj, e2 27 (by omega)]
theorem x_choW {P Q T W S : Nat} {a c : zA} {b : zB} (hv : vw P Q T W S a c) (hk : rKnown (a 27) (a 33)) : ∃ a1 a', C_load (-2) (-1) a b = okV a1 b ∧ C_choose a1 b = okI (kI (bstV 0 a P Q T W S)) a' b ∧ frX a' a ∧ rKnown (a' 27) (a' 33) ∧ ∀ q, q < Q → a' 28 q = encW (bstF 0 a P Q T W S q) := by
  have hpr : prOk none := fun c h => absurd h (by simp)
  obtain ⟨a1, e1, e2, e3⟩ := x_load (b := b) hv (frz_n hv.1.1) hpr
  obtain ⟨a2, f1, f2, f3, f4, f5⟩ := x_choose (b := b) (opB_P hpr 0 a T W Q S) hv.1.1 hv.1.2.1 e3 (by rw [e2 27 (by omega), e2 33 (by omega)]; exact hk)
  refine ⟨a1, a2, e1, f1, ⟨fun q h1 h2 => ?_, fun j hj => ?_⟩, f5, f4⟩
  · rw [f2 q h1 (by omega) (by omega) (by omega), e2 q (by omega)]
  · rw [f3 j hj, e2 27 (by omega)]
