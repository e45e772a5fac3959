/-! What class and reference hold of one another between two calls; places that no later call reads are masked. -/
def zrng (lo hi q : Nat) : Bool := cond (Nat.ble lo q) (Nat.ble q hi) false
def zor (x y : Bool) : Bool := cond x true y
/-- places whose content no later call reads -/
def zfr (q j : Nat) : Bool := cond (Nat.beq q 194) (cond (Nat.beq j 1) false (cond (Nat.beq j 3) false (cond (Nat.beq j 7) false (cond (Nat.beq j 15) false (cond (zrng 17 19 j) false (cond (Nat.beq j 21) false (cond (Nat.beq j 34) false (cond (zrng 37 38 j) false true))))))))
  (cond (Nat.beq q 27) (cond (Nat.beq j 10) false true) (zor (zrng 21 25 q) (zor (zrng 28 32 q) (zor (zrng 34 170 q) (zor (Nat.beq q 172) (zor (zrng 211 214 q) (zrng 216 232 q)))))))
def zmask (a : zA) : zA := fun q j => cond (zfr q j) 0 (a q j)
theorem zup_eq (a : zA) (q j : Nat) (x : Int32) : zup a q j x q j = x := if_pos ⟨rfl, rfl⟩
theorem zup_nj {a : zA} {q j j' : Nat} {x : Int32} (h : j' ≠ j) : zup a q j x q j' = a q j' := if_neg (fun z => h z.2)
theorem zup_row {a : zA} {q j q' : Nat} {x : Int32} (h : q' ≠ q) : zup a q j x q' = a q' := funext fun _ => zup_ne h
theorem zmask_f {a : zA} {q j : Nat} {x : Int32} (h : zfr q j = true) : zmask (zup a q j x) = zmask a := by
  funext q' j'
  unfold zmask zup
  by_cases e : q' = q ∧ j' = j
  · obtain ⟨rfl, rfl⟩ := e
    rw [h]
    rfl
  · rw [if_neg e]
theorem zmask_u {a : zA} {q j : Nat} {x : Int32} (h : zfr q j = false) : zmask (zup a q j x) = zup (zmask a) q j x := by
  funext q' j'
  unfold zmask zup
  by_cases e : q' = q ∧ j' = j
  · obtain ⟨rfl, rfl⟩ := e
    rw [h, if_pos ⟨rfl, rfl⟩, if_pos ⟨rfl, rfl⟩]
    rfl
  · rw [if_neg e, if_neg e]
def rOne (P : Nat) (x : Int32) : Prop := x = -1 ∨ ∃ w, w < P ∧ x = nI w
def rNum (P Q T G N : Nat) (h n x m : Nat → Int32) : Prop := (h 0 = nI P ∧ m 3 = nI P ∧ P ≤ 10) ∧ (h 1 = nI Q ∧ m 7 = nI Q ∧ Q ≤ 10) ∧ (n 6 = nI T ∧ m 15 = nI T ∧ T ≤ 60) ∧ (x 11 = nI G ∧ m 34 = nI G ∧ G ≤ 80) ∧ (x 12 = nI N ∧ m 1 = nI N ∧ N ≤ 32) ∧ m 37 = -1 ∧ m 38 = 0
def rSame (n : Nat) (lo hi : Int32) (f g : Nat → Int32) : Prop := ∀ j, j < n → f j = g j ∧ lo ≤ f j ∧ f j ≤ hi
/-- crafts and goes of a state -/
def rCraft (P : Nat) (C C' H H' : Nat → Int32) : Prop := rSame P 0 63 C C' ∧ rSame 60 0 8 H H'
/-- the days of a state: the class keeps the draft behind them -/
def rDays (P Q T : Nat) (D A F : Nat → Int32) : Prop := (∀ d p, d < T → p < Q → D (10 * d + p) = A (10 * d + p)) ∧ (∀ p, p < Q → D (10 * T + p) = F p) ∧ (∀ d p, d ≤ T → p < Q → rOne P (D (10 * d + p))) ∧ (∀ d p p', d ≤ T → p < Q → p' < Q → p ≠ p' → D (10 * d + p) = D (10 * d + p') → D (10 * d + p) = -1) ∧ (∀ d p, d ≤ 60 → p < 10 → T < d ∨ Q ≤ p → D (10 * d + p) = -1)
/-- what was done at the posts of a state -/
def rWork (P Q T : Nat) (N N' R R' B B' : Nat → Int32) : Prop := rSame 10 0 (nI T) N N' ∧ rSame 10 0 89 R R' ∧ (∀ j, j < Q → B j = B' j ∧ rOne P (B j)) ∧ ∀ j, Q ≤ j → j < 10 → B j = -1
/-- parts lie below what a work wants; nothing is begun at a post that isn't there -/
def rPt (q : Nat) (R Lg : Nat → Int32) : Prop := ∀ p, p < 10 → (p < q → R p < 10 * Lg p) ∧ (q ≤ p → R p = 0)
/-- goes lie below what a person needs -/
def rGo (n : Nat) (H Gn : Nat → Int32) : Prop := ∀ w k, w < 10 → k < 6 → (w < n → H (6 * w + k) < Gn w) ∧ (n ≤ w → H (6 * w + k) = 0)
/-- a place that keeps a state -/
def rKept (i P Q : Nat) (Gn Lg s D N R B C H k0 k1 k2 K : Nat → Int32) : Prop := (k0 i = 0 ∧ s 7 = -1) ∨ (k0 i = 1 ∧ ∃ p q t, (p ≤ P ∧ q ≤ Q ∧ rPt q R Lg ∧ rGo p H Gn) ∧ p ≤ 10 ∧ q ≤ 10 ∧ t ≤ 60 ∧ s 7 = nI p ∧ k1 i = nI p ∧ s 8 = nI q ∧ k2 i = nI q ∧ s 6 = nI t ∧ K (711 * i + 710) = nI t ∧
  rDays p q t D (fun j => K (711 * i + j)) (fun j => K (711 * i + 600 + j)) ∧ rWork p q t N (fun j => K (711 * i + 620 + j)) R (fun j => K (711 * i + 610 + j)) B (fun j => K (711 * i + 630 + j)) ∧ rCraft p C (fun j => K (711 * i + 640 + j)) H (fun j => K (711 * i + 650 + j)))
/-- the rule; the class keeps the days away one by one -/
def rRule (m r S B A B' W F U : Nat → Int32) : Prop := (S 0 = m 17 ∧ 0 ≤ S 0 ∧ S 0 ≤ 9) ∧ (S 1 = m 18 ∧ 0 ≤ S 1 ∧ S 1 ≤ 9) ∧ (r 3 = m 19 ∧ 0 ≤ r 3 ∧ r 3 ≤ 1023) ∧ rSame 10 0 1023 B B' ∧ ∃ K, K ≤ 10 ∧ m 21 = nI K ∧
  (∀ k, k < K → ∃ p f t, p < 10 ∧ f ≤ t ∧ t < 100 ∧ W k = nI p ∧ F k = nI f ∧ U k = nI t) ∧ ∀ p d, p < 10 → d < 100 → (A (100 * p + d) = 0 ∨ A (100 * p + d) = 1) ∧ (A (100 * p + d) = 1 ↔ ∃ k f t, k < K ∧ t < 100 ∧ W k = nI p ∧ F k = nI f ∧ U k = nI t ∧ f ≤ d ∧ d ≤ t)
def rHouse (P Q : Nat) (a : zA) : Prop := rSame P 1 9 (a 3) (a 197) ∧ rSame Q (-1) 5 (a 4) (a 199) ∧ rSame Q 0 1 (a 5) (a 200) ∧ rSame Q 1 9 (a 6) (a 201) ∧ rSame Q 0 10 (a 7) (a 202)
/-- what is known of a search bears no later stamp -/
def rKnown (c k : Nat → Int32) : Prop := ∃ s, s ≤ 8191 ∧ c 10 = nI s ∧ ∀ j, j < 112640 → 0 ≤ (k j).toInt ∧ (k j).toInt < 262144 * (s + 1)
def rAll (L : Nat) (xs : Nat → Int32) (P Q T G N : Nat) (a : zA) : Prop := a 0 = zAin L xs 0 ∧ rNum P Q T G N (a 2) (a 12) (a 1) (a 194) ∧ rHouse P Q a ∧ rCraft P (a 17) (a 196) (a 18) (a 198) ∧ rDays P Q T (a 13) (a 206) (fun p => a 206 (630 + p)) ∧ rWork P Q T (a 14) (a 204) (a 15) (a 203) (a 16) (a 205) ∧
  rRule (a 194) (a 8) (a 9) (a 10) (a 11) (a 207) (a 208) (a 209) (a 210) ∧ rSame G 0 255 (a 20) (a 215) ∧ (∀ j, j < N → a 171 j = a 195 j) ∧
  (rKept 0 P Q (a 3) (a 6) (a 173) (a 174) (a 175) (a 176) (a 177) (a 178) (a 179) (a 233) (a 234) (a 235) (a 236) ∧ rKept 1 P Q (a 3) (a 6) (a 180) (a 181) (a 182) (a 183) (a 184) (a 185) (a 186) (a 233) (a 234) (a 235) (a 236) ∧ rKept 2 P Q (a 3) (a 6) (a 187) (a 188) (a 189) (a 190) (a 191) (a 192) (a 193) (a 233) (a 234) (a 235) (a 236)) ∧ rKnown (a 27) (a 33) ∧ rPt Q (a 15) (a 6) ∧ rGo P (a 18) (a 3)
def Rel (L : Nat) (xs : Nat → Int32) (a : zA) (_ : zB) : Prop := ∃ P Q T G N, rAll L xs P Q T G N (zmask a)
theorem rel_S {L : Nat} {xs : Nat → Int32} (a : zA) (b : zB) (h : Rel L xs a b) : a 0 1000000 = nI L := by
  obtain ⟨P, Q, T, G, N, h0, -⟩ := h
  exact (congrFun h0 1000000).trans rfl
