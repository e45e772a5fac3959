/-! A state written: what Rel wants of it; the draft written by both. -/
theorem rel_state {L : Nat} {xs : Nat → Int32} {P Q T T' G N : Nat} {m M : zA} (h : rAll L xs P Q T G N m) (row : ∀ q, ¬ ((12 ≤ q ∧ q ≤ 18) ∨ q = 194 ∨ q = 196 ∨ q = 198 ∨ (203 ≤ q ∧ q ≤ 206)) → M q = m q) (e : ∀ j, j ≠ 15 → M 194 j = m 194 j) (t1 : M 12 6 = nI T') (t2 : M 194 15 = nI T') (hT : T' ≤ 60) (hC : rCraft P (M 17) (M 196) (M 18) (M 198)) (hD : rDays P Q T' (M 13) (M 206) (fun p => M 206 (630 + p))) (hW : rWork P Q T' (M 14) (M 204) (M 15) (M 203) (M 16) (M 205)) (hP : rPt Q (M 15) (M 6)) (hG : rGo P (M 18) (M 3)) : rAll L xs P Q T' G N M := by
  obtain ⟨h0, ⟨n1, n2, n3, n4, n5, n6, n7⟩, ⟨u1, u2, u3, u4, u5⟩, -, -, -, hRu, hTa, hRo, hKe, hKn⟩ := h
  refine ⟨(row 0 (by decide)).trans h0, ⟨?_, ?_, ⟨t1, t2, hT⟩, ?_, ?_, (e 37 (by decide)).trans n6, (e 38 (by decide)).trans n7⟩, ⟨?_, ?_, ?_, ?_, ?_⟩, hC, hD, hW, rRule_c (fun j h1 h2 => e j (by omega)) ?_, ?_, ?_, ⟨?_, ?_, ?_⟩, ⟨?_, hP, hG⟩⟩
  · rw [row 2 (by decide), e 3 (by decide)]; exact n1
  · rw [row 2 (by decide), e 7 (by decide)]; exact n2
  · rw [row 1 (by decide), e 34 (by decide)]; exact n4
  · rw [row 1 (by decide), e 1 (by decide)]; exact n5
  · rw [row 3 (by decide), row 197 (by decide)]; exact u1
  · rw [row 4 (by decide), row 199 (by decide)]; exact u2
  · rw [row 5 (by decide), row 200 (by decide)]; exact u3
  · rw [row 6 (by decide), row 201 (by decide)]; exact u4
  · rw [row 7 (by decide), row 202 (by decide)]; exact u5
  · rw [row 8 (by decide), row 9 (by decide), row 10 (by decide), row 11 (by decide), row 207 (by decide), row 208 (by decide), row 209 (by decide), row 210 (by decide)]; exact hRu
  · rw [row 20 (by decide), row 215 (by decide)]; exact hTa
  · rw [row 171 (by decide), row 195 (by decide)]; exact hRo
  · rw [row 173 (by decide), row 174 (by decide), row 175 (by decide), row 176 (by decide), row 177 (by decide), row 178 (by decide), row 179 (by decide), row 233 (by decide), row 234 (by decide), row 235 (by decide), row 236 (by decide), row 3 (by decide), row 6 (by decide)]; exact hKe.1
  · rw [row 180 (by decide), row 181 (by decide), row 182 (by decide), row 183 (by decide), row 184 (by decide), row 185 (by decide), row 186 (by decide), row 233 (by decide), row 234 (by decide), row 235 (by decide), row 236 (by decide), row 3 (by decide), row 6 (by decide)]; exact hKe.2.1
  · rw [row 187 (by decide), row 188 (by decide), row 189 (by decide), row 190 (by decide), row 191 (by decide), row 192 (by decide), row 193 (by decide), row 233 (by decide), row 234 (by decide), row 235 (by decide), row 236 (by decide), row 3 (by decide), row 6 (by decide)]; exact hKe.2.2
  · rw [row 27 (by decide), row 33 (by decide)]; exact hKn.1
/-- places of a row from one on, written by a function -/
def zfo (c : zA) (q o n : Nat) (g : Nat → Int32) : zA := fun q' j => if q' = q ∧ o ≤ j ∧ j < o + n then g (j - o) else c q' j
theorem zfo_q {c : zA} {q o n q' : Nat} {g : Nat → Int32} (h : q' ≠ q) : zfo c q o n g q' = c q' := funext fun _ => if_neg (fun z => h z.1)
theorem zfo_j {c : zA} {q o n k : Nat} {g : Nat → Int32} (h : k < n) : zfo c q o n g q (o + k) = g k := by
  unfold zfo
  rw [if_pos ⟨rfl, by omega, by omega⟩, Nat.add_sub_cancel_left]
theorem zfo_o {c : zA} {q o n j : Nat} {g : Nat → Int32} (h : j < o ∨ o + n ≤ j) : zfo c q o n g q j = c q j := if_neg (fun z => by omega)
theorem zfo_c {c : zA} {q o n : Nat} {g h : Nat → Int32} (e : ∀ k, k < n → g k = h k) : zfo c q o n g = zfo c q o n h := by
  funext q' j
  unfold zfo
  by_cases e1 : q' = q ∧ o ≤ j ∧ j < o + n
  · rw [if_pos e1, if_pos e1, e _ (by omega)]
  · rw [if_neg e1, if_neg e1]
theorem zfo_id (c : zA) (q o n : Nat) : zfo c q o n (fun k => c q (o + k)) = c := by
  funext q' j
  unfold zfo
  by_cases e1 : q' = q ∧ o ≤ j ∧ j < o + n
  · rw [if_pos e1, e1.1]
    show c q (o + (j - o)) = c q j
    rw [show o + (j - o) = j by omega]
  · rw [if_neg e1]
theorem zfo_up {c : zA} {q o n i : Nat} {g : Nat → Int32} {x : Int32} (h : i < n) : zup (zfo c q o n g) q (o + i) x = zfo c q o n (fun k => if k = i then x else g k) := by
  funext q' j
  unfold zup zfo
  by_cases e : q' = q
  · subst e
    by_cases e2 : j = o + i
    · subst e2
      rw [if_pos ⟨rfl, rfl⟩, if_pos ⟨rfl, by omega, by omega⟩]
      exact (if_pos (by omega)).symm
    · rw [if_neg (fun z => e2 z.2)]
      by_cases e3 : o ≤ j ∧ j < o + n
      · rw [if_pos ⟨rfl, e3⟩, if_pos ⟨rfl, e3⟩]
        exact (if_neg (by omega)).symm
      · rw [if_neg (fun z => e3 z.2), if_neg (fun z => e3 z.2)]
  · rw [if_neg (fun z => e z.1), if_neg (fun z => e z.1), if_neg (fun z => e z.1)]
theorem zm_fo {c : zA} {q o n : Nat} {g : Nat → Int32} (h : ∀ j, zfr q j = false) : zmask (zfo c q o n g) = zfo (zmask c) q o n g := by
  funext q' j
  unfold zmask zfo
  by_cases e : q' = q ∧ o ≤ j ∧ j < o + n
  · rw [if_pos e, if_pos e, e.1, h j]
    rfl
  · rw [if_neg e, if_neg e]
/-- another draft -/
theorem rDays_draft {P Q T : Nat} {D A D' A' F g : Nat → Int32} (h : rDays P Q T D A F) (hT : T ≤ 60) (hQ : Q ≤ 10) (hg : rowOk P Q g) (h1 : ∀ j, j < 10 * T ∨ 10 * T + 10 ≤ j → D' j = D j) (h2 : ∀ p, p < 10 → D' (10 * T + p) = g p) (h3 : ∀ j, j < 600 → A' j = A j) (h4 : ∀ p, p < Q → A' (630 + p) = g p) : rDays P Q T D' A' (fun p => A' (630 + p)) := by
  obtain ⟨d1, d2, d3, d4, d5⟩ := h
  refine ⟨fun d p e1 e2 => ?_, fun p e1 => ?_, fun d p e1 e2 => ?_, fun d p p' e1 e2 e3 e4 e5 => ?_, fun d p e1 e2 e3 => ?_⟩
  · rw [h1 _ (by omega), h3 _ (by omega)]; exact d1 d p e1 e2
  · show D' (10 * T + p) = A' (630 + p)
    rw [h2 p (by omega), h4 p e1]
  · by_cases c : d = T
    · subst c
      rw [h2 p (by omega)]; exact hg.1 p e2
    · rw [h1 _ (by omega)]; exact d3 d p e1 e2
  · by_cases c : d = T
    · subst c
      rw [h2 p (by omega), h2 p' (by omega)] at e5
      rw [h2 p (by omega)]; exact hg.2.1 p p' e2 e3 e4 e5
    · rw [h1 _ (by omega), h1 _ (by omega)] at e5
      rw [h1 _ (by omega)]; exact d4 d p p' e1 e2 e3 e4 e5
  · by_cases c : d = T
    · subst c
      rw [h2 p e2]; exact hg.2.2 p (by omega) e2
    · rw [h1 _ (by omega)]; exact d5 d p e1 e2 e3
/-- the draft written by both -/
theorem rel_draft {L : Nat} {xs : Nat → Int32} {P Q T G N : Nat} {m : zA} {g : Nat → Int32} (h : rAll L xs P Q T G N m) (hg : rowOk P Q g) : rAll L xs P Q T G N (zfo (zfo m 13 (10 * T) 10 g) 206 630 Q g) := by
  obtain ⟨M, hM⟩ : ∃ M, M = zfo (zfo m 13 (10 * T) 10 g) 206 630 Q g := ⟨_, rfl⟩
  rw [← hM]
  have row : ∀ q, q ≠ 13 → q ≠ 206 → M q = m q := fun q h1 h2 => by rw [hM, zfo_q h2, zfo_q h1]
  obtain ⟨-, ⟨n1, ⟨n2, n3, n4⟩, ⟨t1, t2, t3⟩, -⟩, -, hC, hD, hW, -, -, -, -, -, hP, hG⟩ := id h
  refine rel_state h (fun q z => row q (by omega) (by omega)) (fun j _ => by rw [row 194 (by decide) (by decide)]) (by rw [row 12 (by decide) (by decide)]; exact t1) (by rw [row 194 (by decide) (by decide)]; exact t2) t3 ?_ ?_ ?_ ?_ ?_
  · rw [row 17 (by decide) (by decide), row 196 (by decide) (by decide), row 18 (by decide) (by decide), row 198 (by decide) (by decide)]; exact hC
  · refine rDays_draft hD t3 n4 hg (fun j z => ?_) (fun p z => ?_) (fun j z => ?_) (fun p z => ?_)
    · rw [hM, zfo_q (by decide), zfo_o z]
    · rw [hM, zfo_q (by decide), zfo_j z]
    · rw [hM, zfo_o (by omega), zfo_q (by decide)]
    · rw [hM, zfo_j z]
  · rw [row 14 (by decide) (by decide), row 204 (by decide) (by decide), row 15 (by decide) (by decide), row 203 (by decide) (by decide), row 16 (by decide) (by decide), row 205 (by decide) (by decide)]; exact hW
  · rw [row 15 (by decide) (by decide), row 6 (by decide) (by decide)]; exact hP
  · rw [row 18 (by decide) (by decide), row 3 (by decide) (by decide)]; exact hG
