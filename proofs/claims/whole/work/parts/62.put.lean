/-! A post of the draft written. -/
theorem rel_put {L : Nat} {xs : Nat → Int32} {P Q T G N p : Nat} {m : zA} {x : Int32} (h : rAll L xs P Q T G N m) (hp : p < Q) (hx : rOne P x) (hne : x ≠ -1 → ∀ i, i < Q → i ≠ p → m 13 (10 * T + i) ≠ x) : rAll L xs P Q T G N (zup (zup m 13 (10 * T + p) x) 206 (630 + p) x) := by
  obtain ⟨M, hM⟩ : ∃ M, M = zup (zup m 13 (10 * T + p) x) 206 (630 + p) x := ⟨_, rfl⟩
  rw [← hM]
  obtain ⟨h0, ⟨n1, n2, n3, n4, n5, n6, n7⟩, ⟨u1, u2, u3, u4, u5⟩, ⟨w1, w2⟩, ⟨d1, d2, d3, d4, d5⟩, hW, hRu, hTa, hRo, hKe, hKn⟩ := h
  have hQ := n2.2.2
  have hT := n3.2.2
  have row : ∀ q, (q ≠ 13 ∧ q ≠ 206) → M q = m q := fun q g => by rw [hM, zup_row g.2, zup_row g.1]
  have fD : M 13 (10 * T + p) = x := by rw [hM, zup_ne (by decide), zup_eq]
  have fD' : ∀ j, j ≠ 10 * T + p → M 13 j = m 13 j := fun j g => by rw [hM, zup_ne (by decide), zup_nj g]
  have fA : M 206 (630 + p) = x := by rw [hM, zup_eq]
  have fA' : ∀ j, j ≠ 630 + p → M 206 j = m 206 j := fun j g => by rw [hM, zup_nj g, zup_ne (by decide)]
  refine ⟨(row 0 (by decide)).trans h0, ⟨?_, ?_, ?_, ?_, ?_, ?_, ?_⟩, ⟨?_, ?_, ?_, ?_, ?_⟩, ⟨?_, ?_⟩, ⟨fun d p1 g1 g2 => ?_, fun p1 g1 => ?_, fun d p1 g1 g2 => ?_, fun d p1 p2 g1 g2 g3 g4 g5 => ?_, fun d p1 g1 g2 g3 => ?_⟩, ?_, ?_, ?_, ?_, ⟨?_, ?_, ?_⟩, ?_⟩
  · rw [row 2 (by decide), row 194 (by decide)]; exact n1
  · rw [row 2 (by decide), row 194 (by decide)]; exact n2
  · rw [row 12 (by decide), row 194 (by decide)]; exact n3
  · rw [row 1 (by decide), row 194 (by decide)]; exact n4
  · rw [row 1 (by decide), row 194 (by decide)]; exact n5
  · rw [row 194 (by decide)]; exact n6
  · rw [row 194 (by decide)]; exact n7
  · rw [row 3 (by decide), row 197 (by decide)]; exact u1
  · rw [row 4 (by decide), row 199 (by decide)]; exact u2
  · rw [row 5 (by decide), row 200 (by decide)]; exact u3
  · rw [row 6 (by decide), row 201 (by decide)]; exact u4
  · rw [row 7 (by decide), row 202 (by decide)]; exact u5
  · rw [row 17 (by decide), row 196 (by decide)]; exact w1
  · rw [row 18 (by decide), row 198 (by decide)]; exact w2
  · rw [fD' _ (by omega), fA' _ (by omega)]; exact d1 d p1 g1 g2
  · show M 13 (10 * T + p1) = M 206 (630 + p1)
    by_cases c : p1 = p
    · subst c; rw [fD, fA]
    · rw [fD' _ (by omega), fA' _ (by omega)]; exact d2 p1 g1
  · by_cases c : 10 * d + p1 = 10 * T + p
    · rw [c, fD]; exact hx
    · rw [fD' _ c]; exact d3 d p1 g1 g2
  · by_cases c1 : 10 * d + p1 = 10 * T + p
    · have e : d = T := by omega
      subst e
      rw [c1, fD, fD' _ (by omega)] at g5
      rw [c1, fD]
      exact Classical.byContradiction fun z => hne z p2 g3 (by omega) g5.symm
    · by_cases c2 : 10 * d + p2 = 10 * T + p
      · have e : d = T := by omega
        subst e
        rw [c2, fD, fD' _ c1] at g5
        rw [fD' _ c1]
        exact Classical.byContradiction fun z => hne (fun y => z (g5.trans y)) p1 g2 (by omega) g5
      · rw [fD' _ c1, fD' _ c2] at g5
        rw [fD' _ c1]
        exact d4 d p1 p2 g1 g2 g3 g4 g5
  · rw [fD' _ (by omega)]; exact d5 d p1 g1 g2 g3
  · rw [row 14 (by decide), row 204 (by decide), row 15 (by decide), row 203 (by decide), row 16 (by decide), row 205 (by decide)]; exact hW
  · rw [row 194 (by decide), row 8 (by decide), row 9 (by decide), row 10 (by decide), row 11 (by decide), row 207 (by decide), row 208 (by decide), row 209 (by decide), row 210 (by decide)]; exact hRu
  · rw [row 20 (by decide), row 215 (by decide)]; exact hTa
  · rw [row 171 (by decide), row 195 (by decide)]; exact hRo
  · rw [row 173 (by decide), row 174 (by decide), row 175 (by decide), row 176 (by decide), row 177 (by decide), row 178 (by decide), row 179 (by decide), row 233 (by decide), row 234 (by decide), row 235 (by decide), row 236 (by decide), row 3 (by decide), row 6 (by decide)]; exact hKe.1
  · rw [row 180 (by decide), row 181 (by decide), row 182 (by decide), row 183 (by decide), row 184 (by decide), row 185 (by decide), row 186 (by decide), row 233 (by decide), row 234 (by decide), row 235 (by decide), row 236 (by decide), row 3 (by decide), row 6 (by decide)]; exact hKe.2.1
  · rw [row 187 (by decide), row 188 (by decide), row 189 (by decide), row 190 (by decide), row 191 (by decide), row 192 (by decide), row 193 (by decide), row 233 (by decide), row 234 (by decide), row 235 (by decide), row 236 (by decide), row 3 (by decide), row 6 (by decide)]; exact hKe.2.2
  · rw [row 27 (by decide), row 33 (by decide), row 15 (by decide), row 6 (by decide), row 18 (by decide), row 3 (by decide)]; exact hKn
