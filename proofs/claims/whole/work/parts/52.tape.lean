/-! The tape: end and sign. -/
/-- memories that differ in rows 1, 20, 194, 215 at most -/
theorem rel_tape {L : Nat} {xs : Nat → Int32} {P Q T G G' N : Nat} {m M : zA} (h : rAll L xs P Q T G N m) (row : ∀ q, (q ≠ 1 ∧ q ≠ 20 ∧ q ≠ 194 ∧ q ≠ 215) → M q = m q) (e : ∀ j, 17 ≤ j → j ≤ 21 → M 194 j = m 194 j) (hn : rNum P Q T G' N (M 2) (M 12) (M 1) (M 194)) (ht : rSame G' 0 255 (M 20) (M 215)) : rAll L xs P Q T G' N M := by
  obtain ⟨h0, -, ⟨u1, u2, u3, u4, u5⟩, ⟨w1, w2⟩, hD, hW, hRu, -, hRo, hKe, hKn⟩ := h
  refine ⟨(row 0 (by decide)).trans h0, hn, ⟨?_, ?_, ?_, ?_, ?_⟩, ⟨?_, ?_⟩, ?_, ?_, rRule_c e ?_, ht, ?_, ⟨?_, ?_, ?_⟩, ?_⟩
  · rw [row 3 (by decide), row 197 (by decide)]; exact u1
  · rw [row 4 (by decide), row 199 (by decide)]; exact u2
  · rw [row 5 (by decide), row 200 (by decide)]; exact u3
  · rw [row 6 (by decide), row 201 (by decide)]; exact u4
  · rw [row 7 (by decide), row 202 (by decide)]; exact u5
  · rw [row 17 (by decide), row 196 (by decide)]; exact w1
  · rw [row 18 (by decide), row 198 (by decide)]; exact w2
  · rw [row 13 (by decide), row 206 (by decide)]; exact hD
  · rw [row 14 (by decide), row 204 (by decide), row 15 (by decide), row 203 (by decide), row 16 (by decide), row 205 (by decide)]; exact hW
  · rw [row 8 (by decide), row 9 (by decide), row 10 (by decide), row 11 (by decide), row 207 (by decide), row 208 (by decide), row 209 (by decide), row 210 (by decide)]; exact hRu
  · rw [row 171 (by decide), row 195 (by decide)]; exact hRo
  · rw [row 173 (by decide), row 174 (by decide), row 175 (by decide), row 176 (by decide), row 177 (by decide), row 178 (by decide), row 179 (by decide), row 233 (by decide), row 234 (by decide), row 235 (by decide), row 236 (by decide), row 3 (by decide), row 6 (by decide)]; exact hKe.1
  · rw [row 180 (by decide), row 181 (by decide), row 182 (by decide), row 183 (by decide), row 184 (by decide), row 185 (by decide), row 186 (by decide), row 233 (by decide), row 234 (by decide), row 235 (by decide), row 236 (by decide), row 3 (by decide), row 6 (by decide)]; exact hKe.2.1
  · rw [row 187 (by decide), row 188 (by decide), row 189 (by decide), row 190 (by decide), row 191 (by decide), row 192 (by decide), row 193 (by decide), row 233 (by decide), row 234 (by decide), row 235 (by decide), row 236 (by decide), row 3 (by decide), row 6 (by decide)]; exact hKe.2.2
  · rw [row 27 (by decide), row 33 (by decide), row 15 (by decide), row 6 (by decide), row 18 (by decide), row 3 (by decide)]; exact hKn
theorem r_end {L : Nat} {xs : Nat → Int32} (x1 : Int32) : zAns (Rel L xs) (X_end x1) (M_end x1) := by
  intro a b hr
  obtain ⟨P, Q, T, G, N, hall⟩ := id hr
  obtain ⟨h0, ⟨n1, n4, n5, ⟨n6, n7, n8⟩, n9, n10, n11⟩, hH, hC, hD, hW, hRu, hTa, hRo, hKe, hKn⟩ := id hall
  have p1 : a 1 11 = nI G := n6
  have p2 : a 194 34 = nI G := n7
  have e0 : (0 : Int64) = (0 : Int32).toInt64 := by decide
  have d00 : decide ((0 : Int32) = 0) = true := by decide
  have d10 : decide ((1 : Int32) = 0) = false := by decide
  have hin : ∀ (a1 : zA) (b1 : zB), a1 194 34 = nI G → M_in x1.toInt64 0 ((zup a1 194 0 0) 194 34).toInt64 (zup a1 194 0 0) b1 = okI (if x1 < 0 then 0 else if nI G < x1 then 0 else 1) (zup a1 194 0 0) b1 := fun a1 b1 e => s_in32 x1 0 (nI G) e0 (by rw [zup_nj (by decide), e]) _ _
  by_cases c1 : x1 < 0
  · exact ⟨0, a, b, zup a 194 0 0, b, by rw [q_X_end, zcond_t c1, q_X_end_12]; exact okI_ret _ _ _, fun _ => rfl, by rw [q_M_end, hin a b p2, zcI_ok, if_pos c1, d00]; exact okI_ret _ _ _, rel_thr hr⟩
  by_cases c2 : nI G < x1
  · exact ⟨0, a, b, zup a 194 0 0, b, by rw [q_X_end, zcond_f c1, p1, zcond_t c2, q_X_end_12]; exact okI_ret _ _ _, fun _ => rfl, by rw [q_M_end, hin a b p2, zcI_ok, if_neg c1, if_pos c2, d00]; exact okI_ret _ _ _, rel_thr hr⟩
  obtain ⟨g, hg, rfl⟩ := nI_of c1
  have hgG : g ≤ G := Nat.le_of_not_lt (fun z => c2 (nI_lt z hg))
  refine ⟨1, zup a 1 11 (nI g), b, zup (zup (zup a 1 11 (nI g)) 194 0 0) 194 34 (nI g), b, ?_, fun j => zup_ne (by decide), ?_, ?_⟩
  · rw [q_X_end, zcond_f c1, p1, zcond_f c2]
    exact okI_ret _ _ _
  · rw [q_M_end, hin _ _ ((zup_ne (by decide)).trans p2), zcI_ok, if_neg c1, if_neg c2, d10]
    exact okI_ret _ _ _
  · refine ⟨P, Q, T, g, N, ?_⟩
    rw [zmask_u rfl, zmask_f rfl, zmask_u rfl]
    clear p1 p2 hin
    generalize zmask a = m at *
    obtain ⟨M, hM⟩ : ∃ M, M = zup (zup m 1 11 (nI g)) 194 34 (nI g) := ⟨_, rfl⟩
    rw [← hM]
    have row : ∀ q, (q ≠ 1 ∧ q ≠ 194) → M q = m q := fun q h => by rw [hM, zup_row h.2, zup_row h.1]
    have f1 : M 1 11 = nI g := by rw [hM, zup_ne (by decide), zup_eq]
    have f1' : ∀ j, j ≠ 11 → M 1 j = m 1 j := fun j h => by rw [hM, zup_ne (by decide), zup_nj h]
    have f4 : M 194 34 = nI g := by rw [hM, zup_eq]
    have f4' : ∀ j, j ≠ 34 → M 194 j = m 194 j := fun j h => by rw [hM, zup_nj h, zup_ne (by decide)]
    refine rel_tape hall (fun q h => row q ⟨h.1, h.2.2.1⟩) (fun j h1 h2 => f4' j (by omega)) ⟨?_, ?_, ?_, ⟨f1, f4, by omega⟩, ⟨(f1' 12 (by decide)).trans n9.1, (f4' 1 (by decide)).trans n9.2.1, n9.2.2⟩, (f4' 37 (by decide)).trans n10, (f4' 38 (by decide)).trans n11⟩ ?_
    · rw [row 2 (by decide), f4' 3 (by decide)]; exact n1
    · rw [row 2 (by decide), f4' 7 (by decide)]; exact n4
    · rw [row 12 (by decide), f4' 15 (by decide)]; exact n5
    · rw [row 20 (by decide), row 215 (by decide)]
      exact fun j hj => hTa j (by omega)
