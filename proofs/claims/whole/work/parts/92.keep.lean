/-! keep. -/
def lay (c : zA) (q f o n : Nat) : zA := zup (zfo c 236 o n (fun k => c q (f + k))) 194 65 (nI (o + n))
theorem lay_q {c : zA} {q f o n q' : Nat} (h1 : q' ≠ 194) (h2 : q' ≠ 236) : lay c q f o n q' = c q' := (zup_row h1).trans (zfo_q h2)
theorem lay_4 {c : zA} {q f o n j : Nat} (h1 : j ≠ 65) : lay c q f o n 194 j = c 194 j := (zup_nj h1).trans (congrFun (zfo_q (by decide)) j)
theorem lay_o {c : zA} {q f o n j : Nat} (h : j < o ∨ o + n ≤ j) : lay c q f o n 236 j = c 236 j := (zup_ne (by decide)).trans (zfo_o h)
theorem lay_j {c : zA} {q f o n k : Nat} (h : k < n) : lay c q f o n 236 (o + k) = c q (f + k) := (zup_ne (by decide)).trans (zfo_j h)
theorem lay_5 {c : zA} {q f o n : Nat} : lay c q f o n 194 65 = nI (o + n) := zup_eq _ _ _ _
theorem m_lay {q f n o len : Nat} {a : zA} {b : zB} (h1 : q ≠ 236) (h2 : zSH[q]? = some (20, len, [])) (h4 : f + n ≤ len) (hl : len ≤ 100000) (ho : a 194 65 = nI o) (hon : o + n ≤ 2133) : M_lays q (nI f) (nI n) a b = okV (lay a q f o n) b := m_lays h1 (sh_i h2).1 (sh_i h2).2.2 h4 hl ho hon
theorem rSame_c {n : Nat} {lo hi : Int32} {f g f' g' : Nat → Int32} (h : rSame n lo hi f g) (h1 : ∀ j, j < n → f' j = f j) (h2 : ∀ j, j < n → g' j = g j) : rSame n lo hi f' g' := fun j hj => by
  rw [h1 j hj, h2 j hj]
  exact h j hj
theorem rDays_c {P Q T : Nat} {D A F D' A' F' : Nat → Int32} (h : rDays P Q T D A F) (hT : T ≤ 60) (hQ : Q ≤ 10) (h1 : ∀ j, j < 610 → D' j = D j) (h2 : ∀ j, j < 600 → A' j = A j) (h3 : ∀ j, j < 10 → F' j = F j) : rDays P Q T D' A' F' := by
  obtain ⟨d1, d2, d3, d4, d5⟩ := h
  refine ⟨fun d p e1 e2 => ?_, fun p e1 => ?_, fun d p e1 e2 => ?_, fun d p p' e1 e2 e3 e4 e5 => ?_, fun d p e1 e2 e3 => ?_⟩
  · rw [h1 _ (by omega), h2 _ (by omega)]; exact d1 d p e1 e2
  · rw [h1 _ (by omega), h3 _ (by omega)]; exact d2 p e1
  · rw [h1 _ (by omega)]; exact d3 d p e1 e2
  · rw [h1 _ (by omega), h1 _ (by omega)] at e5
    rw [h1 _ (by omega)]; exact d4 d p p' e1 e2 e3 e4 e5
  · rw [h1 _ (by omega)]; exact d5 d p e1 e2 e3
theorem rWork_c {P Q T : Nat} {N N1 R R1 B B1 N' N1' R' R1' B' B1' : Nat → Int32} (h : rWork P Q T N N1 R R1 B B1) (hQ : Q ≤ 10) (h1 : ∀ j, j < 10 → N' j = N j ∧ N1' j = N1 j ∧ R' j = R j ∧ R1' j = R1 j ∧ B' j = B j ∧ B1' j = B1 j) : rWork P Q T N' N1' R' R1' B' B1' := by
  obtain ⟨k1, k2, k3, k4⟩ := h
  refine ⟨rSame_c k1 (fun j hj => (h1 j hj).1) (fun j hj => (h1 j hj).2.1), rSame_c k2 (fun j hj => (h1 j hj).2.2.1) (fun j hj => (h1 j hj).2.2.2.1), fun j hj => ?_, fun j e1 e2 => ?_⟩
  · rw [(h1 j (by omega)).2.2.2.2.1, (h1 j (by omega)).2.2.2.2.2]; exact k3 j hj
  · rw [(h1 j e2).2.2.2.2.1]; exact k4 j e1 e2
/-- a kept place reads its own part alone -/
theorem rKept_K {i P Q : Nat} {Gn Lg s D N R B C H k0 k1 k2 K k0' k1' k2' K' : Nat → Int32} (h : rKept i P Q Gn Lg s D N R B C H k0 k1 k2 K) (e0 : k0' i = k0 i) (e1 : k1' i = k1 i) (e2 : k2' i = k2 i) (eK : ∀ j, j < 711 → K' (711 * i + j) = K (711 * i + j)) : rKept i P Q Gn Lg s D N R B C H k0' k1' k2' K' := by
  rcases h with ⟨h0, h1⟩ | ⟨h0, p, q, t, h1, h2, h3, h4, h5, h6, h7, h8, h9, h10, h11, h12, h13, h14⟩
  · exact .inl ⟨e0.trans h0, h1⟩
  · have z : ∀ n, n < 100 → ∀ j, j < 10 → K' (711 * i + 600 + n + j) = K (711 * i + 600 + n + j) := fun n hn j hj => by
      rw [show 711 * i + 600 + n + j = 711 * i + (600 + n + j) by omega]
      exact eK _ (by omega)
    refine .inr ⟨e0.trans h0, p, q, t, h1, h2, h3, h4, h5, e1.trans h6, h7, e2.trans h8, h9, (eK 710 (by decide)).trans h10, ?_, ?_, ?_, ?_⟩
    · exact rDays_c h11 h4 h3 (fun _ _ => rfl) (fun j hj => eK j (by omega)) (fun j hj => by rw [Nat.add_assoc]; exact eK _ (by omega))
    · exact rWork_c h12 h3 (fun j hj => ⟨rfl, by rw [Nat.add_assoc]; exact eK _ (by omega), rfl, by rw [Nat.add_assoc]; exact eK _ (by omega), rfl, by rw [Nat.add_assoc]; exact eK _ (by omega)⟩)
    · exact rSame_c h13 (fun _ _ => rfl) (fun j hj => by rw [Nat.add_assoc]; exact eK _ (by omega))
    · exact rSame_c h14 (fun _ _ => rfl) (fun j hj => by rw [Nat.add_assoc]; exact eK _ (by omega))
/-- kept places written anew -/
theorem rel_kept {L : Nat} {xs : Nat → Int32} {P Q T G N : Nat} {m M : zA} (h : rAll L xs P Q T G N m) (row : ∀ q, ¬ ((173 ≤ q ∧ q ≤ 193) ∨ q = 194 ∨ (233 ≤ q ∧ q ≤ 236)) → M q = m q) (e : ∀ j, M 194 j = m 194 j) (k0 : rKept 0 P Q (m 3) (m 6) (M 173) (M 174) (M 175) (M 176) (M 177) (M 178) (M 179) (M 233) (M 234) (M 235) (M 236)) (k1 : rKept 1 P Q (m 3) (m 6) (M 180) (M 181) (M 182) (M 183) (M 184) (M 185) (M 186) (M 233) (M 234) (M 235) (M 236)) (k2 : rKept 2 P Q (m 3) (m 6) (M 187) (M 188) (M 189) (M 190) (M 191) (M 192) (M 193) (M 233) (M 234) (M 235) (M 236)) : rAll L xs P Q T G N M := by
  obtain ⟨h0, ⟨n1, n2, n3, n4, n5, n6, n7⟩, ⟨u1, u2, u3, u4, u5⟩, hC, hD, hW, hRu, hTa, hRo, hKe, hKn⟩ := h
  have e4 : M 194 = m 194 := funext e
  unfold rAll rHouse
  rw [row 0 (by decide), row 2 (by decide), row 12 (by decide), row 1 (by decide), e4, row 3 (by decide), row 4 (by decide), row 5 (by decide), row 6 (by decide), row 7 (by decide), row 197 (by decide), row 199 (by decide), row 200 (by decide), row 201 (by decide), row 202 (by decide), row 17 (by decide), row 18 (by decide), row 196 (by decide), row 198 (by decide), row 13 (by decide), row 206 (by decide), row 14 (by decide), row 15 (by decide), row 16 (by decide), row 203 (by decide), row 204 (by decide), row 205 (by decide), row 8 (by decide), row 9 (by decide), row 10 (by decide), row 11 (by decide), row 207 (by decide), row 208 (by decide), row 209 (by decide), row 210 (by decide), row 20 (by decide), row 215 (by decide), row 171 (by decide), row 195 (by decide), row 27 (by decide), row 33 (by decide)]
  exact ⟨h0, ⟨n1, n2, n3, n4, n5, n6, n7⟩, ⟨u1, u2, u3, u4, u5⟩, hC, hD, hW, hRu, hTa, hRo, ⟨k0, k1, k2⟩, hKn⟩
theorem r_keep {L : Nat} {xs : Nat → Int32} (x1 : Int32) : zAns (Rel L xs) (X_keep x1) (M_keep x1) := by
  intro a b hr
  obtain ⟨P, Q, T, G, N, hall⟩ := id hr
  obtain ⟨W, S, hv⟩ := vw_mask hall
  obtain ⟨⟨g1, g2, g3, g4, g5⟩, ⟨⟨p1, p2⟩, ⟨q1, q2⟩, ⟨t1, t2⟩, -⟩, -⟩ := id hv
  have hin : ∀ c, M_in x1.toInt64 0 2 c b = okI (if x1 < 0 then 0 else if 2 < x1 then 0 else 1) c b := fun c => s_in32 x1 0 2 (by decide) (by decide) c b
  by_cases c1 : x1 < 0
  · refine ans_thr hr 0 ?_ ?_
    · rw [q_X_keep]
      simp (disch := omega) only [zqA0, zqB0, zqC0, zqD0, zqE0, zqF0, zqG0, zqH0, zqA1, zqB1, zqC1, zqD1, zqE1, zqF1, zqG1, zqH1, zqA2, zqB2, zqC2, zqD2, zqE2, zqF2, zqG2, zqH2, zqA3, zqB3, zqC3, zqD3, zqE3, zqF3, zqG3, zqH3, zqA4, zqB4, zqC4, zqD4, zqE4, zqF4, zqG4, zqH4, zqA5, zqB5, zqC5, zqD5, zqE5, zqF5, zqG5, zqH5, zqA6, zqB6, zqC6, zqD6, zqE6, zqF6, zqG6, zqH6, zqA8, zqB8, zqC8, zqD8, zqE8, zqF8, zqG8, zqH8, zqA9, zqB9, zqC9, zqD9, zqE9, zqF9, zqG9, zqH9, zqA10, zqB10, zqC10, zqD10, zqE10, zqF10, zqG10, zqH10, zqA11, zqB11, zqC11, zqD11, zqE11, zqF11, zqG11, zqH11, zqA16, zqB16, zqC16, zqD16, zqE16, zqF16, zqG16, zqH16, zqA18, zqB18, zqC18, zqD18, zqE18, zqF18, zqG18, zqH18, zqA20, zqB20, zqC20, zqD20, zqE20, zqF20, zqG20, zqH20, zqA60, zqB60, zqC60, zqD60, zqE60, zqF60, zqG60, zqH60, zqA63, zqB63, zqC63, zqD63, zqE63, zqF63, zqG63, zqH63, zqA80, zqB80, zqC80, zqD80, zqE80, zqF80, zqG80, zqH80, zqA100, zqB100, zqC100, zqD100, zqE100, zqF100, zqG100, zqH100, zqA120, zqB120, zqC120, zqD120, zqE120, zqF120, zqG120, zqH120, zqA630, zqB630, zqC630, zqD630, zqE630, zqF630, zqG630, zqH630, zqA1000, zqB1000, zqC1000, zqD1000, zqE1000, zqF1000, zqG1000, zqH1000, zqA1010, zqB1010, zqC1010, zqD1010, zqE1010, zqF1010, zqG1010, zqH1010, zqA5000, zqB5000, zqC5000, zqD5000, zqE5000, zqF5000, zqG5000, zqH5000, zz_p01, zz_p02, zz_p03, zz_p04, zz_p05, zz_p06, zz_p10, zz_p12, zz_p13, zz_p14, zz_p15, zz_p16, zz_p20, zz_p21, zz_p23, zz_p24, zz_p25, zz_p26, zz_p30, zz_p31, zz_p32, zz_p34, zz_p35, zz_p36, zz_p40, zz_p41, zz_p42, zz_p43, zz_p45, zz_p46, zz_p50, zz_p51, zz_p52, zz_p53, zz_p54, zz_p56, zz_p60, zz_p61, zz_p62, zz_p63, zz_p64, zz_p65, zz_q1, zz_w1, zz_q2, zz_w2, zz_q3, zz_w3, zz_q4, zz_w4, zz_q5, zz_w5, zz_q6, zz_w6, zz_w0, zz_m1, zz_lt, zz_01, zz_le, zz_eq, zz_n1, zz_in, zz_cl, zz_max, zz_min, zz_minN, zz_maxN, zz_02, zz_12, zz_c0, zz_c1, zz_b0, zz_b1, zz_bb, zz_d00, zz_d10, zz_neg, nI_add, pk_mul, zc_b0, zc_b1, cond_true, cond_false, zcI_ok, zcV_ok, okI_ret, okV_ret, zz_sub, zcond_t, zcond_f, bI_t, bI_f, eq_self, decide_true, decide_false, Bool.false_or, Bool.true_or, Bool.or_false, Bool.or_true, Bool.and_true, Bool.true_and, Bool.and_false, Bool.false_and, Bool.not_true, Bool.not_false, if_true, if_false, c1, q_X_keep_13]
    · rw [q_M_keep, hin]
      simp (disch := omega) only [zqA0, zqB0, zqC0, zqD0, zqE0, zqF0, zqG0, zqH0, zqA1, zqB1, zqC1, zqD1, zqE1, zqF1, zqG1, zqH1, zqA2, zqB2, zqC2, zqD2, zqE2, zqF2, zqG2, zqH2, zqA3, zqB3, zqC3, zqD3, zqE3, zqF3, zqG3, zqH3, zqA4, zqB4, zqC4, zqD4, zqE4, zqF4, zqG4, zqH4, zqA5, zqB5, zqC5, zqD5, zqE5, zqF5, zqG5, zqH5, zqA6, zqB6, zqC6, zqD6, zqE6, zqF6, zqG6, zqH6, zqA8, zqB8, zqC8, zqD8, zqE8, zqF8, zqG8, zqH8, zqA9, zqB9, zqC9, zqD9, zqE9, zqF9, zqG9, zqH9, zqA10, zqB10, zqC10, zqD10, zqE10, zqF10, zqG10, zqH10, zqA11, zqB11, zqC11, zqD11, zqE11, zqF11, zqG11, zqH11, zqA16, zqB16, zqC16, zqD16, zqE16, zqF16, zqG16, zqH16, zqA18, zqB18, zqC18, zqD18, zqE18, zqF18, zqG18, zqH18, zqA20, zqB20, zqC20, zqD20, zqE20, zqF20, zqG20, zqH20, zqA60, zqB60, zqC60, zqD60, zqE60, zqF60, zqG60, zqH60, zqA63, zqB63, zqC63, zqD63, zqE63, zqF63, zqG63, zqH63, zqA80, zqB80, zqC80, zqD80, zqE80, zqF80, zqG80, zqH80, zqA100, zqB100, zqC100, zqD100, zqE100, zqF100, zqG100, zqH100, zqA120, zqB120, zqC120, zqD120, zqE120, zqF120, zqG120, zqH120, zqA630, zqB630, zqC630, zqD630, zqE630, zqF630, zqG630, zqH630, zqA1000, zqB1000, zqC1000, zqD1000, zqE1000, zqF1000, zqG1000, zqH1000, zqA1010, zqB1010, zqC1010, zqD1010, zqE1010, zqF1010, zqG1010, zqH1010, zqA5000, zqB5000, zqC5000, zqD5000, zqE5000, zqF5000, zqG5000, zqH5000, zz_p01, zz_p02, zz_p03, zz_p04, zz_p05, zz_p06, zz_p10, zz_p12, zz_p13, zz_p14, zz_p15, zz_p16, zz_p20, zz_p21, zz_p23, zz_p24, zz_p25, zz_p26, zz_p30, zz_p31, zz_p32, zz_p34, zz_p35, zz_p36, zz_p40, zz_p41, zz_p42, zz_p43, zz_p45, zz_p46, zz_p50, zz_p51, zz_p52, zz_p53, zz_p54, zz_p56, zz_p60, zz_p61, zz_p62, zz_p63, zz_p64, zz_p65, zz_q1, zz_w1, zz_q2, zz_w2, zz_q3, zz_w3, zz_q4, zz_w4, zz_q5, zz_w5, zz_q6, zz_w6, zz_w0, zz_m1, zz_lt, zz_01, zz_le, zz_eq, zz_n1, zz_in, zz_cl, zz_max, zz_min, zz_minN, zz_maxN, zz_02, zz_12, zz_c0, zz_c1, zz_b0, zz_b1, zz_bb, zz_d00, zz_d10, zz_neg, nI_add, pk_mul, zc_b0, zc_b1, cond_true, cond_false, zcI_ok, zcV_ok, okI_ret, okV_ret, zz_sub, zcond_t, zcond_f, bI_t, bI_f, eq_self, decide_true, decide_false, Bool.false_or, Bool.true_or, Bool.or_false, Bool.or_true, Bool.and_true, Bool.true_and, Bool.and_false, Bool.false_and, Bool.not_true, Bool.not_false, if_true, if_false, c1]
  by_cases c2 : 2 < x1
  · have c3 : ¬ x1 < 3 := fun z => by
      rw [Int32.lt_iff_toInt_lt] at c2 z
      rw [show (2 : Int32).toInt = 2 from by decide] at c2
      rw [show (3 : Int32).toInt = 3 from by decide] at z
      omega
    refine ans_thr hr 0 ?_ ?_
    · rw [q_X_keep]
      simp (disch := omega) only [zqA0, zqB0, zqC0, zqD0, zqE0, zqF0, zqG0, zqH0, zqA1, zqB1, zqC1, zqD1, zqE1, zqF1, zqG1, zqH1, zqA2, zqB2, zqC2, zqD2, zqE2, zqF2, zqG2, zqH2, zqA3, zqB3, zqC3, zqD3, zqE3, zqF3, zqG3, zqH3, zqA4, zqB4, zqC4, zqD4, zqE4, zqF4, zqG4, zqH4, zqA5, zqB5, zqC5, zqD5, zqE5, zqF5, zqG5, zqH5, zqA6, zqB6, zqC6, zqD6, zqE6, zqF6, zqG6, zqH6, zqA8, zqB8, zqC8, zqD8, zqE8, zqF8, zqG8, zqH8, zqA9, zqB9, zqC9, zqD9, zqE9, zqF9, zqG9, zqH9, zqA10, zqB10, zqC10, zqD10, zqE10, zqF10, zqG10, zqH10, zqA11, zqB11, zqC11, zqD11, zqE11, zqF11, zqG11, zqH11, zqA16, zqB16, zqC16, zqD16, zqE16, zqF16, zqG16, zqH16, zqA18, zqB18, zqC18, zqD18, zqE18, zqF18, zqG18, zqH18, zqA20, zqB20, zqC20, zqD20, zqE20, zqF20, zqG20, zqH20, zqA60, zqB60, zqC60, zqD60, zqE60, zqF60, zqG60, zqH60, zqA63, zqB63, zqC63, zqD63, zqE63, zqF63, zqG63, zqH63, zqA80, zqB80, zqC80, zqD80, zqE80, zqF80, zqG80, zqH80, zqA100, zqB100, zqC100, zqD100, zqE100, zqF100, zqG100, zqH100, zqA120, zqB120, zqC120, zqD120, zqE120, zqF120, zqG120, zqH120, zqA630, zqB630, zqC630, zqD630, zqE630, zqF630, zqG630, zqH630, zqA1000, zqB1000, zqC1000, zqD1000, zqE1000, zqF1000, zqG1000, zqH1000, zqA1010, zqB1010, zqC1010, zqD1010, zqE1010, zqF1010, zqG1010, zqH1010, zqA5000, zqB5000, zqC5000, zqD5000, zqE5000, zqF5000, zqG5000, zqH5000, zz_p01, zz_p02, zz_p03, zz_p04, zz_p05, zz_p06, zz_p10, zz_p12, zz_p13, zz_p14, zz_p15, zz_p16, zz_p20, zz_p21, zz_p23, zz_p24, zz_p25, zz_p26, zz_p30, zz_p31, zz_p32, zz_p34, zz_p35, zz_p36, zz_p40, zz_p41, zz_p42, zz_p43, zz_p45, zz_p46, zz_p50, zz_p51, zz_p52, zz_p53, zz_p54, zz_p56, zz_p60, zz_p61, zz_p62, zz_p63, zz_p64, zz_p65, zz_q1, zz_w1, zz_q2, zz_w2, zz_q3, zz_w3, zz_q4, zz_w4, zz_q5, zz_w5, zz_q6, zz_w6, zz_w0, zz_m1, zz_lt, zz_01, zz_le, zz_eq, zz_n1, zz_in, zz_cl, zz_max, zz_min, zz_minN, zz_maxN, zz_02, zz_12, zz_c0, zz_c1, zz_b0, zz_b1, zz_bb, zz_d00, zz_d10, zz_neg, nI_add, pk_mul, zc_b0, zc_b1, cond_true, cond_false, zcI_ok, zcV_ok, okI_ret, okV_ret, zz_sub, zcond_t, zcond_f, bI_t, bI_f, eq_self, decide_true, decide_false, Bool.false_or, Bool.true_or, Bool.or_false, Bool.or_true, Bool.and_true, Bool.true_and, Bool.and_false, Bool.false_and, Bool.not_true, Bool.not_false, if_true, if_false, c1, c3, q_X_keep_13]
    · rw [q_M_keep, hin]
      simp (disch := omega) only [zqA0, zqB0, zqC0, zqD0, zqE0, zqF0, zqG0, zqH0, zqA1, zqB1, zqC1, zqD1, zqE1, zqF1, zqG1, zqH1, zqA2, zqB2, zqC2, zqD2, zqE2, zqF2, zqG2, zqH2, zqA3, zqB3, zqC3, zqD3, zqE3, zqF3, zqG3, zqH3, zqA4, zqB4, zqC4, zqD4, zqE4, zqF4, zqG4, zqH4, zqA5, zqB5, zqC5, zqD5, zqE5, zqF5, zqG5, zqH5, zqA6, zqB6, zqC6, zqD6, zqE6, zqF6, zqG6, zqH6, zqA8, zqB8, zqC8, zqD8, zqE8, zqF8, zqG8, zqH8, zqA9, zqB9, zqC9, zqD9, zqE9, zqF9, zqG9, zqH9, zqA10, zqB10, zqC10, zqD10, zqE10, zqF10, zqG10, zqH10, zqA11, zqB11, zqC11, zqD11, zqE11, zqF11, zqG11, zqH11, zqA16, zqB16, zqC16, zqD16, zqE16, zqF16, zqG16, zqH16, zqA18, zqB18, zqC18, zqD18, zqE18, zqF18, zqG18, zqH18, zqA20, zqB20, zqC20, zqD20, zqE20, zqF20, zqG20, zqH20, zqA60, zqB60, zqC60, zqD60, zqE60, zqF60, zqG60, zqH60, zqA63, zqB63, zqC63, zqD63, zqE63, zqF63, zqG63, zqH63, zqA80, zqB80, zqC80, zqD80, zqE80, zqF80, zqG80, zqH80, zqA100, zqB100, zqC100, zqD100, zqE100, zqF100, zqG100, zqH100, zqA120, zqB120, zqC120, zqD120, zqE120, zqF120, zqG120, zqH120, zqA630, zqB630, zqC630, zqD630, zqE630, zqF630, zqG630, zqH630, zqA1000, zqB1000, zqC1000, zqD1000, zqE1000, zqF1000, zqG1000, zqH1000, zqA1010, zqB1010, zqC1010, zqD1010, zqE1010, zqF1010, zqG1010, zqH1010, zqA5000, zqB5000, zqC5000, zqD5000, zqE5000, zqF5000, zqG5000, zqH5000, zz_p01, zz_p02, zz_p03, zz_p04, zz_p05, zz_p06, zz_p10, zz_p12, zz_p13, zz_p14, zz_p15, zz_p16, zz_p20, zz_p21, zz_p23, zz_p24, zz_p25, zz_p26, zz_p30, zz_p31, zz_p32, zz_p34, zz_p35, zz_p36, zz_p40, zz_p41, zz_p42, zz_p43, zz_p45, zz_p46, zz_p50, zz_p51, zz_p52, zz_p53, zz_p54, zz_p56, zz_p60, zz_p61, zz_p62, zz_p63, zz_p64, zz_p65, zz_q1, zz_w1, zz_q2, zz_w2, zz_q3, zz_w3, zz_q4, zz_w4, zz_q5, zz_w5, zz_q6, zz_w6, zz_w0, zz_m1, zz_lt, zz_01, zz_le, zz_eq, zz_n1, zz_in, zz_cl, zz_max, zz_min, zz_minN, zz_maxN, zz_02, zz_12, zz_c0, zz_c1, zz_b0, zz_b1, zz_bb, zz_d00, zz_d10, zz_neg, nI_add, pk_mul, zc_b0, zc_b1, cond_true, cond_false, zcI_ok, zcV_ok, okI_ret, okV_ret, zz_sub, zcond_t, zcond_f, bI_t, bI_f, eq_self, decide_true, decide_false, Bool.false_or, Bool.true_or, Bool.or_false, Bool.or_true, Bool.and_true, Bool.true_and, Bool.and_false, Bool.false_and, Bool.not_true, Bool.not_false, if_true, if_false, c1, c2]
  obtain ⟨i, hi2, rfl⟩ := nI_of2 (x := x1) (M := 2) (n := 2) (by decide) c1 (Int32.not_lt.mp c2)
  obtain ⟨z1, z2, z3, z4, -⟩ := kp_tab i (by omega)
  obtain ⟨s, hs⟩ : ∃ s, s = 173 + 7 * i := ⟨_, rfl⟩
  rw [← hs] at z2 z3 z4
  have b2 : ∀ j, bcm s 12 a 2 j = a 2 j := fun j => by
    unfold bcm
    rw [if_neg (by omega), if_neg (by omega), if_neg (by omega), if_neg (by omega)]
  obtain ⟨A, hA⟩ : ∃ A, A = zup (zup (bcm s 12 a) s 7 (nI P)) s 8 (nI Q) := ⟨_, rfl⟩
  have hX : X_keep (nI i) a b = okI 1 A b := by
    rw [q_X_keep]
    simp (disch := omega) only [zqA0, zqB0, zqC0, zqD0, zqE0, zqF0, zqG0, zqH0, zqA1, zqB1, zqC1, zqD1, zqE1, zqF1, zqG1, zqH1, zqA2, zqB2, zqC2, zqD2, zqE2, zqF2, zqG2, zqH2, zqA3, zqB3, zqC3, zqD3, zqE3, zqF3, zqG3, zqH3, zqA4, zqB4, zqC4, zqD4, zqE4, zqF4, zqG4, zqH4, zqA5, zqB5, zqC5, zqD5, zqE5, zqF5, zqG5, zqH5, zqA6, zqB6, zqC6, zqD6, zqE6, zqF6, zqG6, zqH6, zqA8, zqB8, zqC8, zqD8, zqE8, zqF8, zqG8, zqH8, zqA9, zqB9, zqC9, zqD9, zqE9, zqF9, zqG9, zqH9, zqA10, zqB10, zqC10, zqD10, zqE10, zqF10, zqG10, zqH10, zqA11, zqB11, zqC11, zqD11, zqE11, zqF11, zqG11, zqH11, zqA16, zqB16, zqC16, zqD16, zqE16, zqF16, zqG16, zqH16, zqA18, zqB18, zqC18, zqD18, zqE18, zqF18, zqG18, zqH18, zqA20, zqB20, zqC20, zqD20, zqE20, zqF20, zqG20, zqH20, zqA60, zqB60, zqC60, zqD60, zqE60, zqF60, zqG60, zqH60, zqA63, zqB63, zqC63, zqD63, zqE63, zqF63, zqG63, zqH63, zqA80, zqB80, zqC80, zqD80, zqE80, zqF80, zqG80, zqH80, zqA100, zqB100, zqC100, zqD100, zqE100, zqF100, zqG100, zqH100, zqA120, zqB120, zqC120, zqD120, zqE120, zqF120, zqG120, zqH120, zqA630, zqB630, zqC630, zqD630, zqE630, zqF630, zqG630, zqH630, zqA1000, zqB1000, zqC1000, zqD1000, zqE1000, zqF1000, zqG1000, zqH1000, zqA1010, zqB1010, zqC1010, zqD1010, zqE1010, zqF1010, zqG1010, zqH1010, zqA5000, zqB5000, zqC5000, zqD5000, zqE5000, zqF5000, zqG5000, zqH5000, zz_p01, zz_p02, zz_p03, zz_p04, zz_p05, zz_p06, zz_p10, zz_p12, zz_p13, zz_p14, zz_p15, zz_p16, zz_p20, zz_p21, zz_p23, zz_p24, zz_p25, zz_p26, zz_p30, zz_p31, zz_p32, zz_p34, zz_p35, zz_p36, zz_p40, zz_p41, zz_p42, zz_p43, zz_p45, zz_p46, zz_p50, zz_p51, zz_p52, zz_p53, zz_p54, zz_p56, zz_p60, zz_p61, zz_p62, zz_p63, zz_p64, zz_p65, zz_q1, zz_w1, zz_q2, zz_w2, zz_q3, zz_w3, zz_q4, zz_w4, zz_q5, zz_w5, zz_q6, zz_w6, zz_w0, zz_m1, zz_lt, zz_01, zz_le, zz_eq, zz_n1, zz_in, zz_cl, zz_max, zz_min, zz_minN, zz_maxN, zz_02, zz_12, zz_c0, zz_c1, zz_b0, zz_b1, zz_bb, zz_d00, zz_d10, zz_neg, nI_add, pk_mul, zc_b0, zc_b1, cond_true, cond_false, zcI_ok, zcV_ok, okI_ret, okV_ret, zz_sub, zcond_t, zcond_f, bI_t, bI_f, eq_self, decide_true, decide_false, Bool.false_or, Bool.true_or, Bool.or_false, Bool.or_true, Bool.and_true, Bool.true_and, Bool.and_false, Bool.false_and, Bool.not_true, Bool.not_false, if_true, if_false, z1, z2, z3, z4, b2, p1]
    rw [show zup (bcm s 12 a) s 7 (nI P) 2 1 = nI Q from (zup_ne (by omega)).trans ((b2 1).trans q1), hA]
  have fA : ∀ q, ¬ (s ≤ q ∧ q ≤ s + 6) → A q = a q := fun q hq => by
    rw [hA, zup_row (by omega), zup_row (by omega)]
    funext j
    unfold bcm
    rw [if_neg (by omega), if_neg (by omega), if_neg (by omega), if_neg (by omega)]
  obtain ⟨o, ho⟩ : ∃ o, o = 711 * i := ⟨_, rfl⟩
  obtain ⟨c1', hc1⟩ : ∃ c1', c1' = zup (zup (zup (zup (zup A 194 0 0) 233 i 1) 234 i (nI P)) 235 i (nI Q)) 194 65 (nI o) := ⟨_, rfl⟩
  have fc : ∀ q, q < 194 ∨ (194 < q ∧ ¬ (233 ≤ q ∧ q ≤ 235)) → c1' q = A q := fun q hq => by
    rw [hc1, zup_row (by omega), zup_row (by omega), zup_row (by omega), zup_row (by omega), zup_row (by omega)]
  have f4 : ∀ j, j ≠ 0 → j ≠ 65 → c1' 194 j = A 194 j := fun j h1 h2 => by
    rw [hc1, zup_nj h2, zup_ne (by decide), zup_ne (by decide), zup_ne (by decide), zup_nj h1]
  have o0 : c1' 194 65 = nI o := by rw [hc1]; exact zup_eq _ _ _ _
  obtain ⟨l206, l203, l204, l205, l196, l198⟩ := sh_m
  have m1 := m_lay (q := 206) (f := 0) (n := 600) (a := c1') (b := b) (by decide) l206 (by decide) (by decide) o0 (by omega)
  obtain ⟨c2', hc2⟩ : ∃ x, x = lay c1' 206 0 o 600 := ⟨_, rfl⟩
  have m2 := m_lay (q := 206) (f := 630) (n := 10) (a := c2') (b := b) (by decide) l206 (by decide) (by decide) (show c2' 194 65 = nI (o + 600) by rw [hc2]; exact lay_5) (by omega)
  obtain ⟨c3', hc3⟩ : ∃ x, x = lay c2' 206 630 (o + 600) 10 := ⟨_, rfl⟩
  have m3 := m_lay (q := 203) (f := 0) (n := 10) (a := c3') (b := b) (by decide) l203 (by decide) (by decide) (show c3' 194 65 = nI (o + 610) by rw [hc3]; exact lay_5) (by omega)
  obtain ⟨c4', hc4⟩ : ∃ x, x = lay c3' 203 0 (o + 610) 10 := ⟨_, rfl⟩
  have m4 := m_lay (q := 204) (f := 0) (n := 10) (a := c4') (b := b) (by decide) l204 (by decide) (by decide) (show c4' 194 65 = nI (o + 620) by rw [hc4]; exact lay_5) (by omega)
  obtain ⟨c5', hc5⟩ : ∃ x, x = lay c4' 204 0 (o + 620) 10 := ⟨_, rfl⟩
  have m5 := m_lay (q := 205) (f := 0) (n := 10) (a := c5') (b := b) (by decide) l205 (by decide) (by decide) (show c5' 194 65 = nI (o + 630) by rw [hc5]; exact lay_5) (by omega)
  obtain ⟨c6', hc6⟩ : ∃ x, x = lay c5' 205 0 (o + 630) 10 := ⟨_, rfl⟩
  have m6 := m_lay (q := 196) (f := 0) (n := 10) (a := c6') (b := b) (by decide) l196 (by decide) (by decide) (show c6' 194 65 = nI (o + 640) by rw [hc6]; exact lay_5) (by omega)
  obtain ⟨c7', hc7⟩ : ∃ x, x = lay c6' 196 0 (o + 640) 10 := ⟨_, rfl⟩
  have m7 := m_lay (q := 198) (f := 0) (n := 60) (a := c7') (b := b) (by decide) l198 (by decide) (by decide) (show c7' 194 65 = nI (o + 650) by rw [hc7]; exact lay_5) (by omega)
  obtain ⟨c8', hc8⟩ : ∃ x, x = lay c7' 198 0 (o + 650) 60 := ⟨_, rfl⟩
  have o8 : c8' 194 65 = nI (o + 710) := by rw [hc8]; exact lay_5
  rw [← hc2] at m1; rw [← hc3] at m2; rw [← hc4] at m3; rw [← hc5] at m4; rw [← hc6] at m5; rw [← hc7] at m6; rw [← hc8] at m7
  have r2 : ∀ q, q ≠ 194 → q ≠ 236 → c2' q = c1' q := fun q h1 h2 => by rw [hc2]; exact lay_q h1 h2
  have r3 : ∀ q, q ≠ 194 → q ≠ 236 → c3' q = c1' q := fun q h1 h2 => by rw [hc3, lay_q h1 h2]; exact r2 q h1 h2
  have r4 : ∀ q, q ≠ 194 → q ≠ 236 → c4' q = c1' q := fun q h1 h2 => by rw [hc4, lay_q h1 h2]; exact r3 q h1 h2
  have r5 : ∀ q, q ≠ 194 → q ≠ 236 → c5' q = c1' q := fun q h1 h2 => by rw [hc5, lay_q h1 h2]; exact r4 q h1 h2
  have r6 : ∀ q, q ≠ 194 → q ≠ 236 → c6' q = c1' q := fun q h1 h2 => by rw [hc6, lay_q h1 h2]; exact r5 q h1 h2
  have r7 : ∀ q, q ≠ 194 → q ≠ 236 → c7' q = c1' q := fun q h1 h2 => by rw [hc7, lay_q h1 h2]; exact r6 q h1 h2
  have r8 : ∀ q, q ≠ 194 → q ≠ 236 → c8' q = c1' q := fun q h1 h2 => by rw [hc8, lay_q h1 h2]; exact r7 q h1 h2
  have s8 : ∀ j, j ≠ 65 → c8' 194 j = c1' 194 j := fun j h => by rw [hc8, lay_4 h, hc7, lay_4 h, hc6, lay_4 h, hc5, lay_4 h, hc4, lay_4 h, hc3, lay_4 h, hc2, lay_4 h]
  have tt : c8' 194 15 = nI T := by rw [s8 15 (by decide), f4 15 (by decide) (by decide), fA 194 (by omega)]; exact t2
  obtain ⟨F, hF⟩ : ∃ F, F = zup c8' 236 (o + 710) (nI T) := ⟨_, rfl⟩
  have hM : M_keep (nI i) A b = okI 1 F b := by
    have e1 : zup A 194 0 0 194 3 = nI P := (zup_nj (by decide)).trans ((congrFun (fA 194 (by omega)) 3).trans p2)
    have e2 : zup A 194 0 0 194 7 = nI Q := (zup_nj (by decide)).trans ((congrFun (fA 194 (by omega)) 7).trans q2)
    have e3 : (711 : Int32) * nI i = nI o := by rw [ho]; exact pk_mul 711 i
    have zi : zin (nI i) 3 = true := zin_nI (by omega) (by decide)
    rw [q_M_keep, hin, if_neg c1, if_neg c2, zcI_ok, zcond_f (by decide), zi, show (true && zisB 1) = true from rfl, cond_true, cond_true, cond_true, show (nI i).toNatClampNeg = i from nI_clamp (by omega), show zup (zup A 194 0 0) 233 i 1 194 3 = nI P from (zup_ne (by decide)).trans e1, show zup (zup (zup A 194 0 0) 233 i 1) 234 i (nI P) 194 7 = nI Q from (zup_ne (by decide)).trans ((zup_ne (by decide)).trans e2), e3, ← hc1]
    refine Eq.trans (congrArg (fun r => zcV r _) m1) ?_
    rw [zcV_ok]
    refine Eq.trans (congrArg (fun r => zcV r _) m2) ?_
    rw [zcV_ok]
    refine Eq.trans (congrArg (fun r => zcV r _) m3) ?_
    rw [zcV_ok]
    refine Eq.trans (congrArg (fun r => zcV r _) m4) ?_
    rw [zcV_ok]
    refine Eq.trans (congrArg (fun r => zcV r _) m5) ?_
    rw [zcV_ok]
    refine Eq.trans (congrArg (fun r => zcV r _) m6) ?_
    rw [zcV_ok]
    refine Eq.trans (congrArg (fun r => zcV r _) m7) ?_
    rw [zcV_ok, o8, tt]
    simp (disch := omega) only [zqA0, zqB0, zqC0, zqD0, zqE0, zqF0, zqG0, zqH0, zqA1, zqB1, zqC1, zqD1, zqE1, zqF1, zqG1, zqH1, zqA2, zqB2, zqC2, zqD2, zqE2, zqF2, zqG2, zqH2, zqA3, zqB3, zqC3, zqD3, zqE3, zqF3, zqG3, zqH3, zqA4, zqB4, zqC4, zqD4, zqE4, zqF4, zqG4, zqH4, zqA5, zqB5, zqC5, zqD5, zqE5, zqF5, zqG5, zqH5, zqA6, zqB6, zqC6, zqD6, zqE6, zqF6, zqG6, zqH6, zqA8, zqB8, zqC8, zqD8, zqE8, zqF8, zqG8, zqH8, zqA9, zqB9, zqC9, zqD9, zqE9, zqF9, zqG9, zqH9, zqA10, zqB10, zqC10, zqD10, zqE10, zqF10, zqG10, zqH10, zqA11, zqB11, zqC11, zqD11, zqE11, zqF11, zqG11, zqH11, zqA16, zqB16, zqC16, zqD16, zqE16, zqF16, zqG16, zqH16, zqA18, zqB18, zqC18, zqD18, zqE18, zqF18, zqG18, zqH18, zqA20, zqB20, zqC20, zqD20, zqE20, zqF20, zqG20, zqH20, zqA60, zqB60, zqC60, zqD60, zqE60, zqF60, zqG60, zqH60, zqA63, zqB63, zqC63, zqD63, zqE63, zqF63, zqG63, zqH63, zqA80, zqB80, zqC80, zqD80, zqE80, zqF80, zqG80, zqH80, zqA100, zqB100, zqC100, zqD100, zqE100, zqF100, zqG100, zqH100, zqA120, zqB120, zqC120, zqD120, zqE120, zqF120, zqG120, zqH120, zqA630, zqB630, zqC630, zqD630, zqE630, zqF630, zqG630, zqH630, zqA1000, zqB1000, zqC1000, zqD1000, zqE1000, zqF1000, zqG1000, zqH1000, zqA1010, zqB1010, zqC1010, zqD1010, zqE1010, zqF1010, zqG1010, zqH1010, zqA5000, zqB5000, zqC5000, zqD5000, zqE5000, zqF5000, zqG5000, zqH5000, zz_p01, zz_p02, zz_p03, zz_p04, zz_p05, zz_p06, zz_p10, zz_p12, zz_p13, zz_p14, zz_p15, zz_p16, zz_p20, zz_p21, zz_p23, zz_p24, zz_p25, zz_p26, zz_p30, zz_p31, zz_p32, zz_p34, zz_p35, zz_p36, zz_p40, zz_p41, zz_p42, zz_p43, zz_p45, zz_p46, zz_p50, zz_p51, zz_p52, zz_p53, zz_p54, zz_p56, zz_p60, zz_p61, zz_p62, zz_p63, zz_p64, zz_p65, zz_q1, zz_w1, zz_q2, zz_w2, zz_q3, zz_w3, zz_q4, zz_w4, zz_q5, zz_w5, zz_q6, zz_w6, zz_w0, zz_m1, zz_lt, zz_01, zz_le, zz_eq, zz_n1, zz_in, zz_cl, zz_max, zz_min, zz_minN, zz_maxN, zz_02, zz_12, zz_c0, zz_c1, zz_b0, zz_b1, zz_bb, zz_d00, zz_d10, zz_neg, nI_add, pk_mul, zc_b0, zc_b1, cond_true, cond_false, zcI_ok, zcV_ok, okI_ret, okV_ret, zz_sub, zcond_t, zcond_f, bI_t, bI_f, eq_self, decide_true, decide_false, Bool.false_or, Bool.true_or, Bool.or_false, Bool.or_true, Bool.and_true, Bool.true_and, Bool.and_false, Bool.false_and, Bool.not_true, Bool.not_false, if_true, if_false]
    rw [hF]
  -- what lies in the kept place
  have lo : ∀ q, q ≠ 194 → ¬ (233 ≤ q ∧ q ≤ 236) → F q = A q := fun q h1 h2 => by
    rw [hF, zup_row (by omega), r8 q h1 (by omega), fc q (by omega)]
  have cs : ∀ (cc : zA) q, cc q = c1' q → q < 194 ∨ (194 < q ∧ ¬ (233 ≤ q ∧ q ≤ 235)) → ¬ (s ≤ q ∧ q ≤ s + 6) → ∀ k, cc q k = a q k := fun cc q h1 h2 h3 k => by rw [h1, fc q h2, fA q h3]
  have k600 : ∀ k, k < 600 → F 236 (o + k) = a 206 k := fun k hk => by
    rw [hF, zup_nj (by omega), hc8, lay_o (by omega), hc7, lay_o (by omega), hc6, lay_o (by omega), hc5, lay_o (by omega), hc4, lay_o (by omega), hc3, lay_o (by omega), hc2, lay_j hk, Nat.zero_add]
    exact cs c1' 206 rfl (by omega) (by omega) k
  have k610 : ∀ k, k < 10 → F 236 (o + 600 + k) = a 206 (630 + k) := fun k hk => by
    rw [hF, zup_nj (by omega), hc8, lay_o (by omega), hc7, lay_o (by omega), hc6, lay_o (by omega), hc5, lay_o (by omega), hc4, lay_o (by omega), hc3, lay_j hk]
    exact cs c2' 206 (r2 206 (by decide) (by decide)) (by omega) (by omega) _
  have k203 : ∀ k, k < 10 → F 236 (o + 610 + k) = a 203 k := fun k hk => by
    rw [hF, zup_nj (by omega), hc8, lay_o (by omega), hc7, lay_o (by omega), hc6, lay_o (by omega), hc5, lay_o (by omega), hc4, lay_j hk, Nat.zero_add]
    exact cs c3' 203 (r3 203 (by decide) (by decide)) (by omega) (by omega) _
  have k204 : ∀ k, k < 10 → F 236 (o + 620 + k) = a 204 k := fun k hk => by
    rw [hF, zup_nj (by omega), hc8, lay_o (by omega), hc7, lay_o (by omega), hc6, lay_o (by omega), hc5, lay_j hk, Nat.zero_add]
    exact cs c4' 204 (r4 204 (by decide) (by decide)) (by omega) (by omega) _
  have k205 : ∀ k, k < 10 → F 236 (o + 630 + k) = a 205 k := fun k hk => by
    rw [hF, zup_nj (by omega), hc8, lay_o (by omega), hc7, lay_o (by omega), hc6, lay_j hk, Nat.zero_add]
    exact cs c5' 205 (r5 205 (by decide) (by decide)) (by omega) (by omega) _
  have k196 : ∀ k, k < 10 → F 236 (o + 640 + k) = a 196 k := fun k hk => by
    rw [hF, zup_nj (by omega), hc8, lay_o (by omega), hc7, lay_j hk, Nat.zero_add]
    exact cs c6' 196 (r6 196 (by decide) (by decide)) (by omega) (by omega) _
  have k198 : ∀ k, k < 60 → F 236 (o + 650 + k) = a 198 k := fun k hk => by
    rw [hF, zup_nj (by omega), hc8, lay_j hk, Nat.zero_add]
    exact cs c7' 198 (r7 198 (by decide) (by decide)) (by omega) (by omega) _
  have k710 : F 236 (o + 710) = nI T := by rw [hF]; exact zup_eq _ _ _ _
  have kout : ∀ j, j < o ∨ o + 711 ≤ j → F 236 j = a 236 j := fun j hj => by
    rw [hF, zup_nj (by omega), hc8, lay_o (by omega), hc7, lay_o (by omega), hc6, lay_o (by omega), hc5, lay_o (by omega), hc4, lay_o (by omega), hc3, lay_o (by omega), hc2, lay_o (by omega), fc 236 (by omega), fA 236 (by omega)]
  have k233 : ∀ q x, q = 233 ∧ x = 1 ∨ q = 234 ∧ x = nI P ∨ q = 235 ∧ x = nI Q → F q i = x ∧ ∀ j, j ≠ i → F q j = a q j := by
    intro q x hq
    have e1 : F q = c1' q := by rw [hF, zup_row (by omega), r8 q (by omega) (by omega)]
    rw [e1, hc1]
    rcases hq with ⟨rfl, rfl⟩ | ⟨rfl, rfl⟩ | ⟨rfl, rfl⟩
    · refine ⟨?_, fun j hj => ?_⟩
      · rw [zup_ne (by decide), zup_ne (by decide), zup_ne (by decide), zup_eq]
      · rw [zup_ne (by decide), zup_ne (by decide), zup_ne (by decide), zup_nj hj, zup_ne (by decide), fA 233 (by omega)]
    · refine ⟨?_, fun j hj => ?_⟩
      · rw [zup_ne (by decide), zup_ne (by decide), zup_eq]
      · rw [zup_ne (by decide), zup_ne (by decide), zup_nj hj, zup_ne (by decide), zup_ne (by decide), fA 234 (by omega)]
    · refine ⟨?_, fun j hj => ?_⟩
      · rw [zup_ne (by decide), zup_eq]
      · rw [zup_ne (by decide), zup_nj hj, zup_ne (by decide), zup_ne (by decide), zup_ne (by decide), fA 235 (by omega)]
  -- the state that the class keeps
  have sA : ∀ j, (j ≠ 6 → j ≠ 7 → j ≠ 8 → A s j = a s j) ∧ A s 6 = nI T ∧ A s 7 = nI P ∧ A s 8 = nI Q := fun j => by
    rw [hA]
    refine ⟨fun h1 h2 h3 => ?_, ?_, ?_, zup_eq _ _ _ _⟩
    · rw [zup_nj h3, zup_nj h2]
      unfold bcm
      rw [if_neg (by omega), if_neg (by omega), if_neg (by omega), if_neg (by omega)]
    · rw [zup_nj (by decide), zup_nj (by decide)]
      unfold bcm
      rw [if_pos ⟨rfl, rfl⟩]
      exact t1
    · rw [zup_nj (by decide), zup_eq]
  have sD : ∀ j, j < 610 → A (s + 1) j = a 13 j := fun j hj => by
    rw [hA, zup_ne (by omega), zup_ne (by omega)]
    unfold bcm
    rw [if_neg (by omega), if_pos ⟨rfl, hj⟩]
  have sW : ∀ k, 2 ≤ k → k ≤ 5 → ∀ j, j < 10 → A (s + k) j = a (12 + k) j := fun k h1 h2 j hj => by
    rw [hA, zup_ne (by omega), zup_ne (by omega)]
    unfold bcm
    rw [if_neg (by omega), if_neg (by omega), if_pos ⟨by omega, hj⟩, Nat.add_sub_cancel_left]
  have sH : ∀ j, j < 60 → A (s + 6) j = a 18 j := fun j hj => by
    rw [hA, zup_ne (by omega), zup_ne (by omega)]
    unfold bcm
    rw [if_neg (by omega), if_neg (by omega), if_neg (by omega), if_pos ⟨rfl, hj⟩]
  obtain ⟨-, -, -, ⟨hC1, hC2⟩, hD, hW, -, -, -, ⟨hK0, hK1, hK2⟩, -, hP, hG⟩ := id hall
  have hC1 : rSame P 0 63 (a 17) (a 196) := hC1
  have hC2 : rSame 60 0 8 (a 18) (a 198) := hC2
  have hD : rDays P Q T (a 13) (a 206) (fun p => a 206 (630 + p)) := hD
  have hW : rWork P Q T (a 14) (a 204) (a 15) (a 203) (a 16) (a 205) := hW
  have hP : rPt Q (a 15) (a 6) := hP
  have hG : rGo P (a 18) (a 3) := hG
  have new : rKept i P Q (a 3) (a 6) (F s) (F (s + 1)) (F (s + 2)) (F (s + 3)) (F (s + 4)) (F (s + 5)) (F (s + 6)) (F 233) (F 234) (F 235) (F 236) := by
    rw [lo s (by omega) (by omega), lo (s + 1) (by omega) (by omega), lo (s + 2) (by omega) (by omega), lo (s + 3) (by omega) (by omega), lo (s + 4) (by omega) (by omega), lo (s + 5) (by omega) (by omega), lo (s + 6) (by omega) (by omega)]
    refine .inr ⟨(k233 233 1 (.inl ⟨rfl, rfl⟩)).1, P, Q, T, ⟨Nat.le_refl _, Nat.le_refl _, fun p hp => ?_, fun w k hw hk => ?_⟩, g1, g2, g3, (sA 0).2.2.1, (k233 234 _ (.inr (.inl ⟨rfl, rfl⟩))).1, (sA 0).2.2.2, (k233 235 _ (.inr (.inr ⟨rfl, rfl⟩))).1, (sA 0).2.1, ?_, ?_, ?_, ?_, ?_⟩
    · rw [sW 3 (by decide) (by decide) p hp]; exact hP p hp
    · rw [sH _ (by omega)]; exact hG w k hw hk
    · rw [← ho]; exact k710
    · exact rDays_c hD g3 g2 sD (fun j hj => by rw [← ho]; exact k600 j hj) (fun j hj => by rw [← ho]; exact k610 j hj)
    · exact rWork_c hW g2 (fun j hj => ⟨sW 2 (by decide) (by decide) j hj, by rw [← ho]; exact k204 j hj, sW 3 (by decide) (by decide) j hj, by rw [← ho]; exact k203 j hj, sW 4 (by decide) (by decide) j hj, by rw [← ho]; exact k205 j hj⟩)
    · exact rSame_c hC1 (fun j hj => sW 5 (by decide) (by decide) j (by omega)) (fun j hj => by rw [← ho]; exact k196 j (by omega))
    · exact rSame_c hC2 (fun j hj => sH j hj) (fun j hj => by rw [← ho]; exact k198 j hj)
  have old : ∀ k, k < 3 → k ≠ i → rKept k P Q (a 3) (a 6) (a (173 + 7 * k)) (a (173 + 7 * k + 1)) (a (173 + 7 * k + 2)) (a (173 + 7 * k + 3)) (a (173 + 7 * k + 4)) (a (173 + 7 * k + 5)) (a (173 + 7 * k + 6)) (a 233) (a 234) (a 235) (a 236) → rKept k P Q (a 3) (a 6) (F (173 + 7 * k)) (F (173 + 7 * k + 1)) (F (173 + 7 * k + 2)) (F (173 + 7 * k + 3)) (F (173 + 7 * k + 4)) (F (173 + 7 * k + 5)) (F (173 + 7 * k + 6)) (F 233) (F 234) (F 235) (F 236) := by
    intro k hk hki h
    have e : ∀ q, 173 + 7 * k ≤ q → q ≤ 173 + 7 * k + 6 → F q = a q := fun q h1 h2 => by rw [lo q (by omega) (by omega), fA q (by omega)]
    rw [e _ (by omega) (by omega), e _ (by omega) (by omega), e _ (by omega) (by omega), e _ (by omega) (by omega), e _ (by omega) (by omega), e _ (by omega) (by omega), e _ (by omega) (by omega)]
    exact rKept_K h ((k233 233 1 (.inl ⟨rfl, rfl⟩)).2 k hki) ((k233 234 _ (.inr (.inl ⟨rfl, rfl⟩))).2 k hki) ((k233 235 _ (.inr (.inr ⟨rfl, rfl⟩))).2 k hki) (fun j hj => kout _ (by omega))
  have all : ∀ k, k < 3 → rKept k P Q (a 3) (a 6) (F (173 + 7 * k)) (F (173 + 7 * k + 1)) (F (173 + 7 * k + 2)) (F (173 + 7 * k + 3)) (F (173 + 7 * k + 4)) (F (173 + 7 * k + 5)) (F (173 + 7 * k + 6)) (F 233) (F 234) (F 235) (F 236) := by
    intro k hk
    by_cases e : k = i
    · subst e
      rw [← hs]
      exact new
    · refine old k hk e ?_
      have : k = 0 ∨ k = 1 ∨ k = 2 := by omega
      rcases this with rfl | rfl | rfl
      · exact hK0
      · exact hK1
      · exact hK2
  refine ⟨1, A, b, F, b, hX, fun j => congrFun (fA 0 (by omega)) j, hM, P, Q, T, G, N, ?_⟩
  have zlo : ∀ q, (173 ≤ q ∧ q ≤ 193) ∨ (233 ≤ q ∧ q ≤ 236) → zmask F q = F q := fun q hq => by
    by_cases c : q ≤ 210
    · exact zm_lo (.inr ⟨by omega, c, by omega⟩)
    · have : q = 233 ∨ q = 234 ∨ q = 235 ∨ q = 236 := by omega
      rcases this with rfl | rfl | rfl | rfl <;> rfl
  refine rel_kept hall (fun q hq => ?_) (fun j => ?_) ?_ ?_ ?_
  · funext j
    unfold zmask
    rw [lo q (by omega) (by omega), fA q (by omega)]
  · unfold zmask
    by_cases e1 : j = 0
    · subst e1; rfl
    · by_cases e2 : j = 65
      · subst e2; rfl
      · rw [show F 194 j = a 194 j from by rw [hF, zup_ne (by decide), s8 j e2, f4 j e1 e2, fA 194 (by omega)]]
  · have := all 0 (by decide)
    rw [zlo 173 (by decide), zlo 174 (by decide), zlo 175 (by decide), zlo 176 (by decide), zlo 177 (by decide), zlo 178 (by decide), zlo 179 (by decide), zlo 233 (by decide), zlo 234 (by decide), zlo 235 (by decide), zlo 236 (by decide)]
    exact this
  · have := all 1 (by decide)
    rw [zlo 180 (by decide), zlo 181 (by decide), zlo 182 (by decide), zlo 183 (by decide), zlo 184 (by decide), zlo 185 (by decide), zlo 186 (by decide), zlo 233 (by decide), zlo 234 (by decide), zlo 235 (by decide), zlo 236 (by decide)]
    exact this
  · have := all 2 (by decide)
    rw [zlo 187 (by decide), zlo 188 (by decide), zlo 189 (by decide), zlo 190 (by decide), zlo 191 (by decide), zlo 192 (by decide), zlo 193 (by decide), zlo 233 (by decide), zlo 234 (by decide), zlo 235 (by decide), zlo 236 (by decide)]
    exact this
