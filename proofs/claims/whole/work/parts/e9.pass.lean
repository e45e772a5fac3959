/-! To drop, until nothing changes, those from which none of the rest follows. -/
def psN (n : Nat) (R : Nat → Nat → Bool) (i : Nat) (s : (Nat → Bool) × Bool) : (Nat → Bool) × Bool := cond (s.1 i && !aF (fun j => R i j && s.1 j) 0 n) (fun x => s.1 x && !decide (x = i), true) s
def clN (n : Nat) (R : Nat → Nat → Bool) (V : Nat → Bool) : Prop := ∀ i, i < n → V i = true → ∃ j, j < n ∧ R i j = true ∧ V j = true
def psA (n : Nat) (R : Nat → Nat → Bool) (U : Nat → Bool) : (Nat → Bool) × Bool := fF (psN n R) 0 n (U, false)
theorem cnt_del {U : Nat → Bool} {i : Nat} : ∀ n, i < n → U i = true → cnt (fun x => U x && !decide (x = i)) n + 1 = cnt U n
  | 0, h, _ => absurd h (Nat.not_lt_zero _)
  | n + 1, h, g => by
    unfold cnt
    by_cases c : i = n
    · have e : cnt (fun x => U x && !decide (x = i)) n = cnt U n := cnt_c n (fun x hx => by
        rw [decide_eq_false (show ¬ x = i by omega), Bool.not_false, Bool.and_true])
      rw [e, ← c, g, decide_eq_true rfl]
      rfl
    · have ih := cnt_del (U := U) n (by omega) g
      rw [decide_eq_false (show ¬ n = i by omega), Bool.not_false, Bool.and_true]
      omega
theorem ps_inv {n : Nat} {R : Nat → Nat → Bool} {U : Nat → Bool} (I : Nat → (Nat → Bool) × Bool → Prop) (h0 : I 0 (U, false)) (h1 : ∀ i s, i < n → I i s → s.1 i = true → (∀ j, j < n → R i j = true → s.1 j = false) → I (i + 1) (fun x => s.1 x && !decide (x = i), true)) (h2 : ∀ i s, i < n → I i s → (s.1 i = true → ∃ j, j < n ∧ R i j = true ∧ s.1 j = true) → I (i + 1) s) : I n (psA n R U) := by
  refine fF_inv (st := psN n R) I (fun i s hi hI => ?_) n 0 (U, false) (Nat.zero_add _) h0
  unfold psN
  cases c : s.1 i
  · exact h2 i s hi hI (fun z => by rw [c] at z; exact absurd z (by decide))
  · cases d : aF (fun j => R i j && s.1 j) 0 n
    · refine h1 i s hi hI c (fun j hj hr => Bool.eq_false_iff.mpr fun z => ?_)
      have : aF (fun j => R i j && s.1 j) 0 n = true := (aF_i _ _).mpr ⟨j, Nat.zero_le _, by omega, by rw [hr, z]; rfl⟩
      rw [d] at this
      exact absurd this (by decide)
    · refine h2 i s hi hI (fun _ => ?_)
      obtain ⟨j, _, hj, g⟩ := (aF_i _ _).mp d
      rw [Bool.and_eq_true] at g
      exact ⟨j, by omega, g.1, g.2⟩
theorem ps_sub {n : Nat} {R : Nat → Nat → Bool} {U : Nat → Bool} : ∀ x, (psA n R U).1 x = true → U x = true :=
  ps_inv (fun _ s => ∀ x, s.1 x = true → U x = true) (fun _ h => h) (fun i s _ h _ _ x hx => h x (by
    have : (s.1 x && !decide (x = i)) = true := hx
    rw [Bool.and_eq_true] at this
    exact this.1)) (fun _ _ _ h _ => h)
theorem ps_keep {n : Nat} {R : Nat → Nat → Bool} {U V : Nat → Bool} (hV : ∀ i, i < n → V i = true → U i = true) (hc : clN n R V) : ∀ x, x < n → V x = true → (psA n R U).1 x = true :=
  ps_inv (fun _ s => ∀ x, x < n → V x = true → s.1 x = true) hV (fun i s hi h h3 h4 x hx hv => by
    show (s.1 x && !decide (x = i)) = true
    rw [h x hx hv, Bool.true_and]
    by_cases c : x = i
    · subst c
      obtain ⟨j, g1, g2, g3⟩ := hc x hx hv
      have := h4 j g1 g2
      rw [h j g1 g3] at this
      exact absurd this (by decide)
    · rw [decide_eq_false c]; rfl) (fun _ _ _ h _ => h)
theorem ps_stay {n : Nat} {R : Nat → Nat → Bool} {U : Nat → Bool} : (psA n R U).2 = false → (psA n R U).1 = U ∧ clN n R U := by
  have := ps_inv (n := n) (R := R) (U := U) (fun i s => s.2 = false → s.1 = U ∧ ∀ x, x < i → U x = true → ∃ j, j < n ∧ R x j = true ∧ U j = true) (fun _ => ⟨rfl, fun x hx => absurd hx (Nat.not_lt_zero _)⟩) (fun _ _ _ _ _ _ h => absurd (show true = false from h) (by decide)) (fun i s hi h g hs => by
    obtain ⟨e1, e2⟩ := h hs
    refine ⟨e1, fun x hx hu => ?_⟩
    by_cases c : x = i
    · subst c
      rw [e1] at g
      exact g hu
    · exact e2 x (by omega) hu)
  exact this
theorem ps_less {n : Nat} {R : Nat → Nat → Bool} {U : Nat → Bool} : cnt (psA n R U).1 n ≤ cnt U n ∧ ((psA n R U).2 = true → cnt (psA n R U).1 n < cnt U n) :=
  ps_inv (fun _ s => cnt s.1 n ≤ cnt U n ∧ (s.2 = true → cnt s.1 n < cnt U n)) ⟨Nat.le_refl _, fun h => absurd (show false = true from h) (by decide)⟩ (fun i s hi h g _ => by
    have := cnt_del (U := s.1) n hi g
    have h1 := h.1
    constructor
    · show cnt (fun x => s.1 x && !decide (x = i)) n ≤ _
      omega
    · intro _
      show cnt (fun x => s.1 x && !decide (x = i)) n < _
      omega) (fun _ _ _ h _ => h)
/-- the greatest set within one that is closed -/
def GF (n : Nat) (R : Nat → Nat → Bool) (U U' : Nat → Bool) : Prop := (∀ i, i < n → U' i = true → U i = true) ∧ clN n R U' ∧ ∀ V : Nat → Bool, (∀ i, i < n → V i = true → U i = true) → clN n R V → ∀ i, i < n → V i = true → U' i = true
theorem gf_step {n : Nat} {R : Nat → Nat → Bool} {U U' : Nat → Bool} (h : GF n R (psA n R U).1 U') : GF n R U U' :=
  ⟨fun i hi hu => ps_sub i (h.1 i hi hu), h.2.1, fun V hV hc => h.2.2 V (fun i hi hv => ps_keep hV hc i hi hv) hc⟩
theorem gf_end {n : Nat} {R : Nat → Nat → Bool} {U : Nat → Bool} (h : (psA n R U).2 = false) : GF n R U (psA n R U).1 := by
  obtain ⟨h1, h2⟩ := ps_stay h
  rw [h1]
  exact ⟨fun _ _ h => h, h2, fun V hV _ => hV⟩
theorem cnt_pad {U : Nat → Bool} {N : Nat} : ∀ k, cnt (fun n => decide (n < N) && U n) (N + k) = cnt U N
  | 0 => cnt_c N (fun i hi => by rw [decide_eq_true hi, Bool.true_and])
  | k + 1 => by
    show cnt (fun n => decide (n < N) && U n) (N + k) + cond (decide (N + k < N) && U (N + k)) 1 0 = _
    rw [cnt_pad k, decide_eq_false (show ¬ N + k < N by omega)]
    rfl
theorem cnt_128 {U g : Nat → Bool} {N : Nat} (hN : N ≤ 120) (h : ∀ n, n < 128 → g n = (decide (n < N) && U n)) : cnt g 128 = cnt U N := by
  rw [cnt_c 128 h, show 128 = N + (128 - N) by omega, cnt_pad]
/-- both sets are one -/
theorem gf_emb {n m : Nat} {ok : Nat → Bool} {e : Nat → Nat} {R R' : Nat → Nat → Bool} {U U' G : Nat → Bool} (he : embO n m ok e) (hR : ∀ k k', k < m → k' < m → R' k k' = R (e k) (e k')) (hU : ∀ i, i < n → U i = ok i) (h1 : GF n R U U') (h2 : GF m R' (fun _ => true) G) : cnt U' n = cnt G m := by
  obtain ⟨a1, a2, a3⟩ := h1
  obtain ⟨-, g2, g3⟩ := h2
  have up : ∀ k, k < m → U' (e k) = true → G k = true := g3 (fun k => U' (e k)) (fun _ _ _ => rfl) (fun k hk hu => by
    obtain ⟨j, j1, j2, j3⟩ := a2 (e k) (he.1 k hk).1 hu
    have oj : ok j = true := by rw [← hU j j1]; exact a1 j j1 j3
    obtain ⟨k', k1, k2⟩ := he.2.2 j j1 oj
    exact ⟨k', k1, by rw [hR k k' hk k1, k2]; exact j2, by show U' (e k') = true; rw [k2]; exact j3⟩)
  have dn : ∀ k, k < m → G k = true → U' (e k) = true := fun k hk hg => by
    refine a3 (fun i => cB (∃ k, k < m ∧ e k = i ∧ G k = true)) (fun i hi hv => ?_) (fun i hi hv => ?_) (e k) (he.1 k hk).1 (cB_t ⟨k, hk, rfl, hg⟩)
    · obtain ⟨k', k1, k2, -⟩ := cB_i.mp hv
      rw [hU i hi, ← k2]
      exact (he.1 k' k1).2
    · obtain ⟨k', k1, k2, k3⟩ := cB_i.mp hv
      obtain ⟨k'', j1, j2, j3⟩ := g2 k' k1 k3
      exact ⟨e k'', (he.1 k'' j1).1, by rw [← k2, ← hR k' k'' k1 j1]; exact j2, cB_t ⟨k'', j1, rfl, j3⟩⟩
  have c1 : cnt U' n = cnt (fun i => ok i && U' i) n := cnt_c n (fun i hi => by
    cases c : U' i
    · rw [Bool.and_false]
    · rw [← hU i hi, a1 i hi c]; rfl)
  rw [c1, emb_cnt n m he]
  refine cnt_c m (fun k hk => ?_)
  rw [Bool.eq_iff_iff]
  exact ⟨up k hk, dn k hk⟩
/-! The class: lasting. -/
def UB (N : Nat) (U : Nat → Bool) (b : zB) : Prop := ∀ n, n < 128 → hK b 41 n = (decide (n < N) && U n)
def nxB (N : Nat) (R : Nat → Nat → Bool) (b : zB) : Prop := ∀ i, i < N → ∀ j, j < 128 → hK b (48 + i) j = (decide (j < N) && R i j)
theorem nx_f {N : Nat} {R : Nat → Nat → Bool} {b b' : zB} (h : nxB N R b) (e : ∀ q, 48 ≤ q → b' q = b q) : nxB N R b' := fun i hi j hj => by
  rw [hK_q (e (48 + i) (by omega))]
  exact h i hi j hj
theorem meets_in {N : Nat} {f g : Nat → Bool} {p q : Nat → Bool} (hN : N ≤ 120) (hp : ∀ n, n < 128 → p n = (decide (n < N) && f n)) (hq : ∀ n, n < 128 → q n = (decide (n < N) && g n)) : aF (fun n => p n && q n) 0 128 = aF (fun j => f j && g j) 0 N := by
  rw [Bool.eq_iff_iff, aF_i, aF_i]
  constructor
  · rintro ⟨i, _, h1, h2⟩
    rw [hp i (by omega), hq i (by omega), Bool.and_eq_true, Bool.and_eq_true, Bool.and_eq_true, decide_eq_true_iff] at h2
    exact ⟨i, Nat.zero_le _, by omega, by rw [h2.1.2, h2.2.2]; rfl⟩
  · rintro ⟨i, _, h1, h2⟩
    rw [Bool.and_eq_true] at h2
    exact ⟨i, Nat.zero_le _, by omega, by rw [hp i (by omega), hq i (by omega), h2.1, h2.2, decide_eq_true (show i < N by omega)]; rfl⟩
theorem x_pass {N t : Nat} {R : Nat → Nat → Bool} {A : zA} (hN : N ≤ 120) (h18 : A 35 18 = nI N) : ∀ k i s b, i + k = N → nxB N R b → UB N s.1 b → ∃ b', R_lasting_24 (bI s.2) (nI t) (nI i) A b = R_lasting_9 (bI (fF (psN N R) i k s).2) (nI (t + 1)) A b' ∧ UB N (fF (psN N R) i k s).1 b' ∧ ∀ q, q ≠ 41 → b' q = b q := by
  intro k
  induction k with
  | zero =>
    intro i s b e hn hU
    have : i = N := by omega
    subst this
    refine ⟨b, ?_, hU, fun _ _ => rfl⟩
    rw [q_R_lasting_24, h18, zcond_f (nI_nlt (Nat.le_refl _) (by omega)), nI_1]
    rfl
  | succ k ih =>
    intro i s b e hn hU
    have hi : i < N := by omega
    have nx : ∀ (v : Bool) b, R_lasting_73 (bI v) (nI t) (nI i) A b = R_lasting_24 (bI v) (nI t) (nI (i + 1)) A b := fun v b => by rw [q_R_lasting_73, nI_1]
    have e1 : R_lasting_24 (bI s.2) (nI t) (nI i) A b = cond (s.1 i && !aF (fun j => R i j && s.1 j) 0 N) (zcV (K_remove 41 (nI i) A b) (fun a3 b3 => R_lasting_73 1 (nI t) (nI i) a3 b3)) (R_lasting_24 (bI s.2) (nI t) (nI (i + 1)) A b) := by
      rw [q_R_lasting_24, h18, zcond_t (nI_lt hi (by omega)), k_has kc_41 (by omega), zcI_ok, zc_b0, hU i (by omega), decide_eq_true hi, Bool.true_and, zin_nI (n := 120) (by omega) (by decide), show (nI i).toNatClampNeg = i from nI_clamp (by omega), kc_rs (by omega), kc_rg (by omega), kc_k (by omega), k_meets (kc_k (by omega)) kc_41, zcI_ok, zc_b0, meets_in hN (hn i hi) hU, nx]
      cases s.1 i <;> cases aF (fun j => R i j && s.1 j) 0 N <;> rfl
    rw [e1]
    show ∃ b', _ = R_lasting_9 (bI (fF (psN N R) (i + 1) k (psN N R i s)).2) (nI (t + 1)) A b' ∧ UB N (fF (psN N R) (i + 1) k (psN N R i s)).1 b' ∧ _
    unfold psN
    cases c : s.1 i && !aF (fun j => R i j && s.1 j) 0 N
    · exact ih (i + 1) s b (by omega) hn hU
    · obtain ⟨b1, y1, y2, y3⟩ := k_remove (m := i) kc_41 (by omega) A b
      obtain ⟨b', z1, z2, z3⟩ := ih (i + 1) (fun x => s.1 x && !decide (x = i), true) b1 (by omega) (nx_f hn (fun q hq => y3 q (by omega))) (fun n h => by
        show hK b1 41 n = (decide (n < N) && (s.1 n && !decide (n = i)))
        rw [y2 n h, hU n h, Bool.and_assoc])
      refine ⟨b', ?_, z2, fun q hq => (z3 q hq).trans (y3 q hq)⟩
      rw [cond_true, y1, zcV_ok, show (1 : Int32) = bI true from rfl, nx]
      exact z1
theorem x_last {N : Nat} {R : Nat → Nat → Bool} {A : zA} (hN : N ≤ 120) (h18 : A 35 18 = nI N) : ∀ m t U b, cnt U N ≤ m → t + m ≤ 120 → nxB N R b → UB N U b → ∃ b' U', R_lasting_9 1 (nI t) A b = okI (nI (cnt U' N)) A b' ∧ GF N R U U' ∧ UB N U' b' ∧ ∀ q, q ≠ 41 → b' q = b q := by
  intro m
  induction m with
  | zero =>
    intro t U b hm ht hn hU
    obtain ⟨b', y1, y2, y3⟩ := x_pass (t := t) hN h18 N 0 (U, false) b (Nat.zero_add _) hn hU
    have l := (ps_less (n := N) (R := R) (U := U)).2
    have nc : (psA N R U).2 = false := by
      cases c : (psA N R U).2
      · rfl
      · have := l c
        omega
    refine ⟨b', (psA N R U).1, ?_, gf_end nc, y2, y3⟩
    rw [q_R_lasting_9, zcond_f (show ¬ (120 : Int32) < nI t from nI_nlt (a := 120) (by omega) (by decide)), zcond_f (show ¬ (1 : Int32) = 0 by decide), show R_lasting_24 0 (nI t) 0 A b = R_lasting_9 (bI (psA N R U).2) (nI (t + 1)) A b' from y1, nc, q_R_lasting_9, zcond_t (show bI false = 0 from rfl), q_R_lasting_85, k_size kc_41, zcI_ok, cnt_128 hN y2]
    cases decide ((120 : Int32) < nI (t + 1))
    · exact okI_ret _ _ _
    · exact okI_ret _ _ _
  | succ m ih =>
    intro t U b hm ht hn hU
    obtain ⟨b', y1, y2, y3⟩ := x_pass (t := t) hN h18 N 0 (U, false) b (Nat.zero_add _) hn hU
    have l := (ps_less (n := N) (R := R) (U := U)).2
    have e0 : R_lasting_9 1 (nI t) A b = R_lasting_9 (bI (psA N R U).2) (nI (t + 1)) A b' := by
      rw [q_R_lasting_9, zcond_f (show ¬ (120 : Int32) < nI t from nI_nlt (a := 120) (by omega) (by decide)), zcond_f (show ¬ (1 : Int32) = 0 by decide)]
      exact y1
    cases nc : (psA N R U).2
    · refine ⟨b', (psA N R U).1, ?_, gf_end nc, y2, y3⟩
      rw [e0, nc, q_R_lasting_9, zcond_t (show bI false = 0 from rfl), q_R_lasting_85, k_size kc_41, zcI_ok, cnt_128 hN y2]
      cases decide ((120 : Int32) < nI (t + 1))
      · exact okI_ret _ _ _
      · exact okI_ret _ _ _
    · have := l nc
      obtain ⟨b2, U2, z1, z2, z3, z4⟩ := ih (t + 1) (psA N R U).1 b' (by omega) (by omega) (nx_f hn (fun q hq => y3 q (by omega))) y2
      refine ⟨b2, U2, ?_, gf_step z2, z3, fun q hq => (z4 q hq).trans (y3 q hq)⟩
      rw [e0, nc]
      exact z1
