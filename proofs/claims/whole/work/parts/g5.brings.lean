/-! The reference: the most parts. -/
def FWr (T : Nat) (C C0 : zA) : Prop := (∀ q, q ≠ 194 → q ≠ 206 → q ≠ 229 → q ≠ 230 → q ≠ 231 → C q = C0 q) ∧ (∀ j, j ≠ 58 → C 194 j = C0 194 j) ∧ ∀ j, j < 10 * T ∨ 630 ≤ j → C 206 j = C0 206 j
theorem vw_W {P Q T W S : Nat} {a C C0 : zA} (h : vw P Q T W S a C0) (g : FWr T C C0) : vw P Q T W S a C := by
  obtain ⟨h1, ⟨⟨n1, n2⟩, ⟨n3, n4⟩, ⟨n5, n6⟩, ⟨n7, n8⟩, n9, n10⟩, ⟨r1, r2, K, k1, k2, k3, k4⟩, ⟨d1, d2, d3, d4, d5⟩, h5, h6⟩ := h
  obtain ⟨g1, g2, g3⟩ := g
  have hQ := h1.2.1
  refine ⟨h1, ⟨⟨n1, ?_⟩, ⟨n3, ?_⟩, ⟨n5, ?_⟩, ⟨n7, ?_⟩, n9, ?_⟩, ⟨?_, ?_, K, k1, ?_, ?_, ?_⟩, ⟨fun d p e1 e2 => ?_, fun p e1 => ?_, d3, d4, d5⟩, ?_, ?_⟩
  · rw [g2 3 (by decide)]; exact n2
  · rw [g2 7 (by decide)]; exact n4
  · rw [g2 15 (by decide)]; exact n6
  · rw [g2 17 (by decide)]; exact n8
  · rw [g2 18 (by decide)]; exact n10
  · rw [g2 19 (by decide)]; exact r1
  · rw [g1 207 (by decide) (by decide) (by decide) (by decide) (by decide)]; exact r2
  · rw [g2 21 (by decide)]; exact k2
  · rw [g1 208 (by decide) (by decide) (by decide) (by decide) (by decide), g1 209 (by decide) (by decide) (by decide) (by decide) (by decide), g1 210 (by decide) (by decide) (by decide) (by decide) (by decide)]; exact k3
  · rw [g1 208 (by decide) (by decide) (by decide) (by decide) (by decide), g1 209 (by decide) (by decide) (by decide) (by decide) (by decide), g1 210 (by decide) (by decide) (by decide) (by decide) (by decide)]; exact k4
  · rw [g3 _ (by omega)]; exact d1 d p e1 e2
  · show a 13 (10 * T + p) = C 206 (630 + p)
    rw [g3 _ (by omega)]; exact d2 p e1
  · unfold vHouse
    rw [g1 197 (by decide) (by decide) (by decide) (by decide) (by decide), g1 199 (by decide) (by decide) (by decide) (by decide) (by decide), g1 200 (by decide) (by decide) (by decide) (by decide) (by decide), g1 201 (by decide) (by decide) (by decide) (by decide) (by decide), g1 202 (by decide) (by decide) (by decide) (by decide) (by decide)]; exact h5
  · rw [g1 196 (by decide) (by decide) (by decide) (by decide) (by decide), g1 198 (by decide) (by decide) (by decide) (by decide) (by decide)]; exact h6
theorem lst_mem {P Q i : Nat} {f : Nat → Nat → Bool} (hi : i < (LST f P Q).length) : ∀ q, q < Q → nd (LST f P Q) i q < P ∧ f (nd (LST f P Q) i q) q = true := fun q hq => by
  have hm := nd_mem hi
  refine ⟨enN_lt Q 0 0 _ hm q (Nat.zero_le _) (by omega), ?_⟩
  rw [lst_all] at hm
  have h2 := (List.mem_filter.mp hm).2
  rw [← lst_all] at h2
  unfold okN at h2
  rw [Bool.not_eq_true'] at h2
  cases c : f (nd (LST f P Q) i q) q
  · have : aF (fun q => !f (nd (LST f P Q) i q) q) 0 Q = true := (aF_i _ _).mpr ⟨q, Nat.zero_le _, by omega, by rw [c]; rfl⟩
    rw [h2] at this
    exact absurd this (by decide)
  · rfl
def GNm (a : zA) (Q T W S : Nat) (l : List (Nat → Nat)) (k : Nat) (c : Nat → Nat) (f : Nat) : Bool := goB a Q T W S k (fun q => nd l (c q)) (nd l f)
def VNm (a : zA) (Q : Nat) (l : List (Nat → Nat)) (k : Nat) (c : Nat → Nat) (f : Nat) : Int := if k = 0 then ((paN (a 16) (VL l f) (loN a) Q : Nat) : Int) else ((paN (VL l (c (k - 1))) (VL l f) (loN a) Q : Nat) : Int)
def brM (a : zA) (Q T W S : Nat) (l : List (Nat → Nat)) : Nat → Nat → (Nat → Nat) → Int → Int × (Nat → Nat) → Int × (Nat → Nat) := brN l.length (GNm a Q T W S l) (VNm a Q l)
def CHm (a : zA) (Q T : Nat) (l : List (Nat → Nat)) (k : Nat) (c : Nat → Nat) (C : zA) : Prop := (∀ q, q < k → C 229 q = nI (c q) ∧ c q < l.length) ∧ (∀ q p, q < k → p < Q → C 206 (10 * (T + q) + p) = nI (nd l (c q) p)) ∧ (∀ p, p < Q → C 231 p = a 16 p) ∧ ∀ q p, q < k → p < Q → C 231 (10 * (q + 1) + p) = nI (nd l (c q) p)
def SSm (n : Nat) (st : Int × (Nat → Nat)) (C : zA) : Prop := C 194 58 = kI st.1 ∧ (-1 ≤ st.1 ∧ st.1 ≤ 150) ∧ (0 ≤ st.1 → ∀ k, k < n → C 230 k = nI (st.2 k))
theorem vm_b {a : zA} {Q k : Nat} {l : List (Nat → Nat)} {c : Nat → Nat} {f : Nat} (hQ : Q ≤ 5) : 0 ≤ VNm a Q l k c f ∧ VNm a Q l k c f ≤ 50 := by
  unfold VNm
  by_cases h : k = 0
  · rw [if_pos h]
    have := paN_le (Lw := a 16) (X := VL l f) (lo := loN a) hQ
    omega
  · rw [if_neg h]
    have := paN_le (Lw := VL l (c (k - 1))) (X := VL l f) (lo := loN a) hQ
    omega
theorem m_brings {P Q T W S n : Nat} {a C0 : zA} (b : zB) (hv : vw P Q T W S a C0) (h0 : v0 C0) (hP : P ≤ 5) (hQ : Q ≤ 5) (hn : n ≤ 3) {l : List (Nat → Nat)} (el : l = LST (fAb P a) P Q) (hM : ML Q l C0) (h16 : ∀ p, p < Q → rOne P (a 16 p)) : ∀ m d k, k + m = n → m < d → ∀ c (s : Int) st C, (0 ≤ s ∧ s ≤ 50 * (k : Int)) → FWr T C C0 → CHm a Q T l k c C → SSm n st C → ∃ C', M_brings d (nI k) (nI n) (kI s) C b = okV C' b ∧ FWr T C' C0 ∧ CHm a Q T l k c C' ∧ SSm n (brM a Q T W S l m k c s st) C' := by
  have hL : l.length ≤ 120 := by rw [el]; exact lst_120 _ hP hQ
  have t60 : T ≤ 60 := hv.1.2.2.1
  have h7 : ∀ p, p < Q → C0 202 p = nI (loN a p) ∧ loN a p ≤ 10 := fun p hp => by
    obtain ⟨-, -, -, -, ⟨-, -, -, -, u5⟩, -⟩ := hv
    obtain ⟨e1, e2, e3⟩ := u5 p hp
    obtain ⟨e4, e5⟩ := nI_10 e2 e3
    exact ⟨e1.symm.trans e4, e5⟩
  intro m
  induction m with
  | zero =>
    intro d k hk hd c s st C hs hF hC hS
    obtain ⟨d, rfl⟩ : ∃ d', d = d' + 1 := ⟨d - 1, by omega⟩
    have hkn : k = n := by omega
    subst hkn
    have k47 : ∀ C, M_brings_47 d C b = okV C b := fun C => by rw [q_M_brings_47]; exact okV_ret _ _
    have bs := hS.2.1
    rw [q_M_brings, zcond_t rfl, hS.1, k47]
    unfold brM brN
    by_cases c1 : st.1 < s
    · rw [zcond_t ((kI_lt (by omega) (by omega) (by omega) (by omega)).mpr c1), decide_eq_true c1]
      obtain ⟨D, hD⟩ : ∃ D, D = zup C 194 58 (kI s) := ⟨_, rfl⟩
      rw [← hD]
      have d229 : ∀ j, D 229 j = C 229 j := fun j => by rw [hD]; exact zup_ne (by decide)
      have st1 : ∀ i, i < k → M_brings_21 d (nI k) (nI i) (zfn D 230 i (C 229)) b = M_brings_21 d (nI k) (nI (i + 1)) (zfn D 230 (i + 1) (C 229)) b := fun i hi => by
        rw [q_M_brings_21, zcond_t (nI_lt hi (by omega)), zin_nI (n := 3) (by omega) (by decide), cond_true, cond_true, show (nI i).toNatClampNeg = i from nI_clamp (by omega), congrFun (zfn_q (by decide)) i, d229, zfn_s (g := C 229), nI_1]
      have lp := lpC (F := fun i => M_brings_21 d (nI k) (nI i) (zfn D 230 i (C 229)) b) st1 k 0 (Nat.zero_add _)
      rw [show zfn D 230 0 (C 229) = D from zfn_0 _ _ _] at lp
      obtain ⟨E, hE⟩ : ∃ E, E = zfn D 230 k (C 229) := ⟨_, rfl⟩
      have eq1 : ∀ q, q ≠ 194 → q ≠ 230 → E q = C q := fun q e1 e2 => by rw [hE, zfn_q e2, hD, zup_row e1]
      have e194 : ∀ j, E 194 j = D 194 j := fun j => by rw [hE]; exact congrFun (zfn_q (by decide)) j
      refine ⟨E, ?_, ⟨fun q e1 e2 e3 e4 e5 => by rw [eq1 q e1 e4]; exact hF.1 q e1 e2 e3 e4 e5, fun j hj => by rw [e194, hD, zup_nj hj]; exact hF.2.1 j hj, fun j hj => by rw [eq1 206 (by decide) (by decide)]; exact hF.2.2 j hj⟩, ?_, ?_, ⟨?_, ?_⟩⟩
      · rw [show M_brings_21 d (nI k) 0 D b = _ from lp, ← hE, q_M_brings_21, zcond_f (nI_nlt (Nat.le_refl _) (by omega)), k47]
      · unfold CHm
        rw [eq1 229 (by decide) (by decide), eq1 206 (by decide) (by decide), eq1 231 (by decide) (by decide)]
        exact hC
      · show E 194 58 = kI s
        rw [e194, hD, zup_eq]
      · show -1 ≤ s ∧ s ≤ 150
        omega
      · intro _ q hq
        show E 230 q = nI (c q)
        rw [hE, zfn_j hq]
        exact (hC.1 q hq).1
    · rw [zcond_f (fun z => c1 ((kI_lt (by omega) (by omega) (by omega) (by omega)).mp z)), decide_eq_false c1]
      exact ⟨C, rfl, hF, hC, hS⟩
  | succ m ihm =>
    intro d k hk hd c s st C hs hF hC hS
    obtain ⟨d, rfl⟩ : ∃ d', d = d' + 1 := ⟨d - 1, by omega⟩
    have hk3 : k < 3 := by omega
    have loop : ∀ x f st C, f + x = l.length → FWr T C C0 → CHm a Q T l k c C → SSm n st C → ∃ C', M_brings_51 d (nI k) (nI n) (kI s) (nI f) C b = okV C' b ∧ FWr T C' C0 ∧ CHm a Q T l k c C' ∧ SSm n (fF (fun f st => cond (GNm a Q T W S l k c f) (brM a Q T W S l m (k + 1) (updN c k f) (s + VNm a Q l k c f) st) st) f x st) C' := by
      intro x
      induction x with
      | zero =>
        intro f st C e hF hC hS
        refine ⟨C, ?_, hF, hC, hS⟩
        rw [q_M_brings_51, hF.2.1 47 (by decide), hM.1, zcond_f (nI_nlt (by omega) (by omega))]
        exact okV_ret _ _
      | succ x ih =>
        intro f st C e hF hC hS
        have hf : f < l.length := by omega
        have nx : ∀ C, M_brings_251 d (nI k) (nI n) (kI s) (nI f) C b = M_brings_51 d (nI k) (nI n) (kI s) (nI (f + 1)) C b := fun C => by rw [q_M_brings_251, nI_1]
        have bv := vm_b (a := a) (l := l) (k := k) (c := c) (f := f) hQ
        have mem := fun q hq => lst_mem (f := fAb P a) (P := P) (Q := Q) (i := f) (by rw [← el]; exact hf) q hq
        rw [← el] at mem
        -- the day ahead is written
        obtain ⟨g, hg⟩ : ∃ g : Nat → Int32, g = fun p => nI (nd l f p) := ⟨_, rfl⟩
        have e7 : ∀ C, FWr T C C0 → C 194 7 = nI Q := fun C hF => by rw [hF.2.1 7 (by decide)]; exact hv.2.1.2.1.2
        have e15 : ∀ C, FWr T C C0 → C 194 15 = nI T := fun C hF => by rw [hF.2.1 15 (by decide)]; exact hv.2.1.2.2.1.2
        have e221 : ∀ C, FWr T C C0 → ∀ q, q < Q → C 221 (5 * f + q) = nI (nd l f q) := fun C hF q hq => by rw [hF.1 221 (by decide) (by decide) (by decide) (by decide) (by decide)]; exact hM.2 f hf q hq
        have st63 : ∀ p, p < Q → M_brings_63 d (nI k) (nI n) (kI s) (nI f) (nI p) (zfo C 206 (10 * (T + k)) p g) b = M_brings_63 d (nI k) (nI n) (kI s) (nI f) (nI (p + 1)) (zfo C 206 (10 * (T + k)) (p + 1) g) b := fun p hp => by
          have r194 : ∀ j, zfo C 206 (10 * (T + k)) p g 194 j = C 194 j := fun j => congrFun (zfo_q (by decide)) j
          have r221 : zfo C 206 (10 * (T + k)) p g 221 (5 * f + p) = g p := by rw [congrFun (zfo_q (by decide)) _, e221 C hF p hp, hg]
          rw [q_M_brings_63, r194, r194, e7 C hF, e15 C hF, zcond_t (nI_lt hp (by omega)), show (5 : Int32) * nI f + nI p = nI (5 * f + p) from s_mul 5 f p, zin_nI (n := 600) (by omega) (by decide), cond_true, nI_add, show (10 : Int32) * nI (T + k) + nI p = nI (10 * (T + k) + p) from s_mul 10 (T + k) p, zin_nI (n := 640) (by omega) (by decide), cond_true, show (nI (10 * (T + k) + p)).toNatClampNeg = 10 * (T + k) + p from nI_clamp (by omega), show (nI (5 * f + p)).toNatClampNeg = 5 * f + p from nI_clamp (by omega), r221, zfo_s, nI_1]
        have lp63 := lpC (F := fun p => M_brings_63 d (nI k) (nI n) (kI s) (nI f) (nI p) (zfo C 206 (10 * (T + k)) p g) b) st63 Q 0 (Nat.zero_add _)
        rw [show zfo C 206 (10 * (T + k)) 0 g = C from zfo_0 _ _ _ _] at lp63
        obtain ⟨D, hD⟩ : ∃ D, D = zfo C 206 (10 * (T + k)) Q g := ⟨_, rfl⟩
        have dq : ∀ q, q ≠ 206 → D q = C q := fun q hq => by rw [hD]; exact zfo_q hq
        have d206 : ∀ p, p < Q → D 206 (10 * (T + k) + p) = nI (nd l f p) := fun p hp => by rw [hD, zfo_j hp, hg]
        have d206o : ∀ j, j < 10 * (T + k) ∨ 630 ≤ j → D 206 j = C 206 j := fun j hj => by rw [hD]; exact zfo_o (by omega)
        have hFD : FWr T D C0 := ⟨fun q e1 e2 e3 e4 e5 => by rw [dq q e2]; exact hF.1 q e1 e2 e3 e4 e5, fun j hj => by rw [dq 194 (by decide)]; exact hF.2.1 j hj, fun j hj => by rw [d206o j (by omega)]; exact hF.2.2 j hj⟩
        have hCD : CHm a Q T l k c D := by
          refine ⟨?_, fun q p e1 e2 => ?_, ?_, ?_⟩
          · rw [dq 229 (by decide)]; exact hC.1
          · rw [d206o _ (by omega)]; exact hC.2.1 q p e1 e2
          · rw [dq 231 (by decide)]; exact hC.2.2.1
          · rw [dq 231 (by decide)]; exact hC.2.2.2
        have hSD : SSm n st D := ⟨by rw [dq 194 (by decide)]; exact hS.1, hS.2.1, by rw [dq 230 (by decide)]; exact hS.2.2⟩
        have vD := vw_W hv hFD
        have v0D : v0 D := ⟨by rw [hFD.2.1 37 (by decide)]; exact h0.1, by rw [hFD.2.1 38 (by decide)]; exact h0.2⟩
        have good := g_good (E := chE a T (fun q => nd l (c q))) (x := nd l f) (d := T + k) b vD v0D (by omega) (fun e q e1 e2 => by
          by_cases c1 : e < T
          · rw [ch_lo c1]
            exact vw_E vD (Nat.le_refl T) e q c1 e2
          · obtain ⟨j, rfl⟩ : ∃ j, e = T + j := ⟨e - T, by omega⟩
            rw [ch_hi]
            exact hCD.2.1 j q (by omega) e2) (fun q hq => ⟨d206 q hq, (mem q hq).1⟩) (fun p hp => by
          have := (mem p hp).2
          unfold fAb at this
          rw [Bool.and_eq_true] at this
          exact this.2)
        rw [go_bd hk3] at good
        have e51 : M_brings_51 d (nI k) (nI n) (kI s) (nI f) C b = cond (GNm a Q T W S l k c f) (M_brings_135 d (nI k) (nI n) (kI s) (nI f) 0 0 D b) (M_brings_51 d (nI k) (nI n) (kI s) (nI (f + 1)) D b) := by
          rw [q_M_brings_51, hF.2.1 47 (by decide), hM.1, zcond_t (nI_lt hf (by omega)), show M_brings_63 d (nI k) (nI n) (kI s) (nI f) 0 C b = _ from lp63, ← hD, q_M_brings_63, e7 D hFD, e15 D hFD, zcond_f (nI_nlt (Nat.le_refl _) (by omega)), nI_add, good, zcI_ok, zc_b0, nx]
          rfl
        rw [e51]
        show ∃ C', _ ∧ FWr T C' C0 ∧ CHm a Q T l k c C' ∧ SSm n (fF (fun f st => cond (GNm a Q T W S l k c f) (brM a Q T W S l m (k + 1) (updN c k f) (s + VNm a Q l k c f) st) st) (f + 1) x (cond (GNm a Q T W S l k c f) (brM a Q T W S l m (k + 1) (updN c k f) (s + VNm a Q l k c f) st) st)) C'
        cases gg : GNm a Q T W S l k c f
        · exact ih (f + 1) st D (by omega) hFD hCD hSD
        · -- the parts
          obtain ⟨Lw, hLw⟩ : ∃ Lw : Nat → Int32, Lw = fun p => if k = 0 then a 16 p else VL l (c (k - 1)) p := ⟨_, rfl⟩
          have eV : VNm a Q l k c f = ((paN Lw (VL l f) (loN a) Q : Nat) : Int) := by
            unfold VNm
            rw [hLw]
            by_cases c1 : k = 0
            · rw [if_pos c1]
              congr 1
              exact paN_c (fun p _ => (if_pos c1).symm)
            · rw [if_neg c1]
              congr 1
              exact paN_c (fun p _ => (if_neg c1).symm)
          have rL : ∀ p, p < Q → Lw p = -1 ∨ ∃ w, w < 10 ∧ Lw p = nI w := fun p hp => by
            rw [hLw]
            by_cases c1 : k = 0
            · show (if k = 0 then a 16 p else VL l (c (k - 1)) p) = -1 ∨ ∃ w, w < 10 ∧ (if k = 0 then a 16 p else VL l (c (k - 1)) p) = nI w
              rw [if_pos c1]
              rcases h16 p hp with g1 | ⟨w, g1, g2⟩
              · exact .inl g1
              · exact .inr ⟨w, by omega, g2⟩
            · show (if k = 0 then a 16 p else VL l (c (k - 1)) p) = -1 ∨ ∃ w, w < 10 ∧ (if k = 0 then a 16 p else VL l (c (k - 1)) p) = nI w
              rw [if_neg c1]
              have := lst_mem (f := fAb P a) (P := P) (Q := Q) (i := c (k - 1)) (by rw [← el]; exact (hC.1 (k - 1) (by omega)).2) p hp
              rw [← el] at this
              exact .inr ⟨nd l (c (k - 1)) p, by omega, rfl⟩
          have dL : ∀ p, p < Q → D 231 (10 * k + p) = Lw p := fun p hp => by
            rw [hLw]
            by_cases c1 : k = 0
            · show D 231 (10 * k + p) = if k = 0 then a 16 p else VL l (c (k - 1)) p
              rw [if_pos c1, c1, Nat.mul_zero, Nat.zero_add]
              exact hCD.2.2.1 p hp
            · show D 231 (10 * k + p) = if k = 0 then a 16 p else VL l (c (k - 1)) p
              rw [if_neg c1]
              have := hCD.2.2.2 (k - 1) p (by omega) hp
              rw [show k - 1 + 1 = k by omega] at this
              exact this
          have st135 : ∀ sm p, 0 ≤ p → p < Q → M_brings_135 d (nI k) (nI n) (kI s) (nI f) (nI sm) (nI p) (zfo D 231 (10 * (k + 1)) p g) b = M_brings_135 d (nI k) (nI n) (kI s) (nI f) (nI (paS Lw (VL l f) (loN a) p sm)) (nI (p + 1)) (zfo D 231 (10 * (k + 1)) (p + 1) g) b := fun sm p _ hp => by
            have r194 : ∀ j, zfo D 231 (10 * (k + 1)) p g 194 j = D 194 j := fun j => congrFun (zfo_q (by decide)) j
            have r221 : zfo D 231 (10 * (k + 1)) p g 221 (5 * f + p) = nI (nd l f p) := by rw [congrFun (zfo_q (by decide)) _, e221 D hFD p hp]
            have r202 : zfo D 231 (10 * (k + 1)) p g 202 p = nI (loN a p) := by rw [congrFun (zfo_q (by decide)) _, hFD.1 202 (by decide) (by decide) (by decide) (by decide) (by decide)]; exact (h7 p hp).1
            have r231 : zfo D 231 (10 * (k + 1)) p g 231 (10 * k + p) = Lw p := by rw [zfo_o (by omega)]; exact dL p hp
            have k195 : ∀ v : Nat, v ≤ 10 → M_brings_195 d (nI k) (nI n) (kI s) (nI f) (nI p) (nI sm) 10 (nI v) (zfo D 231 (10 * (k + 1)) p g) b = M_brings_135 d (nI k) (nI n) (kI s) (nI f) (nI (sm + (10 - v))) (nI (p + 1)) (zfo D 231 (10 * (k + 1)) (p + 1) g) b := fun v hv => by
              have e5 : (5 : Int32) * nI f + nI p = nI (5 * f + p) := s_mul 5 f p
              have e10 : (10 : Int32) * (nI k + 1) + nI p = nI (10 * (k + 1) + p) := by rw [nI_1]; exact s_mul 10 (k + 1) p
              have ev : (10 : Int32) - nI v = nI (10 - v) := pk_sub (a := 10) hv
              rw [q_M_brings_195, e5, zin_nI (n := 600) (by omega) (by decide), cond_true, e10, zin_nI (n := 40) (by omega) (by decide), cond_true, show (nI (10 * (k + 1) + p)).toNatClampNeg = 10 * (k + 1) + p from nI_clamp (by omega), show (nI (5 * f + p)).toNatClampNeg = 5 * f + p from nI_clamp (by omega), r221, ev, nI_add, nI_1, show nI (nd l f p) = g p by rw [hg], zfo_s]
            have k194 : M_brings_194 d (nI k) (nI n) (kI s) (nI f) (nI p) (nI sm) 10 (zfo D 231 (10 * (k + 1)) p g) b = M_brings_135 d (nI k) (nI n) (kI s) (nI f) (nI (sm + 10)) (nI (p + 1)) (zfo D 231 (10 * (k + 1)) (p + 1) g) b := by
              rw [q_M_brings_194]
              exact k195 0 (by decide)
            have e10k : (10 : Int32) * nI k + nI p = nI (10 * k + p) := s_mul 10 k p
            have e5 : (5 : Int32) * nI f + nI p = nI (5 * f + p) := s_mul 5 f p
            rw [q_M_brings_135, r194, e7 D hFD, zcond_t (nI_lt hp (by omega)), e10k, zin_nI (n := 40) (by omega) (by decide), cond_true, show (nI (10 * k + p)).toNatClampNeg = 10 * k + p from nI_clamp (by omega), r231, e5, zin_nI (n := 600) (by omega) (by decide), cond_true, show (nI (5 * f + p)).toNatClampNeg = 5 * f + p from nI_clamp (by omega), r221, zin_nI (n := 10) (by omega) (by decide), cond_true, show (nI p).toNatClampNeg = p from nI_clamp (by omega), r202, k194, k195 _ (h7 p hp).2]
            unfold paS
            rcases rL p hp with g1 | ⟨w, g1, g2⟩
            · rw [g1, zcond_t (show (-1 : Int32) < 0 by decide), decide_eq_true rfl]
              rfl
            · rw [g2, zcond_f (nI_pos (by omega)), decide_eq_false (nI_m1 (by omega))]
              show cond (decide (nI w = VL l f p)) _ _ = _
              cases decide (nI w = VL l f p) <;> rfl
          have lp135 := lpF (F := fun sm p => M_brings_135 d (nI k) (nI n) (kI s) (nI f) (nI sm) (nI p) (zfo D 231 (10 * (k + 1)) p g) b) (K := fun sm => M_brings_135 d (nI k) (nI n) (kI s) (nI f) (nI sm) (nI Q) (zfo D 231 (10 * (k + 1)) Q g) b) (lo := 0) (n := Q) st135 (fun _ => rfl) Q 0 0 (Nat.le_refl _) (Nat.zero_add _)
          rw [show zfo D 231 (10 * (k + 1)) 0 g = D from zfo_0 _ _ _ _] at lp135
          obtain ⟨E, hE⟩ : ∃ E, E = zup (zfo D 231 (10 * (k + 1)) Q g) 229 k (nI f) := ⟨_, rfl⟩
          have eq2 : ∀ q, q ≠ 229 → q ≠ 231 → E q = D q := fun q e1 e2 => by rw [hE, zup_row e1, zfo_q e2]
          have e231 : ∀ j, E 231 j = zfo D 231 (10 * (k + 1)) Q g 231 j := fun j => by rw [hE]; exact zup_ne (by decide)
          have e229 : ∀ j, j ≠ k → E 229 j = D 229 j := fun j hj => by rw [hE, zup_nj hj]; exact congrFun (zfo_q (by decide)) j
          have hFE : FWr T E C0 := ⟨fun q e1 e2 e3 e4 e5 => by rw [eq2 q e3 e5]; exact hFD.1 q e1 e2 e3 e4 e5, fun j hj => by rw [eq2 194 (by decide) (by decide)]; exact hFD.2.1 j hj, fun j hj => by rw [eq2 206 (by decide) (by decide)]; exact hFD.2.2 j hj⟩
          have uk : ∀ q, q < k → updN c k f q = c q := fun q hq => if_neg (by omega)
          have ue : updN c k f k = f := if_pos rfl
          have hCE : CHm a Q T l (k + 1) (updN c k f) E := by
            refine ⟨fun q hq => ?_, fun q p e1 e2 => ?_, fun p hp => ?_, fun q p e1 e2 => ?_⟩
            · by_cases c1 : q = k
              · rw [c1, ue, hE, zup_eq]; exact ⟨rfl, hf⟩
              · rw [uk q (by omega), e229 q c1]; exact hCD.1 q (by omega)
            · rw [eq2 206 (by decide) (by decide)]
              by_cases c1 : q = k
              · rw [c1, ue]; exact d206 p e2
              · rw [uk q (by omega)]; exact hCD.2.1 q p (by omega) e2
            · rw [e231, zfo_o (by omega)]; exact hCD.2.2.1 p hp
            · rw [e231]
              by_cases c1 : q = k
              · rw [c1, ue, zfo_j e2, hg]
              · rw [uk q (by omega), zfo_o (by omega)]; exact hCD.2.2.2 q p (by omega) e2
          have hSE : SSm n st E := ⟨by rw [eq2 194 (by decide) (by decide)]; exact hSD.1, hSD.2.1, by rw [eq2 230 (by decide) (by decide)]; exact hSD.2.2⟩
          obtain ⟨C2, y1, y2, y3, y4⟩ := ihm d (k + 1) (by omega) (by omega) (updN c k f) (s + VNm a Q l k c f) st E (by omega) hFE hCE hSE
          have back : CHm a Q T l k c C2 := by
            refine ⟨fun q hq => ?_, fun q p e1 e2 => ?_, y3.2.2.1, fun q p e1 e2 => ?_⟩
            · have := y3.1 q (by omega)
              rw [uk q hq] at this
              exact this
            · have := y3.2.1 q p (by omega) e2
              rw [uk q e1] at this
              exact this
            · have := y3.2.2.2 q p (by omega) e2
              rw [uk q e1] at this
              exact this
          have e135 : M_brings_135 d (nI k) (nI n) (kI s) (nI f) 0 0 D b = M_brings_51 d (nI k) (nI n) (kI s) (nI (f + 1)) C2 b := by
            rw [show M_brings_135 d (nI k) (nI n) (kI s) (nI f) 0 0 D b = _ from lp135, q_M_brings_135, congrFun (zfo_q (show 194 ≠ 231 by decide)) 7, e7 D hFD, zcond_f (nI_nlt (Nat.le_refl _) (by omega)), zin_nI (n := 3) hk3 (by decide), cond_true, show (nI k).toNatClampNeg = k from nI_clamp (by omega), ← hE, nI_1, show kI s + nI (fF (paS Lw (VL l f) (loN a)) 0 Q 0) = kI (s + VNm a Q l k c f) by rw [eV, ← kI_add, kI_n]; rfl, y1, zcV_ok, nx]
          rw [cond_true, cond_true, e135]
          exact ih (f + 1) _ C2 (by omega) y2 back y4
    rw [q_M_brings, zcond_f (show ¬ nI k = nI n from fun z => by have := (nI_eq (by omega) (by omega)).mp z; omega)]
    exact loop l.length 0 st C (Nat.zero_add _) hF hC hS
