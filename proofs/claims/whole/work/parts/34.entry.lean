/-! The law's entry up to its loop, and the loop over the cases. -/
theorem zadd_2 (c x s c' x' s' : Nat) (r : zR) : zadd c x s (zadd c' x' s' r) = zadd (c + c') (x + x') (s + s') r := by
  cases r with
  | none => rfl
  | some r => obtain ⟨v, sh, a, b, c0, x0, s0⟩ := r; simp only [zadd, Nat.add_assoc]
def zAin (L : Nat) (xs : Nat → Int32) : zA := fun q j => if q = 0 then (if j = 1000000 then Int32.ofNat L else xs j) else 0
def zA0 (L : Nat) (xs : Nat → Int32) : zA := zup (zst_ 187 188 (zst_ 180 181 (zst_ 173 174 (zst_ 12 13 (zAin L xs))))) 194 37 (-1)
set_option maxRecDepth 100000 in
theorem zg_0 (a : zA) (b : zB) : zr zM zprm 291 31 (0, [.ref 0, .retAddr 0, .retAddr 0, .retAddr 0, .retAddr 0, .retAddr 0, .retAddr 0], [], [(25, 0, [])], a, b) = zCNT 13 (zCA zM (zr zM zprm) 104 [.ref 1] zs_0 (zzA a 1) (zzB b 1) (fun sh a b => zr zM zprm 291 31 (7, [.ref 0, .retAddr 0, .retAddr 0, .retAddr 0, .retAddr 0, .retAddr 0, .retAddr 0], [.ref 1], sh, a, b))) := (zr_run2 (mi := zm_291) rfl 400 _).trans rfl
set_option maxRecDepth 100000 in
theorem zg_7 (a : zA) (b : zB) : zr zM zprm 291 31 (7, [.ref 0, .retAddr 0, .retAddr 0, .retAddr 0, .retAddr 0, .retAddr 0, .retAddr 0], [.ref 1], zs_1, a, b) = zCNT 66 (zCA zM (zr zM zprm) 286 [.ref 194] zs_277 (zzA a 194) (zzB b 194) (fun sh a b => zr zM zprm 291 31 (15, [.ref 0, .ref 1, .retAddr 0, .retAddr 0, .retAddr 0, .retAddr 0, .retAddr 0], [.ref 194], sh, a, b))) := (zr_run2 (mi := zm_291) rfl 400 _).trans rfl
set_option maxRecDepth 100000 in
theorem zg_15 (a : zA) (b : zB) : zr zM zprm 291 31 (15, [.ref 0, .ref 1, .retAddr 0, .retAddr 0, .retAddr 0, .retAddr 0, .retAddr 0], [.ref 194], zs_278, a, b) = zCNT 1 (Z_law_23 0 (zzA a 237) (zzB b 237)) := (zr_run2 (mi := zm_291) rfl 400 _).trans rfl
set_option maxRecDepth 100000 in
theorem zentry (L : Nat) (xs : Nat → Int32) : zr zM zprm 291 31 (0, [.ref 0, .retAddr 0, .retAddr 0, .retAddr 0, .retAddr 0, .retAddr 0, .retAddr 0], [], [(25, 0, [])], zAin L xs, fun _ _ => 0) = zadd 237 0 262519 (Z_law_23 0 (zA0 L xs) (fun _ _ => 0)) := by
  have h1 : ∀ q j, 1 ≤ q → zAin L xs q j = 0 := fun q j h => by unfold zAin; rw [if_neg (by omega)]
  have h2 : ∀ q j, 194 ≤ q → (zst_ 187 188 (zst_ 180 181 (zst_ 173 174 (zst_ 12 13 (zAin L xs))))) q j = 0 := fun q j h => by
    rw [zst_ne (by omega) (by omega) (by omega), zst_ne (by omega) (by omega) (by omega), zst_ne (by omega) (by omega) (by omega), zst_ne (by omega) (by omega) (by omega)]
    exact h1 q j (by omega)
  have h3 : ∀ q j, 237 ≤ q → zA0 L xs q j = 0 := fun q j h => by
    unfold zA0
    rw [zup_ne (by omega)]
    exact h2 q j (by omega)
  refine (zg_0 (zAin L xs) (fun _ _ => 0)).trans ?_
  rw [zzA_z h1 1 (Nat.le_refl _), zzB_z (n := 1) (fun _ _ _ => rfl) 1 (Nat.le_refl _), zCA_ok (ct_1 _ _ h1 (fun _ _ _ => rfl)) rfl, zg_7]
  rw [zzA_z h2 194 (Nat.le_refl _), zzB_z (n := 194) (fun _ _ _ => rfl) 194 (Nat.le_refl _), zCA_ok (ct_140 _ _ h2 (fun _ _ _ => rfl)) rfl, zg_15]
  rw [zzB_z (n := 237) (fun _ _ _ => rfl) 237 (Nat.le_refl _)]
  have e := zzA_z h3 237 (Nat.le_refl _)
  unfold zA0 at e
  rw [e]
  unfold zCNT
  rw [zadd_2, zadd_2, zadd_2, zadd_2]
  rfl
/-- the run ends with 1, with at most n refusals in it -/
def zOK (n : Nat) (r : zR) : Prop := ∃ sh a b x s, r = some (some (.int 1), sh, a, b, 0, x, s) ∧ x ≤ n ∧ s ≤ 6 * n
theorem zOK_mono {n m : Nat} {r : zR} (h : n ≤ m) (k : zOK n r) : zOK m r := by
  obtain ⟨sh, a, b, x, s, e, h1, h2⟩ := k
  exact ⟨sh, a, b, x, s, e, by omega, by omega⟩
/-- one case of the law's loop: whatever Rel holds of, the case goes on to a memory that Rel holds of -/
def zCase (L : Nat) (Rel : zA → zB → Prop) (K : Int32 → zA → zB → zR) : Prop := ∀ (n i : Nat) (a : zA) (b : zB), i + 5 ≤ L → Rel a b → (∀ a' b', Rel a' b' → zOK n (Z_law_1462 (nI i) a' b')) → zOK (n + 1) (K (nI i) a b)
noncomputable def zKs : List (Int32 → zA → zB → zR) := [Z_law_240, Z_law_277, Z_law_354, Z_law_379, Z_law_404, Z_law_417, Z_law_454, Z_law_491, Z_law_528, Z_law_565, Z_law_626, Z_law_639, Z_law_652, Z_law_689, Z_law_714, Z_law_727, Z_law_752, Z_law_765, Z_law_778, Z_law_803, Z_law_828, Z_law_841, Z_law_854, Z_law_879, Z_law_904, Z_law_929, Z_law_966, Z_law_1003, Z_law_1028, Z_law_1041, Z_law_1054, Z_law_1067, Z_law_1080, Z_law_1093, Z_law_1118, Z_law_1131, Z_law_1168, Z_law_1193, Z_law_1206, Z_law_1231, Z_law_1268, Z_law_1293, Z_law_1318, Z_law_1331, Z_law_1356, Z_law_1381, Z_law_1406]
theorem zZ_1462 (i : Nat) (a : zA) (b : zB) : Z_law_1462 (nI i) a b = Z_law_23 (nI (i + 5)) a b := by
  rw [q_Z_law_1462]
  show Z_law_23 (nI i + nI 5) a b = _
  rw [nI_add]
theorem zOK_c {n : Nat} {c : Bool} {x y : zR} (hx : c = true → zOK n x) (hy : c = false → zOK n y) : zOK n (cond c x y) := by
  cases c with
  | true => exact hx rfl
  | false => exact hy rfl
set_option maxRecDepth 100000 in
theorem zloop {L : Nat} (hL : L ≤ 2560) {Rel : zA → zB → Prop} (hS : ∀ a b, Rel a b → a 0 1000000 = nI L) (hK : ∀ K ∈ zKs, zCase L Rel K) : ∀ (n i : Nat) (a : zA) (b : zB), i ≤ 2600 → L ≤ i + 5 * n → Rel a b → zOK n (Z_law_23 (nI i) a b) := by
  intro n
  induction n with
  | zero =>
    intro i a b hi h hr
    have e : a 0 1000000 = nI L := hS a b hr
    have e5 : nI L - nI 5 < nI i := by
      rw [Int32.lt_iff_toInt_lt, pk_sub_toInt (by omega) (by omega), nI_toInt (by omega)]
      omega
    rw [q_Z_law_23, e, nI_clamp (n := L) (by omega), decide_eq_true (show Int32.ofNat L - 5 < nI i from e5)]
    exact ⟨_, _, _, 0, 0, rfl, Nat.zero_le _, Nat.zero_le _⟩
  | succ n ih =>
    intro i a b hi h hr
    have e : a 0 1000000 = nI L := hS a b hr
    rw [q_Z_law_23, e, nI_clamp (n := L) (by omega)]
    refine zOK_c (fun _ => ⟨_, _, _, 0, 0, rfl, Nat.zero_le _, Nat.zero_le _⟩) (fun hc => ?_)
    have hlt : i + 5 ≤ L := by
      have e5 : ¬ (nI L - nI 5 < nI i) := of_decide_eq_false hc
      rw [Int32.lt_iff_toInt_lt, pk_sub_toInt (by omega) (by omega), nI_toInt (by omega)] at e5
      omega
    have hgo : ∀ a' b', Rel a' b' → zOK n (Z_law_1462 (nI i) a' b') := fun a' b' hr' => by
      rw [zZ_1462]
      exact ih (i + 5) a' b' (by omega) (by omega) hr'
    have go : ∀ K ∈ zKs, zOK (n + 1) (K (nI i) a b) := fun K hk => hK K hk n i a b hlt hr hgo
    refine zOK_c (fun _ => ?_) (fun hz => absurd hz (by rw [zin_nI (by omega) (by omega)]; decide))
    unfold zKs at go
    simp only [List.mem_cons, List.not_mem_nil, or_false, forall_eq_or_imp, forall_eq] at go
    obtain ⟨g0, g1, g2, g3, g4, g5, g6, g7, g8, g9, g10, g11, g12, g13, g14, g15, g16, g17, g18, g19, g20, g21, g22, g23, g24, g25, g26, g27, g28, g29, g30, g31, g32, g33, g34, g35, g36, g37, g38, g39, g40, g41, g42, g43, g44, g45, g46⟩ := go
    refine zOK_c (fun _ => g0) (fun _ => ?_)
    refine zOK_c (fun _ => g1) (fun _ => ?_)
    refine zOK_c (fun _ => g2) (fun _ => ?_)
    refine zOK_c (fun _ => g3) (fun _ => ?_)
    refine zOK_c (fun _ => g4) (fun _ => ?_)
    refine zOK_c (fun _ => g5) (fun _ => ?_)
    refine zOK_c (fun _ => g6) (fun _ => ?_)
    refine zOK_c (fun _ => g7) (fun _ => ?_)
    refine zOK_c (fun _ => g8) (fun _ => ?_)
    refine zOK_c (fun _ => g9) (fun _ => ?_)
    refine zOK_c (fun _ => g10) (fun _ => ?_)
    refine zOK_c (fun _ => g11) (fun _ => ?_)
    refine zOK_c (fun _ => g12) (fun _ => ?_)
    refine zOK_c (fun _ => g13) (fun _ => ?_)
    refine zOK_c (fun _ => g14) (fun _ => ?_)
    refine zOK_c (fun _ => g15) (fun _ => ?_)
    refine zOK_c (fun _ => g16) (fun _ => ?_)
    refine zOK_c (fun _ => g17) (fun _ => ?_)
    refine zOK_c (fun _ => g18) (fun _ => ?_)
    refine zOK_c (fun _ => g19) (fun _ => ?_)
    refine zOK_c (fun _ => g20) (fun _ => ?_)
    refine zOK_c (fun _ => g21) (fun _ => ?_)
    refine zOK_c (fun _ => g22) (fun _ => ?_)
    refine zOK_c (fun _ => g23) (fun _ => ?_)
    refine zOK_c (fun _ => g24) (fun _ => ?_)
    refine zOK_c (fun _ => g25) (fun _ => ?_)
    refine zOK_c (fun _ => g26) (fun _ => ?_)
    refine zOK_c (fun _ => g27) (fun _ => ?_)
    refine zOK_c (fun _ => g28) (fun _ => ?_)
    refine zOK_c (fun _ => g29) (fun _ => ?_)
    refine zOK_c (fun _ => g30) (fun _ => ?_)
    refine zOK_c (fun _ => g31) (fun _ => ?_)
    refine zOK_c (fun _ => g32) (fun _ => ?_)
    refine zOK_c (fun _ => g33) (fun _ => ?_)
    refine zOK_c (fun _ => g34) (fun _ => ?_)
    refine zOK_c (fun _ => g35) (fun _ => ?_)
    refine zOK_c (fun _ => g36) (fun _ => ?_)
    refine zOK_c (fun _ => g37) (fun _ => ?_)
    refine zOK_c (fun _ => g38) (fun _ => ?_)
    refine zOK_c (fun _ => g39) (fun _ => ?_)
    refine zOK_c (fun _ => g40) (fun _ => ?_)
    refine zOK_c (fun _ => g41) (fun _ => ?_)
    refine zOK_c (fun _ => g42) (fun _ => ?_)
    refine zOK_c (fun _ => g43) (fun _ => ?_)
    refine zOK_c (fun _ => g44) (fun _ => ?_)
    refine zOK_c (fun _ => g45) (fun _ => ?_)
    refine zOK_c (fun _ => g46) (fun _ => ?_)
    exact zOK_mono (Nat.le_succ n) (hgo a b hr)
/-- what the cases leave to be shown -/
theorem zrunok {L : Nat} (hL : L ≤ 2560) {xs : Nat → Int32} {Rel : zA → zB → Prop} (hS : ∀ a b, Rel a b → a 0 1000000 = nI L) (hK : ∀ K ∈ zKs, zCase L Rel K) (h0 : Rel (zA0 L xs) (fun _ _ => 0)) :
    ∃ n r, zev zM zprm n 291 31 (0, [.ref 0, .retAddr 0, .retAddr 0, .retAddr 0, .retAddr 0, .retAddr 0, .retAddr 0], [], [(25, 0, [])], zAin L xs, fun _ _ => 0) = some r ∧ r.1 = some (.int 1) ∧ r.2.2.2.2.1 + r.2.2.2.2.2.1 ≤ 601024 ∧ r.2.2.2.2.2.2 ≤ 7293034 := by
  obtain ⟨sh, a, b, x, s, e, h1, h2⟩ := zloop hL hS hK 512 0 _ _ (by omega) (by omega) h0
  have e2 := zentry L xs
  rw [show (0 : Int32) = nI 0 from rfl, e] at e2
  obtain ⟨n, hn⟩ := zr_ex e2
  exact ⟨n, _, hn, rfl, by show 237 + 0 + (0 + x) ≤ 601024; omega, by show 262519 + s ≤ 7293034; omega⟩
