/-! The constructors, by segments. -/
set_option maxRecDepth 100000 in
theorem ct_2_r (a : zA) (b : zB) : zr zM zprm 13 31 (0, [.ref 2], [], zs_2, a, b) = some (none, zs_3, zzA (zzA (zzA (zzA (zzA a 3) 4) 5) 6) 7, zzB (zzB (zzB (zzB (zzB b 3) 4) 5) 6) 7, 5, 0, 50) := (zr_run (mi := zm_13) rfl 400 _).trans rfl
set_option maxRecDepth 100000 in
theorem ct_2 (a : zA) (b : zB) (h : ∀ q j, 2 ≤ q → a q j = 0) (hb : ∀ q j, 2 ≤ q → b q j = 0) : zent zM (zr zM zprm) 13 31 [.ref 2] zs_2 a b = some (none, zs_3, a, b, 5, 0, 50) := by
  refine (zent_eq (M := zM) (mi := zm_13) rfl rfl).trans ((ct_2_r a b).trans ?_)
  rw [zzA_z h 3 (by decide), zzB_z hb 3 (by decide)]
  rw [zzA_z h 4 (by decide), zzB_z hb 4 (by decide)]
  rw [zzA_z h 5 (by decide), zzB_z hb 5 (by decide)]
  rw [zzA_z h 6 (by decide), zzB_z hb 6 (by decide)]
  rw [zzA_z h 7 (by decide), zzB_z hb 7 (by decide)]
set_option maxRecDepth 100000 in
theorem ct_3_r (a : zA) (b : zB) : zr zM zprm 17 31 (0, [.ref 8], [], zs_4, a, b) = some (none, zs_5, zzA (zzA (zzA a 9) 10) 11, zzB (zzB (zzB b 9) 10) 11, 3, 0, 1012) := (zr_run (mi := zm_17) rfl 400 _).trans rfl
set_option maxRecDepth 100000 in
theorem ct_3 (a : zA) (b : zB) (h : ∀ q j, 8 ≤ q → a q j = 0) (hb : ∀ q j, 8 ≤ q → b q j = 0) : zent zM (zr zM zprm) 17 31 [.ref 8] zs_4 a b = some (none, zs_5, a, b, 3, 0, 1012) := by
  refine (zent_eq (M := zM) (mi := zm_17) rfl rfl).trans ((ct_3_r a b).trans ?_)
  rw [zzA_z h 9 (by decide), zzB_z hb 9 (by decide)]
  rw [zzA_z h 10 (by decide), zzB_z hb 10 (by decide)]
  rw [zzA_z h 11 (by decide), zzB_z hb 11 (by decide)]
set_option maxRecDepth 100000 in
theorem ct_4_r (a : zA) (b : zB) : zr zM zprm 78 31 (0, [.ref 12], [], zs_6, a, b) = zCNT 610 (zCNT 10 (zCNT 10 (zCNT 10 (zCNT 10 (zCNT 60 (zCV zM (zr zM zprm) 290 31 [.ref 13, .int (-1)] zs_7 (zup (zup (zzA (zzA (zzA (zzA (zzA (zzA a 13) 14) 15) 16) 17) 18) 12 7 (-1)) 12 8 (-1)) (zzB (zzB (zzB (zzB (zzB (zzB b 13) 14) 15) 16) 17) 18) (fun a b => zCV zM (zr zM zprm) 290 31 [.ref 16, .int (-1)] zs_7 a b (fun a b => zRET none zs_7 a b)))))))) := (zr_run (mi := zm_78) rfl 400 _).trans rfl
set_option maxRecDepth 100000 in
theorem ct_4 (a : zA) (b : zB) (h : ∀ q j, 12 ≤ q → a q j = 0) (hb : ∀ q j, 12 ≤ q → b q j = 0) : zent zM (zr zM zprm) 78 31 [.ref 12] zs_6 a b = some (none, zs_7, zst_ 12 13 a, b, 6, 0, 710) := by
  refine (zent_eq (M := zM) (mi := zm_78) rfl rfl).trans ((ct_4_r a b).trans ?_)
  rw [zzA_z h 13 (by decide), zzB_z hb 13 (by decide)]
  rw [zzA_z h 14 (by decide), zzB_z hb 14 (by decide)]
  rw [zzA_z h 15 (by decide), zzB_z hb 15 (by decide)]
  rw [zzA_z h 16 (by decide), zzB_z hb 16 (by decide)]
  rw [zzA_z h 17 (by decide), zzB_z hb 17 (by decide)]
  rw [zzA_z h 18 (by decide), zzB_z hb 18 (by decide)]
  rw [zCV_ok (zfill_ok zs_7 13 610 _ _ (-1) rfl rfl (by decide)), zCV_ok (zfill_ok zs_7 16 10 _ _ (-1) rfl rfl (by decide))]
  rfl
set_option maxRecDepth 100000 in
theorem ct_6_r (a : zA) (b : zB) : zr zM zprm 17 31 (0, [.ref 22], [], zs_10, a, b) = some (none, zs_11, zzA (zzA (zzA a 23) 24) 25, zzB (zzB (zzB b 23) 24) 25, 3, 0, 1012) := (zr_run (mi := zm_17) rfl 400 _).trans rfl
set_option maxRecDepth 100000 in
theorem ct_6 (a : zA) (b : zB) (h : ∀ q j, 22 ≤ q → a q j = 0) (hb : ∀ q j, 22 ≤ q → b q j = 0) : zent zM (zr zM zprm) 17 31 [.ref 22] zs_10 a b = some (none, zs_11, a, b, 3, 0, 1012) := by
  refine (zent_eq (M := zM) (mi := zm_17) rfl rfl).trans ((ct_6_r a b).trans ?_)
  rw [zzA_z h 23 (by decide), zzB_z hb 23 (by decide)]
  rw [zzA_z h 24 (by decide), zzB_z hb 24 (by decide)]
  rw [zzA_z h 25 (by decide), zzB_z hb 25 (by decide)]
set_option maxRecDepth 100000 in
theorem ct_5_s1 (a : zA) (b : zB) : zr zM zprm 68 31 (12, [.ref 21, .ref 20], [.ref 22, .ref 21], zs_11, a, b) = zRET none zs_9 a b := (zr_run (mi := zm_68) rfl 400 _).trans rfl
set_option maxRecDepth 100000 in
theorem ct_5_g1 (a : zA) (b : zB) (h : ∀ q j, 26 ≤ q → a q j = 0) (hb : ∀ q j, 26 ≤ q → b q j = 0) : zr zM zprm 68 31 (12, [.ref 21, .ref 20], [.ref 22, .ref 21], zs_11, a, b) = some (none, zs_9, a, b, 0, 0, 0) := by
  refine (ct_5_s1 a b).trans ?_
  all_goals rfl
set_option maxRecDepth 100000 in
theorem ct_5_s0 (a : zA) (b : zB) : zr zM zprm 68 31 (0, [.ref 21, .ref 20], [], zs_8, a, b) = zCNT 4 (zCA zM (zr zM zprm) 17 [.ref 22] zs_10 (zzA a 22) (zzB b 22) (fun sh a b => zr zM zprm 68 31 (12, [.ref 21, .ref 20], [.ref 22, .ref 21], sh, a, b))) := (zr_run (mi := zm_68) rfl 400 _).trans rfl
set_option maxRecDepth 100000 in
theorem ct_5_g0 (a : zA) (b : zB) (h : ∀ q j, 22 ≤ q → a q j = 0) (hb : ∀ q j, 22 ≤ q → b q j = 0) : zr zM zprm 68 31 (0, [.ref 21, .ref 20], [], zs_8, a, b) = some (none, zs_9, a, b, 4, 0, 1016) := by
  refine (ct_5_s0 a b).trans ?_
  rw [zzA_z h 22 (by decide), zzB_z hb 22 (by decide)]
  have h1 : ∀ q j, 22 ≤ q → a q j = 0 := fun q j hq => h q j (by omega)
  have hb1 : ∀ q j, 22 ≤ q → b q j = 0 := fun q j hq => hb q j (by omega)
  rw [zCA_ok (ct_6 a b h1 hb1) rfl, ct_5_g1 _ b (fun q j hq => h q j (by omega)) (fun q j hq => hb q j (by omega))]
  all_goals rfl
set_option maxRecDepth 100000 in
theorem ct_5 (a : zA) (b : zB) (h : ∀ q j, 21 ≤ q → a q j = 0) (hb : ∀ q j, 21 ≤ q → b q j = 0) : zent zM (zr zM zprm) 68 31 [.ref 21, .ref 20] zs_8 a b = some (none, zs_9, a, b, 4, 0, 1016) :=
  (zent_eq (M := zM) (mi := zm_68) rfl rfl).trans (ct_5_g0 a b (fun q j hq => h q j (by omega)) (fun q j hq => hb q j (by omega)))
set_option maxRecDepth 100000 in
theorem ct_7_r (a : zA) (b : zB) : zr zM zprm 91 31 (0, [.ref 26, .ref 2, .ref 8, .ref 12], [], zs_12, a, b) = some (none, zs_13, a, b, 0, 0, 0) := (zr_run (mi := zm_91) rfl 400 _).trans rfl
set_option maxRecDepth 100000 in
theorem ct_7 (a : zA) (b : zB) (h : ∀ q j, 26 ≤ q → a q j = 0) (hb : ∀ q j, 26 ≤ q → b q j = 0) : zent zM (zr zM zprm) 91 31 [.ref 26, .ref 2, .ref 8, .ref 12] zs_12 a b = some (none, zs_13, a, b, 0, 0, 0) := (zent_eq (M := zM) (mi := zm_91) rfl rfl).trans (ct_7_r a b)
set_option maxRecDepth 100000 in
theorem ct_8_r (a : zA) (b : zB) : zr zM zprm 0 31 (0, [.ref 27, .ref 2, .ref 12, .ref 26], [], zs_14, a, b) = some (none, zs_15, zzA (zzA (zzA (zzA (zzA (zzA (zzA a 28) 29) 30) 31) 32) 33) 34, zzB (zzB (zzB (zzB (zzB (zzB (zzB b 28) 29) 30) 31) 32) 33) 34, 7, 0, 112991) := (zr_run (mi := zm_0) rfl 400 _).trans rfl
set_option maxRecDepth 100000 in
theorem ct_8 (a : zA) (b : zB) (h : ∀ q j, 27 ≤ q → a q j = 0) (hb : ∀ q j, 27 ≤ q → b q j = 0) : zent zM (zr zM zprm) 0 31 [.ref 27, .ref 2, .ref 12, .ref 26] zs_14 a b = some (none, zs_15, a, b, 7, 0, 112991) := by
  refine (zent_eq (M := zM) (mi := zm_0) rfl rfl).trans ((ct_8_r a b).trans ?_)
  rw [zzA_z h 28 (by decide), zzB_z hb 28 (by decide)]
  rw [zzA_z h 29 (by decide), zzB_z hb 29 (by decide)]
  rw [zzA_z h 30 (by decide), zzB_z hb 30 (by decide)]
  rw [zzA_z h 31 (by decide), zzB_z hb 31 (by decide)]
  rw [zzA_z h 32 (by decide), zzB_z hb 32 (by decide)]
  rw [zzA_z h 33 (by decide), zzB_z hb 33 (by decide)]
  rw [zzA_z h 34 (by decide), zzB_z hb 34 (by decide)]
set_option maxRecDepth 100000 in
theorem ct_10_r (a : zA) (b : zB) : zr zM zprm 26 31 (0, [.ref 41], [], zs_18, a, b) = some (none, zs_18, a, b, 0, 0, 0) := (zr_run (mi := zm_26) rfl 400 _).trans rfl
set_option maxRecDepth 100000 in
theorem ct_10 (a : zA) (b : zB) (h : ∀ q j, 41 ≤ q → a q j = 0) (hb : ∀ q j, 41 ≤ q → b q j = 0) : zent zM (zr zM zprm) 26 31 [.ref 41] zs_18 a b = some (none, zs_18, a, b, 0, 0, 0) := (zent_eq (M := zM) (mi := zm_26) rfl rfl).trans (ct_10_r a b)
set_option maxRecDepth 100000 in
theorem ct_11_r (a : zA) (b : zB) : zr zM zprm 26 31 (0, [.ref 42], [], zs_19, a, b) = some (none, zs_19, a, b, 0, 0, 0) := (zr_run (mi := zm_26) rfl 400 _).trans rfl
set_option maxRecDepth 100000 in
theorem ct_11 (a : zA) (b : zB) (h : ∀ q j, 42 ≤ q → a q j = 0) (hb : ∀ q j, 42 ≤ q → b q j = 0) : zent zM (zr zM zprm) 26 31 [.ref 42] zs_19 a b = some (none, zs_19, a, b, 0, 0, 0) := (zent_eq (M := zM) (mi := zm_26) rfl rfl).trans (ct_11_r a b)
set_option maxRecDepth 100000 in
theorem ct_12_r (a : zA) (b : zB) : zr zM zprm 26 31 (0, [.ref 43], [], zs_20, a, b) = some (none, zs_20, a, b, 0, 0, 0) := (zr_run (mi := zm_26) rfl 400 _).trans rfl
set_option maxRecDepth 100000 in
theorem ct_12 (a : zA) (b : zB) (h : ∀ q j, 43 ≤ q → a q j = 0) (hb : ∀ q j, 43 ≤ q → b q j = 0) : zent zM (zr zM zprm) 26 31 [.ref 43] zs_20 a b = some (none, zs_20, a, b, 0, 0, 0) := (zent_eq (M := zM) (mi := zm_26) rfl rfl).trans (ct_12_r a b)
set_option maxRecDepth 100000 in
theorem ct_13_r (a : zA) (b : zB) : zr zM zprm 26 31 (0, [.ref 44], [], zs_21, a, b) = some (none, zs_21, a, b, 0, 0, 0) := (zr_run (mi := zm_26) rfl 400 _).trans rfl
set_option maxRecDepth 100000 in
theorem ct_13 (a : zA) (b : zB) (h : ∀ q j, 44 ≤ q → a q j = 0) (hb : ∀ q j, 44 ≤ q → b q j = 0) : zent zM (zr zM zprm) 26 31 [.ref 44] zs_21 a b = some (none, zs_21, a, b, 0, 0, 0) := (zent_eq (M := zM) (mi := zm_26) rfl rfl).trans (ct_13_r a b)
set_option maxRecDepth 100000 in
theorem ct_14_r (a : zA) (b : zB) : zr zM zprm 26 31 (0, [.ref 48], [], zs_22, a, b) = some (none, zs_22, a, b, 0, 0, 0) := (zr_run (mi := zm_26) rfl 400 _).trans rfl
set_option maxRecDepth 100000 in
theorem ct_14 (a : zA) (b : zB) (h : ∀ q j, 48 ≤ q → a q j = 0) (hb : ∀ q j, 48 ≤ q → b q j = 0) : zent zM (zr zM zprm) 26 31 [.ref 48] zs_22 a b = some (none, zs_22, a, b, 0, 0, 0) := (zent_eq (M := zM) (mi := zm_26) rfl rfl).trans (ct_14_r a b)
set_option maxRecDepth 100000 in
theorem ct_15_r (a : zA) (b : zB) : zr zM zprm 26 31 (0, [.ref 49], [], zs_23, a, b) = some (none, zs_23, a, b, 0, 0, 0) := (zr_run (mi := zm_26) rfl 400 _).trans rfl
set_option maxRecDepth 100000 in
theorem ct_15 (a : zA) (b : zB) (h : ∀ q j, 49 ≤ q → a q j = 0) (hb : ∀ q j, 49 ≤ q → b q j = 0) : zent zM (zr zM zprm) 26 31 [.ref 49] zs_23 a b = some (none, zs_23, a, b, 0, 0, 0) := (zent_eq (M := zM) (mi := zm_26) rfl rfl).trans (ct_15_r a b)
set_option maxRecDepth 100000 in
theorem ct_16_r (a : zA) (b : zB) : zr zM zprm 26 31 (0, [.ref 50], [], zs_24, a, b) = some (none, zs_24, a, b, 0, 0, 0) := (zr_run (mi := zm_26) rfl 400 _).trans rfl
set_option maxRecDepth 100000 in
theorem ct_16 (a : zA) (b : zB) (h : ∀ q j, 50 ≤ q → a q j = 0) (hb : ∀ q j, 50 ≤ q → b q j = 0) : zent zM (zr zM zprm) 26 31 [.ref 50] zs_24 a b = some (none, zs_24, a, b, 0, 0, 0) := (zent_eq (M := zM) (mi := zm_26) rfl rfl).trans (ct_16_r a b)
set_option maxRecDepth 100000 in
theorem ct_17_r (a : zA) (b : zB) : zr zM zprm 26 31 (0, [.ref 51], [], zs_25, a, b) = some (none, zs_25, a, b, 0, 0, 0) := (zr_run (mi := zm_26) rfl 400 _).trans rfl
set_option maxRecDepth 100000 in
theorem ct_17 (a : zA) (b : zB) (h : ∀ q j, 51 ≤ q → a q j = 0) (hb : ∀ q j, 51 ≤ q → b q j = 0) : zent zM (zr zM zprm) 26 31 [.ref 51] zs_25 a b = some (none, zs_25, a, b, 0, 0, 0) := (zent_eq (M := zM) (mi := zm_26) rfl rfl).trans (ct_17_r a b)
set_option maxRecDepth 100000 in
theorem ct_18_r (a : zA) (b : zB) : zr zM zprm 26 31 (0, [.ref 52], [], zs_26, a, b) = some (none, zs_26, a, b, 0, 0, 0) := (zr_run (mi := zm_26) rfl 400 _).trans rfl
set_option maxRecDepth 100000 in
theorem ct_18 (a : zA) (b : zB) (h : ∀ q j, 52 ≤ q → a q j = 0) (hb : ∀ q j, 52 ≤ q → b q j = 0) : zent zM (zr zM zprm) 26 31 [.ref 52] zs_26 a b = some (none, zs_26, a, b, 0, 0, 0) := (zent_eq (M := zM) (mi := zm_26) rfl rfl).trans (ct_18_r a b)
set_option maxRecDepth 100000 in
theorem ct_19_r (a : zA) (b : zB) : zr zM zprm 26 31 (0, [.ref 53], [], zs_27, a, b) = some (none, zs_27, a, b, 0, 0, 0) := (zr_run (mi := zm_26) rfl 400 _).trans rfl
set_option maxRecDepth 100000 in
theorem ct_19 (a : zA) (b : zB) (h : ∀ q j, 53 ≤ q → a q j = 0) (hb : ∀ q j, 53 ≤ q → b q j = 0) : zent zM (zr zM zprm) 26 31 [.ref 53] zs_27 a b = some (none, zs_27, a, b, 0, 0, 0) := (zent_eq (M := zM) (mi := zm_26) rfl rfl).trans (ct_19_r a b)
set_option maxRecDepth 100000 in
theorem ct_20_r (a : zA) (b : zB) : zr zM zprm 26 31 (0, [.ref 54], [], zs_28, a, b) = some (none, zs_28, a, b, 0, 0, 0) := (zr_run (mi := zm_26) rfl 400 _).trans rfl
set_option maxRecDepth 100000 in
theorem ct_20 (a : zA) (b : zB) (h : ∀ q j, 54 ≤ q → a q j = 0) (hb : ∀ q j, 54 ≤ q → b q j = 0) : zent zM (zr zM zprm) 26 31 [.ref 54] zs_28 a b = some (none, zs_28, a, b, 0, 0, 0) := (zent_eq (M := zM) (mi := zm_26) rfl rfl).trans (ct_20_r a b)
set_option maxRecDepth 100000 in
theorem ct_21_r (a : zA) (b : zB) : zr zM zprm 26 31 (0, [.ref 55], [], zs_29, a, b) = some (none, zs_29, a, b, 0, 0, 0) := (zr_run (mi := zm_26) rfl 400 _).trans rfl
set_option maxRecDepth 100000 in
theorem ct_21 (a : zA) (b : zB) (h : ∀ q j, 55 ≤ q → a q j = 0) (hb : ∀ q j, 55 ≤ q → b q j = 0) : zent zM (zr zM zprm) 26 31 [.ref 55] zs_29 a b = some (none, zs_29, a, b, 0, 0, 0) := (zent_eq (M := zM) (mi := zm_26) rfl rfl).trans (ct_21_r a b)
set_option maxRecDepth 100000 in
theorem ct_22_r (a : zA) (b : zB) : zr zM zprm 26 31 (0, [.ref 56], [], zs_30, a, b) = some (none, zs_30, a, b, 0, 0, 0) := (zr_run (mi := zm_26) rfl 400 _).trans rfl
set_option maxRecDepth 100000 in
theorem ct_22 (a : zA) (b : zB) (h : ∀ q j, 56 ≤ q → a q j = 0) (hb : ∀ q j, 56 ≤ q → b q j = 0) : zent zM (zr zM zprm) 26 31 [.ref 56] zs_30 a b = some (none, zs_30, a, b, 0, 0, 0) := (zent_eq (M := zM) (mi := zm_26) rfl rfl).trans (ct_22_r a b)
set_option maxRecDepth 100000 in
theorem ct_23_r (a : zA) (b : zB) : zr zM zprm 26 31 (0, [.ref 57], [], zs_31, a, b) = some (none, zs_31, a, b, 0, 0, 0) := (zr_run (mi := zm_26) rfl 400 _).trans rfl
set_option maxRecDepth 100000 in
theorem ct_23 (a : zA) (b : zB) (h : ∀ q j, 57 ≤ q → a q j = 0) (hb : ∀ q j, 57 ≤ q → b q j = 0) : zent zM (zr zM zprm) 26 31 [.ref 57] zs_31 a b = some (none, zs_31, a, b, 0, 0, 0) := (zent_eq (M := zM) (mi := zm_26) rfl rfl).trans (ct_23_r a b)
set_option maxRecDepth 100000 in
theorem ct_24_r (a : zA) (b : zB) : zr zM zprm 26 31 (0, [.ref 58], [], zs_32, a, b) = some (none, zs_32, a, b, 0, 0, 0) := (zr_run (mi := zm_26) rfl 400 _).trans rfl
set_option maxRecDepth 100000 in
theorem ct_24 (a : zA) (b : zB) (h : ∀ q j, 58 ≤ q → a q j = 0) (hb : ∀ q j, 58 ≤ q → b q j = 0) : zent zM (zr zM zprm) 26 31 [.ref 58] zs_32 a b = some (none, zs_32, a, b, 0, 0, 0) := (zent_eq (M := zM) (mi := zm_26) rfl rfl).trans (ct_24_r a b)
set_option maxRecDepth 100000 in
theorem ct_25_r (a : zA) (b : zB) : zr zM zprm 26 31 (0, [.ref 59], [], zs_33, a, b) = some (none, zs_33, a, b, 0, 0, 0) := (zr_run (mi := zm_26) rfl 400 _).trans rfl
set_option maxRecDepth 100000 in
theorem ct_25 (a : zA) (b : zB) (h : ∀ q j, 59 ≤ q → a q j = 0) (hb : ∀ q j, 59 ≤ q → b q j = 0) : zent zM (zr zM zprm) 26 31 [.ref 59] zs_33 a b = some (none, zs_33, a, b, 0, 0, 0) := (zent_eq (M := zM) (mi := zm_26) rfl rfl).trans (ct_25_r a b)
set_option maxRecDepth 100000 in
theorem ct_26_r (a : zA) (b : zB) : zr zM zprm 26 31 (0, [.ref 60], [], zs_34, a, b) = some (none, zs_34, a, b, 0, 0, 0) := (zr_run (mi := zm_26) rfl 400 _).trans rfl
set_option maxRecDepth 100000 in
theorem ct_26 (a : zA) (b : zB) (h : ∀ q j, 60 ≤ q → a q j = 0) (hb : ∀ q j, 60 ≤ q → b q j = 0) : zent zM (zr zM zprm) 26 31 [.ref 60] zs_34 a b = some (none, zs_34, a, b, 0, 0, 0) := (zent_eq (M := zM) (mi := zm_26) rfl rfl).trans (ct_26_r a b)
set_option maxRecDepth 100000 in
theorem ct_27_r (a : zA) (b : zB) : zr zM zprm 26 31 (0, [.ref 61], [], zs_35, a, b) = some (none, zs_35, a, b, 0, 0, 0) := (zr_run (mi := zm_26) rfl 400 _).trans rfl
set_option maxRecDepth 100000 in
theorem ct_27 (a : zA) (b : zB) (h : ∀ q j, 61 ≤ q → a q j = 0) (hb : ∀ q j, 61 ≤ q → b q j = 0) : zent zM (zr zM zprm) 26 31 [.ref 61] zs_35 a b = some (none, zs_35, a, b, 0, 0, 0) := (zent_eq (M := zM) (mi := zm_26) rfl rfl).trans (ct_27_r a b)
set_option maxRecDepth 100000 in
theorem ct_28_r (a : zA) (b : zB) : zr zM zprm 26 31 (0, [.ref 62], [], zs_36, a, b) = some (none, zs_36, a, b, 0, 0, 0) := (zr_run (mi := zm_26) rfl 400 _).trans rfl
set_option maxRecDepth 100000 in
theorem ct_28 (a : zA) (b : zB) (h : ∀ q j, 62 ≤ q → a q j = 0) (hb : ∀ q j, 62 ≤ q → b q j = 0) : zent zM (zr zM zprm) 26 31 [.ref 62] zs_36 a b = some (none, zs_36, a, b, 0, 0, 0) := (zent_eq (M := zM) (mi := zm_26) rfl rfl).trans (ct_28_r a b)
set_option maxRecDepth 100000 in
theorem ct_29_r (a : zA) (b : zB) : zr zM zprm 26 31 (0, [.ref 63], [], zs_37, a, b) = some (none, zs_37, a, b, 0, 0, 0) := (zr_run (mi := zm_26) rfl 400 _).trans rfl
set_option maxRecDepth 100000 in
theorem ct_29 (a : zA) (b : zB) (h : ∀ q j, 63 ≤ q → a q j = 0) (hb : ∀ q j, 63 ≤ q → b q j = 0) : zent zM (zr zM zprm) 26 31 [.ref 63] zs_37 a b = some (none, zs_37, a, b, 0, 0, 0) := (zent_eq (M := zM) (mi := zm_26) rfl rfl).trans (ct_29_r a b)
set_option maxRecDepth 100000 in
theorem ct_30_r (a : zA) (b : zB) : zr zM zprm 26 31 (0, [.ref 64], [], zs_38, a, b) = some (none, zs_38, a, b, 0, 0, 0) := (zr_run (mi := zm_26) rfl 400 _).trans rfl
set_option maxRecDepth 100000 in
theorem ct_30 (a : zA) (b : zB) (h : ∀ q j, 64 ≤ q → a q j = 0) (hb : ∀ q j, 64 ≤ q → b q j = 0) : zent zM (zr zM zprm) 26 31 [.ref 64] zs_38 a b = some (none, zs_38, a, b, 0, 0, 0) := (zent_eq (M := zM) (mi := zm_26) rfl rfl).trans (ct_30_r a b)
set_option maxRecDepth 100000 in
theorem ct_31_r (a : zA) (b : zB) : zr zM zprm 26 31 (0, [.ref 65], [], zs_39, a, b) = some (none, zs_39, a, b, 0, 0, 0) := (zr_run (mi := zm_26) rfl 400 _).trans rfl
set_option maxRecDepth 100000 in
theorem ct_31 (a : zA) (b : zB) (h : ∀ q j, 65 ≤ q → a q j = 0) (hb : ∀ q j, 65 ≤ q → b q j = 0) : zent zM (zr zM zprm) 26 31 [.ref 65] zs_39 a b = some (none, zs_39, a, b, 0, 0, 0) := (zent_eq (M := zM) (mi := zm_26) rfl rfl).trans (ct_31_r a b)
set_option maxRecDepth 100000 in
theorem ct_32_r (a : zA) (b : zB) : zr zM zprm 26 31 (0, [.ref 66], [], zs_40, a, b) = some (none, zs_40, a, b, 0, 0, 0) := (zr_run (mi := zm_26) rfl 400 _).trans rfl
set_option maxRecDepth 100000 in
theorem ct_32 (a : zA) (b : zB) (h : ∀ q j, 66 ≤ q → a q j = 0) (hb : ∀ q j, 66 ≤ q → b q j = 0) : zent zM (zr zM zprm) 26 31 [.ref 66] zs_40 a b = some (none, zs_40, a, b, 0, 0, 0) := (zent_eq (M := zM) (mi := zm_26) rfl rfl).trans (ct_32_r a b)
set_option maxRecDepth 100000 in
theorem ct_33_r (a : zA) (b : zB) : zr zM zprm 26 31 (0, [.ref 67], [], zs_41, a, b) = some (none, zs_41, a, b, 0, 0, 0) := (zr_run (mi := zm_26) rfl 400 _).trans rfl
set_option maxRecDepth 100000 in
theorem ct_33 (a : zA) (b : zB) (h : ∀ q j, 67 ≤ q → a q j = 0) (hb : ∀ q j, 67 ≤ q → b q j = 0) : zent zM (zr zM zprm) 26 31 [.ref 67] zs_41 a b = some (none, zs_41, a, b, 0, 0, 0) := (zent_eq (M := zM) (mi := zm_26) rfl rfl).trans (ct_33_r a b)
set_option maxRecDepth 100000 in
theorem ct_34_r (a : zA) (b : zB) : zr zM zprm 26 31 (0, [.ref 68], [], zs_42, a, b) = some (none, zs_42, a, b, 0, 0, 0) := (zr_run (mi := zm_26) rfl 400 _).trans rfl
set_option maxRecDepth 100000 in
theorem ct_34 (a : zA) (b : zB) (h : ∀ q j, 68 ≤ q → a q j = 0) (hb : ∀ q j, 68 ≤ q → b q j = 0) : zent zM (zr zM zprm) 26 31 [.ref 68] zs_42 a b = some (none, zs_42, a, b, 0, 0, 0) := (zent_eq (M := zM) (mi := zm_26) rfl rfl).trans (ct_34_r a b)
set_option maxRecDepth 100000 in
theorem ct_35_r (a : zA) (b : zB) : zr zM zprm 26 31 (0, [.ref 69], [], zs_43, a, b) = some (none, zs_43, a, b, 0, 0, 0) := (zr_run (mi := zm_26) rfl 400 _).trans rfl
set_option maxRecDepth 100000 in
theorem ct_35 (a : zA) (b : zB) (h : ∀ q j, 69 ≤ q → a q j = 0) (hb : ∀ q j, 69 ≤ q → b q j = 0) : zent zM (zr zM zprm) 26 31 [.ref 69] zs_43 a b = some (none, zs_43, a, b, 0, 0, 0) := (zent_eq (M := zM) (mi := zm_26) rfl rfl).trans (ct_35_r a b)
set_option maxRecDepth 100000 in
theorem ct_36_r (a : zA) (b : zB) : zr zM zprm 26 31 (0, [.ref 70], [], zs_44, a, b) = some (none, zs_44, a, b, 0, 0, 0) := (zr_run (mi := zm_26) rfl 400 _).trans rfl
set_option maxRecDepth 100000 in
theorem ct_36 (a : zA) (b : zB) (h : ∀ q j, 70 ≤ q → a q j = 0) (hb : ∀ q j, 70 ≤ q → b q j = 0) : zent zM (zr zM zprm) 26 31 [.ref 70] zs_44 a b = some (none, zs_44, a, b, 0, 0, 0) := (zent_eq (M := zM) (mi := zm_26) rfl rfl).trans (ct_36_r a b)
set_option maxRecDepth 100000 in
theorem ct_37_r (a : zA) (b : zB) : zr zM zprm 26 31 (0, [.ref 71], [], zs_45, a, b) = some (none, zs_45, a, b, 0, 0, 0) := (zr_run (mi := zm_26) rfl 400 _).trans rfl
set_option maxRecDepth 100000 in
theorem ct_37 (a : zA) (b : zB) (h : ∀ q j, 71 ≤ q → a q j = 0) (hb : ∀ q j, 71 ≤ q → b q j = 0) : zent zM (zr zM zprm) 26 31 [.ref 71] zs_45 a b = some (none, zs_45, a, b, 0, 0, 0) := (zent_eq (M := zM) (mi := zm_26) rfl rfl).trans (ct_37_r a b)
set_option maxRecDepth 100000 in
theorem ct_38_r (a : zA) (b : zB) : zr zM zprm 26 31 (0, [.ref 72], [], zs_46, a, b) = some (none, zs_46, a, b, 0, 0, 0) := (zr_run (mi := zm_26) rfl 400 _).trans rfl
set_option maxRecDepth 100000 in
theorem ct_38 (a : zA) (b : zB) (h : ∀ q j, 72 ≤ q → a q j = 0) (hb : ∀ q j, 72 ≤ q → b q j = 0) : zent zM (zr zM zprm) 26 31 [.ref 72] zs_46 a b = some (none, zs_46, a, b, 0, 0, 0) := (zent_eq (M := zM) (mi := zm_26) rfl rfl).trans (ct_38_r a b)
set_option maxRecDepth 100000 in
theorem ct_39_r (a : zA) (b : zB) : zr zM zprm 26 31 (0, [.ref 73], [], zs_47, a, b) = some (none, zs_47, a, b, 0, 0, 0) := (zr_run (mi := zm_26) rfl 400 _).trans rfl
set_option maxRecDepth 100000 in
theorem ct_39 (a : zA) (b : zB) (h : ∀ q j, 73 ≤ q → a q j = 0) (hb : ∀ q j, 73 ≤ q → b q j = 0) : zent zM (zr zM zprm) 26 31 [.ref 73] zs_47 a b = some (none, zs_47, a, b, 0, 0, 0) := (zent_eq (M := zM) (mi := zm_26) rfl rfl).trans (ct_39_r a b)
set_option maxRecDepth 100000 in
theorem ct_40_r (a : zA) (b : zB) : zr zM zprm 26 31 (0, [.ref 74], [], zs_48, a, b) = some (none, zs_48, a, b, 0, 0, 0) := (zr_run (mi := zm_26) rfl 400 _).trans rfl
set_option maxRecDepth 100000 in
theorem ct_40 (a : zA) (b : zB) (h : ∀ q j, 74 ≤ q → a q j = 0) (hb : ∀ q j, 74 ≤ q → b q j = 0) : zent zM (zr zM zprm) 26 31 [.ref 74] zs_48 a b = some (none, zs_48, a, b, 0, 0, 0) := (zent_eq (M := zM) (mi := zm_26) rfl rfl).trans (ct_40_r a b)
set_option maxRecDepth 100000 in
theorem ct_41_r (a : zA) (b : zB) : zr zM zprm 26 31 (0, [.ref 75], [], zs_49, a, b) = some (none, zs_49, a, b, 0, 0, 0) := (zr_run (mi := zm_26) rfl 400 _).trans rfl
set_option maxRecDepth 100000 in
theorem ct_41 (a : zA) (b : zB) (h : ∀ q j, 75 ≤ q → a q j = 0) (hb : ∀ q j, 75 ≤ q → b q j = 0) : zent zM (zr zM zprm) 26 31 [.ref 75] zs_49 a b = some (none, zs_49, a, b, 0, 0, 0) := (zent_eq (M := zM) (mi := zm_26) rfl rfl).trans (ct_41_r a b)
set_option maxRecDepth 100000 in
theorem ct_42_r (a : zA) (b : zB) : zr zM zprm 26 31 (0, [.ref 76], [], zs_50, a, b) = some (none, zs_50, a, b, 0, 0, 0) := (zr_run (mi := zm_26) rfl 400 _).trans rfl
set_option maxRecDepth 100000 in
theorem ct_42 (a : zA) (b : zB) (h : ∀ q j, 76 ≤ q → a q j = 0) (hb : ∀ q j, 76 ≤ q → b q j = 0) : zent zM (zr zM zprm) 26 31 [.ref 76] zs_50 a b = some (none, zs_50, a, b, 0, 0, 0) := (zent_eq (M := zM) (mi := zm_26) rfl rfl).trans (ct_42_r a b)
set_option maxRecDepth 100000 in
theorem ct_43_r (a : zA) (b : zB) : zr zM zprm 26 31 (0, [.ref 77], [], zs_51, a, b) = some (none, zs_51, a, b, 0, 0, 0) := (zr_run (mi := zm_26) rfl 400 _).trans rfl
set_option maxRecDepth 100000 in
theorem ct_43 (a : zA) (b : zB) (h : ∀ q j, 77 ≤ q → a q j = 0) (hb : ∀ q j, 77 ≤ q → b q j = 0) : zent zM (zr zM zprm) 26 31 [.ref 77] zs_51 a b = some (none, zs_51, a, b, 0, 0, 0) := (zent_eq (M := zM) (mi := zm_26) rfl rfl).trans (ct_43_r a b)
set_option maxRecDepth 100000 in
theorem ct_44_r (a : zA) (b : zB) : zr zM zprm 26 31 (0, [.ref 78], [], zs_52, a, b) = some (none, zs_52, a, b, 0, 0, 0) := (zr_run (mi := zm_26) rfl 400 _).trans rfl
set_option maxRecDepth 100000 in
theorem ct_44 (a : zA) (b : zB) (h : ∀ q j, 78 ≤ q → a q j = 0) (hb : ∀ q j, 78 ≤ q → b q j = 0) : zent zM (zr zM zprm) 26 31 [.ref 78] zs_52 a b = some (none, zs_52, a, b, 0, 0, 0) := (zent_eq (M := zM) (mi := zm_26) rfl rfl).trans (ct_44_r a b)
set_option maxRecDepth 100000 in
theorem ct_45_r (a : zA) (b : zB) : zr zM zprm 26 31 (0, [.ref 79], [], zs_53, a, b) = some (none, zs_53, a, b, 0, 0, 0) := (zr_run (mi := zm_26) rfl 400 _).trans rfl
set_option maxRecDepth 100000 in
theorem ct_45 (a : zA) (b : zB) (h : ∀ q j, 79 ≤ q → a q j = 0) (hb : ∀ q j, 79 ≤ q → b q j = 0) : zent zM (zr zM zprm) 26 31 [.ref 79] zs_53 a b = some (none, zs_53, a, b, 0, 0, 0) := (zent_eq (M := zM) (mi := zm_26) rfl rfl).trans (ct_45_r a b)
set_option maxRecDepth 100000 in
theorem ct_46_r (a : zA) (b : zB) : zr zM zprm 26 31 (0, [.ref 80], [], zs_54, a, b) = some (none, zs_54, a, b, 0, 0, 0) := (zr_run (mi := zm_26) rfl 400 _).trans rfl
set_option maxRecDepth 100000 in
theorem ct_46 (a : zA) (b : zB) (h : ∀ q j, 80 ≤ q → a q j = 0) (hb : ∀ q j, 80 ≤ q → b q j = 0) : zent zM (zr zM zprm) 26 31 [.ref 80] zs_54 a b = some (none, zs_54, a, b, 0, 0, 0) := (zent_eq (M := zM) (mi := zm_26) rfl rfl).trans (ct_46_r a b)
set_option maxRecDepth 100000 in
theorem ct_47_r (a : zA) (b : zB) : zr zM zprm 26 31 (0, [.ref 81], [], zs_55, a, b) = some (none, zs_55, a, b, 0, 0, 0) := (zr_run (mi := zm_26) rfl 400 _).trans rfl
set_option maxRecDepth 100000 in
theorem ct_47 (a : zA) (b : zB) (h : ∀ q j, 81 ≤ q → a q j = 0) (hb : ∀ q j, 81 ≤ q → b q j = 0) : zent zM (zr zM zprm) 26 31 [.ref 81] zs_55 a b = some (none, zs_55, a, b, 0, 0, 0) := (zent_eq (M := zM) (mi := zm_26) rfl rfl).trans (ct_47_r a b)
set_option maxRecDepth 100000 in
theorem ct_48_r (a : zA) (b : zB) : zr zM zprm 26 31 (0, [.ref 82], [], zs_56, a, b) = some (none, zs_56, a, b, 0, 0, 0) := (zr_run (mi := zm_26) rfl 400 _).trans rfl
set_option maxRecDepth 100000 in
theorem ct_48 (a : zA) (b : zB) (h : ∀ q j, 82 ≤ q → a q j = 0) (hb : ∀ q j, 82 ≤ q → b q j = 0) : zent zM (zr zM zprm) 26 31 [.ref 82] zs_56 a b = some (none, zs_56, a, b, 0, 0, 0) := (zent_eq (M := zM) (mi := zm_26) rfl rfl).trans (ct_48_r a b)
set_option maxRecDepth 100000 in
theorem ct_49_r (a : zA) (b : zB) : zr zM zprm 26 31 (0, [.ref 83], [], zs_57, a, b) = some (none, zs_57, a, b, 0, 0, 0) := (zr_run (mi := zm_26) rfl 400 _).trans rfl
set_option maxRecDepth 100000 in
theorem ct_49 (a : zA) (b : zB) (h : ∀ q j, 83 ≤ q → a q j = 0) (hb : ∀ q j, 83 ≤ q → b q j = 0) : zent zM (zr zM zprm) 26 31 [.ref 83] zs_57 a b = some (none, zs_57, a, b, 0, 0, 0) := (zent_eq (M := zM) (mi := zm_26) rfl rfl).trans (ct_49_r a b)
set_option maxRecDepth 100000 in
theorem ct_50_r (a : zA) (b : zB) : zr zM zprm 26 31 (0, [.ref 84], [], zs_58, a, b) = some (none, zs_58, a, b, 0, 0, 0) := (zr_run (mi := zm_26) rfl 400 _).trans rfl
set_option maxRecDepth 100000 in
theorem ct_50 (a : zA) (b : zB) (h : ∀ q j, 84 ≤ q → a q j = 0) (hb : ∀ q j, 84 ≤ q → b q j = 0) : zent zM (zr zM zprm) 26 31 [.ref 84] zs_58 a b = some (none, zs_58, a, b, 0, 0, 0) := (zent_eq (M := zM) (mi := zm_26) rfl rfl).trans (ct_50_r a b)
set_option maxRecDepth 100000 in
theorem ct_51_r (a : zA) (b : zB) : zr zM zprm 26 31 (0, [.ref 85], [], zs_59, a, b) = some (none, zs_59, a, b, 0, 0, 0) := (zr_run (mi := zm_26) rfl 400 _).trans rfl
set_option maxRecDepth 100000 in
theorem ct_51 (a : zA) (b : zB) (h : ∀ q j, 85 ≤ q → a q j = 0) (hb : ∀ q j, 85 ≤ q → b q j = 0) : zent zM (zr zM zprm) 26 31 [.ref 85] zs_59 a b = some (none, zs_59, a, b, 0, 0, 0) := (zent_eq (M := zM) (mi := zm_26) rfl rfl).trans (ct_51_r a b)
set_option maxRecDepth 100000 in
theorem ct_52_r (a : zA) (b : zB) : zr zM zprm 26 31 (0, [.ref 86], [], zs_60, a, b) = some (none, zs_60, a, b, 0, 0, 0) := (zr_run (mi := zm_26) rfl 400 _).trans rfl
set_option maxRecDepth 100000 in
theorem ct_52 (a : zA) (b : zB) (h : ∀ q j, 86 ≤ q → a q j = 0) (hb : ∀ q j, 86 ≤ q → b q j = 0) : zent zM (zr zM zprm) 26 31 [.ref 86] zs_60 a b = some (none, zs_60, a, b, 0, 0, 0) := (zent_eq (M := zM) (mi := zm_26) rfl rfl).trans (ct_52_r a b)
set_option maxRecDepth 100000 in
theorem ct_53_r (a : zA) (b : zB) : zr zM zprm 26 31 (0, [.ref 87], [], zs_61, a, b) = some (none, zs_61, a, b, 0, 0, 0) := (zr_run (mi := zm_26) rfl 400 _).trans rfl
set_option maxRecDepth 100000 in
theorem ct_53 (a : zA) (b : zB) (h : ∀ q j, 87 ≤ q → a q j = 0) (hb : ∀ q j, 87 ≤ q → b q j = 0) : zent zM (zr zM zprm) 26 31 [.ref 87] zs_61 a b = some (none, zs_61, a, b, 0, 0, 0) := (zent_eq (M := zM) (mi := zm_26) rfl rfl).trans (ct_53_r a b)
set_option maxRecDepth 100000 in
theorem ct_54_r (a : zA) (b : zB) : zr zM zprm 26 31 (0, [.ref 88], [], zs_62, a, b) = some (none, zs_62, a, b, 0, 0, 0) := (zr_run (mi := zm_26) rfl 400 _).trans rfl
set_option maxRecDepth 100000 in
theorem ct_54 (a : zA) (b : zB) (h : ∀ q j, 88 ≤ q → a q j = 0) (hb : ∀ q j, 88 ≤ q → b q j = 0) : zent zM (zr zM zprm) 26 31 [.ref 88] zs_62 a b = some (none, zs_62, a, b, 0, 0, 0) := (zent_eq (M := zM) (mi := zm_26) rfl rfl).trans (ct_54_r a b)
set_option maxRecDepth 100000 in
theorem ct_55_r (a : zA) (b : zB) : zr zM zprm 26 31 (0, [.ref 89], [], zs_63, a, b) = some (none, zs_63, a, b, 0, 0, 0) := (zr_run (mi := zm_26) rfl 400 _).trans rfl
set_option maxRecDepth 100000 in
theorem ct_55 (a : zA) (b : zB) (h : ∀ q j, 89 ≤ q → a q j = 0) (hb : ∀ q j, 89 ≤ q → b q j = 0) : zent zM (zr zM zprm) 26 31 [.ref 89] zs_63 a b = some (none, zs_63, a, b, 0, 0, 0) := (zent_eq (M := zM) (mi := zm_26) rfl rfl).trans (ct_55_r a b)
set_option maxRecDepth 100000 in
theorem ct_56_r (a : zA) (b : zB) : zr zM zprm 26 31 (0, [.ref 90], [], zs_64, a, b) = some (none, zs_64, a, b, 0, 0, 0) := (zr_run (mi := zm_26) rfl 400 _).trans rfl
set_option maxRecDepth 100000 in
theorem ct_56 (a : zA) (b : zB) (h : ∀ q j, 90 ≤ q → a q j = 0) (hb : ∀ q j, 90 ≤ q → b q j = 0) : zent zM (zr zM zprm) 26 31 [.ref 90] zs_64 a b = some (none, zs_64, a, b, 0, 0, 0) := (zent_eq (M := zM) (mi := zm_26) rfl rfl).trans (ct_56_r a b)
set_option maxRecDepth 100000 in
theorem ct_57_r (a : zA) (b : zB) : zr zM zprm 26 31 (0, [.ref 91], [], zs_65, a, b) = some (none, zs_65, a, b, 0, 0, 0) := (zr_run (mi := zm_26) rfl 400 _).trans rfl
set_option maxRecDepth 100000 in
theorem ct_57 (a : zA) (b : zB) (h : ∀ q j, 91 ≤ q → a q j = 0) (hb : ∀ q j, 91 ≤ q → b q j = 0) : zent zM (zr zM zprm) 26 31 [.ref 91] zs_65 a b = some (none, zs_65, a, b, 0, 0, 0) := (zent_eq (M := zM) (mi := zm_26) rfl rfl).trans (ct_57_r a b)
set_option maxRecDepth 100000 in
theorem ct_58_r (a : zA) (b : zB) : zr zM zprm 26 31 (0, [.ref 92], [], zs_66, a, b) = some (none, zs_66, a, b, 0, 0, 0) := (zr_run (mi := zm_26) rfl 400 _).trans rfl
set_option maxRecDepth 100000 in
theorem ct_58 (a : zA) (b : zB) (h : ∀ q j, 92 ≤ q → a q j = 0) (hb : ∀ q j, 92 ≤ q → b q j = 0) : zent zM (zr zM zprm) 26 31 [.ref 92] zs_66 a b = some (none, zs_66, a, b, 0, 0, 0) := (zent_eq (M := zM) (mi := zm_26) rfl rfl).trans (ct_58_r a b)
set_option maxRecDepth 100000 in
theorem ct_59_r (a : zA) (b : zB) : zr zM zprm 26 31 (0, [.ref 93], [], zs_67, a, b) = some (none, zs_67, a, b, 0, 0, 0) := (zr_run (mi := zm_26) rfl 400 _).trans rfl
set_option maxRecDepth 100000 in
theorem ct_59 (a : zA) (b : zB) (h : ∀ q j, 93 ≤ q → a q j = 0) (hb : ∀ q j, 93 ≤ q → b q j = 0) : zent zM (zr zM zprm) 26 31 [.ref 93] zs_67 a b = some (none, zs_67, a, b, 0, 0, 0) := (zent_eq (M := zM) (mi := zm_26) rfl rfl).trans (ct_59_r a b)
set_option maxRecDepth 100000 in
theorem ct_60_r (a : zA) (b : zB) : zr zM zprm 26 31 (0, [.ref 94], [], zs_68, a, b) = some (none, zs_68, a, b, 0, 0, 0) := (zr_run (mi := zm_26) rfl 400 _).trans rfl
set_option maxRecDepth 100000 in
theorem ct_60 (a : zA) (b : zB) (h : ∀ q j, 94 ≤ q → a q j = 0) (hb : ∀ q j, 94 ≤ q → b q j = 0) : zent zM (zr zM zprm) 26 31 [.ref 94] zs_68 a b = some (none, zs_68, a, b, 0, 0, 0) := (zent_eq (M := zM) (mi := zm_26) rfl rfl).trans (ct_60_r a b)
set_option maxRecDepth 100000 in
theorem ct_61_r (a : zA) (b : zB) : zr zM zprm 26 31 (0, [.ref 95], [], zs_69, a, b) = some (none, zs_69, a, b, 0, 0, 0) := (zr_run (mi := zm_26) rfl 400 _).trans rfl
set_option maxRecDepth 100000 in
theorem ct_61 (a : zA) (b : zB) (h : ∀ q j, 95 ≤ q → a q j = 0) (hb : ∀ q j, 95 ≤ q → b q j = 0) : zent zM (zr zM zprm) 26 31 [.ref 95] zs_69 a b = some (none, zs_69, a, b, 0, 0, 0) := (zent_eq (M := zM) (mi := zm_26) rfl rfl).trans (ct_61_r a b)
set_option maxRecDepth 100000 in
theorem ct_62_r (a : zA) (b : zB) : zr zM zprm 26 31 (0, [.ref 96], [], zs_70, a, b) = some (none, zs_70, a, b, 0, 0, 0) := (zr_run (mi := zm_26) rfl 400 _).trans rfl
set_option maxRecDepth 100000 in
theorem ct_62 (a : zA) (b : zB) (h : ∀ q j, 96 ≤ q → a q j = 0) (hb : ∀ q j, 96 ≤ q → b q j = 0) : zent zM (zr zM zprm) 26 31 [.ref 96] zs_70 a b = some (none, zs_70, a, b, 0, 0, 0) := (zent_eq (M := zM) (mi := zm_26) rfl rfl).trans (ct_62_r a b)
set_option maxRecDepth 100000 in
theorem ct_63_r (a : zA) (b : zB) : zr zM zprm 26 31 (0, [.ref 97], [], zs_71, a, b) = some (none, zs_71, a, b, 0, 0, 0) := (zr_run (mi := zm_26) rfl 400 _).trans rfl
set_option maxRecDepth 100000 in
theorem ct_63 (a : zA) (b : zB) (h : ∀ q j, 97 ≤ q → a q j = 0) (hb : ∀ q j, 97 ≤ q → b q j = 0) : zent zM (zr zM zprm) 26 31 [.ref 97] zs_71 a b = some (none, zs_71, a, b, 0, 0, 0) := (zent_eq (M := zM) (mi := zm_26) rfl rfl).trans (ct_63_r a b)
set_option maxRecDepth 100000 in
theorem ct_64_r (a : zA) (b : zB) : zr zM zprm 26 31 (0, [.ref 98], [], zs_72, a, b) = some (none, zs_72, a, b, 0, 0, 0) := (zr_run (mi := zm_26) rfl 400 _).trans rfl
set_option maxRecDepth 100000 in
theorem ct_64 (a : zA) (b : zB) (h : ∀ q j, 98 ≤ q → a q j = 0) (hb : ∀ q j, 98 ≤ q → b q j = 0) : zent zM (zr zM zprm) 26 31 [.ref 98] zs_72 a b = some (none, zs_72, a, b, 0, 0, 0) := (zent_eq (M := zM) (mi := zm_26) rfl rfl).trans (ct_64_r a b)
set_option maxRecDepth 100000 in
theorem ct_65_r (a : zA) (b : zB) : zr zM zprm 26 31 (0, [.ref 99], [], zs_73, a, b) = some (none, zs_73, a, b, 0, 0, 0) := (zr_run (mi := zm_26) rfl 400 _).trans rfl
set_option maxRecDepth 100000 in
theorem ct_65 (a : zA) (b : zB) (h : ∀ q j, 99 ≤ q → a q j = 0) (hb : ∀ q j, 99 ≤ q → b q j = 0) : zent zM (zr zM zprm) 26 31 [.ref 99] zs_73 a b = some (none, zs_73, a, b, 0, 0, 0) := (zent_eq (M := zM) (mi := zm_26) rfl rfl).trans (ct_65_r a b)
set_option maxRecDepth 100000 in
theorem ct_66_r (a : zA) (b : zB) : zr zM zprm 26 31 (0, [.ref 100], [], zs_74, a, b) = some (none, zs_74, a, b, 0, 0, 0) := (zr_run (mi := zm_26) rfl 400 _).trans rfl
set_option maxRecDepth 100000 in
theorem ct_66 (a : zA) (b : zB) (h : ∀ q j, 100 ≤ q → a q j = 0) (hb : ∀ q j, 100 ≤ q → b q j = 0) : zent zM (zr zM zprm) 26 31 [.ref 100] zs_74 a b = some (none, zs_74, a, b, 0, 0, 0) := (zent_eq (M := zM) (mi := zm_26) rfl rfl).trans (ct_66_r a b)
set_option maxRecDepth 100000 in
theorem ct_67_r (a : zA) (b : zB) : zr zM zprm 26 31 (0, [.ref 101], [], zs_75, a, b) = some (none, zs_75, a, b, 0, 0, 0) := (zr_run (mi := zm_26) rfl 400 _).trans rfl
set_option maxRecDepth 100000 in
theorem ct_67 (a : zA) (b : zB) (h : ∀ q j, 101 ≤ q → a q j = 0) (hb : ∀ q j, 101 ≤ q → b q j = 0) : zent zM (zr zM zprm) 26 31 [.ref 101] zs_75 a b = some (none, zs_75, a, b, 0, 0, 0) := (zent_eq (M := zM) (mi := zm_26) rfl rfl).trans (ct_67_r a b)
set_option maxRecDepth 100000 in
theorem ct_68_r (a : zA) (b : zB) : zr zM zprm 26 31 (0, [.ref 102], [], zs_76, a, b) = some (none, zs_76, a, b, 0, 0, 0) := (zr_run (mi := zm_26) rfl 400 _).trans rfl
set_option maxRecDepth 100000 in
theorem ct_68 (a : zA) (b : zB) (h : ∀ q j, 102 ≤ q → a q j = 0) (hb : ∀ q j, 102 ≤ q → b q j = 0) : zent zM (zr zM zprm) 26 31 [.ref 102] zs_76 a b = some (none, zs_76, a, b, 0, 0, 0) := (zent_eq (M := zM) (mi := zm_26) rfl rfl).trans (ct_68_r a b)
set_option maxRecDepth 100000 in
theorem ct_69_r (a : zA) (b : zB) : zr zM zprm 26 31 (0, [.ref 103], [], zs_77, a, b) = some (none, zs_77, a, b, 0, 0, 0) := (zr_run (mi := zm_26) rfl 400 _).trans rfl
set_option maxRecDepth 100000 in
theorem ct_69 (a : zA) (b : zB) (h : ∀ q j, 103 ≤ q → a q j = 0) (hb : ∀ q j, 103 ≤ q → b q j = 0) : zent zM (zr zM zprm) 26 31 [.ref 103] zs_77 a b = some (none, zs_77, a, b, 0, 0, 0) := (zent_eq (M := zM) (mi := zm_26) rfl rfl).trans (ct_69_r a b)
set_option maxRecDepth 100000 in
theorem ct_70_r (a : zA) (b : zB) : zr zM zprm 26 31 (0, [.ref 104], [], zs_78, a, b) = some (none, zs_78, a, b, 0, 0, 0) := (zr_run (mi := zm_26) rfl 400 _).trans rfl
set_option maxRecDepth 100000 in
theorem ct_70 (a : zA) (b : zB) (h : ∀ q j, 104 ≤ q → a q j = 0) (hb : ∀ q j, 104 ≤ q → b q j = 0) : zent zM (zr zM zprm) 26 31 [.ref 104] zs_78 a b = some (none, zs_78, a, b, 0, 0, 0) := (zent_eq (M := zM) (mi := zm_26) rfl rfl).trans (ct_70_r a b)
set_option maxRecDepth 100000 in
theorem ct_71_r (a : zA) (b : zB) : zr zM zprm 26 31 (0, [.ref 105], [], zs_79, a, b) = some (none, zs_79, a, b, 0, 0, 0) := (zr_run (mi := zm_26) rfl 400 _).trans rfl
set_option maxRecDepth 100000 in
theorem ct_71 (a : zA) (b : zB) (h : ∀ q j, 105 ≤ q → a q j = 0) (hb : ∀ q j, 105 ≤ q → b q j = 0) : zent zM (zr zM zprm) 26 31 [.ref 105] zs_79 a b = some (none, zs_79, a, b, 0, 0, 0) := (zent_eq (M := zM) (mi := zm_26) rfl rfl).trans (ct_71_r a b)
set_option maxRecDepth 100000 in
theorem ct_72_r (a : zA) (b : zB) : zr zM zprm 26 31 (0, [.ref 106], [], zs_80, a, b) = some (none, zs_80, a, b, 0, 0, 0) := (zr_run (mi := zm_26) rfl 400 _).trans rfl
set_option maxRecDepth 100000 in
theorem ct_72 (a : zA) (b : zB) (h : ∀ q j, 106 ≤ q → a q j = 0) (hb : ∀ q j, 106 ≤ q → b q j = 0) : zent zM (zr zM zprm) 26 31 [.ref 106] zs_80 a b = some (none, zs_80, a, b, 0, 0, 0) := (zent_eq (M := zM) (mi := zm_26) rfl rfl).trans (ct_72_r a b)
set_option maxRecDepth 100000 in
theorem ct_73_r (a : zA) (b : zB) : zr zM zprm 26 31 (0, [.ref 107], [], zs_81, a, b) = some (none, zs_81, a, b, 0, 0, 0) := (zr_run (mi := zm_26) rfl 400 _).trans rfl
set_option maxRecDepth 100000 in
theorem ct_73 (a : zA) (b : zB) (h : ∀ q j, 107 ≤ q → a q j = 0) (hb : ∀ q j, 107 ≤ q → b q j = 0) : zent zM (zr zM zprm) 26 31 [.ref 107] zs_81 a b = some (none, zs_81, a, b, 0, 0, 0) := (zent_eq (M := zM) (mi := zm_26) rfl rfl).trans (ct_73_r a b)
set_option maxRecDepth 100000 in
theorem ct_74_r (a : zA) (b : zB) : zr zM zprm 26 31 (0, [.ref 108], [], zs_82, a, b) = some (none, zs_82, a, b, 0, 0, 0) := (zr_run (mi := zm_26) rfl 400 _).trans rfl
set_option maxRecDepth 100000 in
theorem ct_74 (a : zA) (b : zB) (h : ∀ q j, 108 ≤ q → a q j = 0) (hb : ∀ q j, 108 ≤ q → b q j = 0) : zent zM (zr zM zprm) 26 31 [.ref 108] zs_82 a b = some (none, zs_82, a, b, 0, 0, 0) := (zent_eq (M := zM) (mi := zm_26) rfl rfl).trans (ct_74_r a b)
set_option maxRecDepth 100000 in
theorem ct_75_r (a : zA) (b : zB) : zr zM zprm 26 31 (0, [.ref 109], [], zs_83, a, b) = some (none, zs_83, a, b, 0, 0, 0) := (zr_run (mi := zm_26) rfl 400 _).trans rfl
set_option maxRecDepth 100000 in
theorem ct_75 (a : zA) (b : zB) (h : ∀ q j, 109 ≤ q → a q j = 0) (hb : ∀ q j, 109 ≤ q → b q j = 0) : zent zM (zr zM zprm) 26 31 [.ref 109] zs_83 a b = some (none, zs_83, a, b, 0, 0, 0) := (zent_eq (M := zM) (mi := zm_26) rfl rfl).trans (ct_75_r a b)
set_option maxRecDepth 100000 in
theorem ct_76_r (a : zA) (b : zB) : zr zM zprm 26 31 (0, [.ref 110], [], zs_84, a, b) = some (none, zs_84, a, b, 0, 0, 0) := (zr_run (mi := zm_26) rfl 400 _).trans rfl
set_option maxRecDepth 100000 in
theorem ct_76 (a : zA) (b : zB) (h : ∀ q j, 110 ≤ q → a q j = 0) (hb : ∀ q j, 110 ≤ q → b q j = 0) : zent zM (zr zM zprm) 26 31 [.ref 110] zs_84 a b = some (none, zs_84, a, b, 0, 0, 0) := (zent_eq (M := zM) (mi := zm_26) rfl rfl).trans (ct_76_r a b)
set_option maxRecDepth 100000 in
theorem ct_77_r (a : zA) (b : zB) : zr zM zprm 26 31 (0, [.ref 111], [], zs_85, a, b) = some (none, zs_85, a, b, 0, 0, 0) := (zr_run (mi := zm_26) rfl 400 _).trans rfl
set_option maxRecDepth 100000 in
theorem ct_77 (a : zA) (b : zB) (h : ∀ q j, 111 ≤ q → a q j = 0) (hb : ∀ q j, 111 ≤ q → b q j = 0) : zent zM (zr zM zprm) 26 31 [.ref 111] zs_85 a b = some (none, zs_85, a, b, 0, 0, 0) := (zent_eq (M := zM) (mi := zm_26) rfl rfl).trans (ct_77_r a b)
set_option maxRecDepth 100000 in
theorem ct_78_r (a : zA) (b : zB) : zr zM zprm 26 31 (0, [.ref 112], [], zs_86, a, b) = some (none, zs_86, a, b, 0, 0, 0) := (zr_run (mi := zm_26) rfl 400 _).trans rfl
set_option maxRecDepth 100000 in
theorem ct_78 (a : zA) (b : zB) (h : ∀ q j, 112 ≤ q → a q j = 0) (hb : ∀ q j, 112 ≤ q → b q j = 0) : zent zM (zr zM zprm) 26 31 [.ref 112] zs_86 a b = some (none, zs_86, a, b, 0, 0, 0) := (zent_eq (M := zM) (mi := zm_26) rfl rfl).trans (ct_78_r a b)
set_option maxRecDepth 100000 in
theorem ct_79_r (a : zA) (b : zB) : zr zM zprm 26 31 (0, [.ref 113], [], zs_87, a, b) = some (none, zs_87, a, b, 0, 0, 0) := (zr_run (mi := zm_26) rfl 400 _).trans rfl
set_option maxRecDepth 100000 in
theorem ct_79 (a : zA) (b : zB) (h : ∀ q j, 113 ≤ q → a q j = 0) (hb : ∀ q j, 113 ≤ q → b q j = 0) : zent zM (zr zM zprm) 26 31 [.ref 113] zs_87 a b = some (none, zs_87, a, b, 0, 0, 0) := (zent_eq (M := zM) (mi := zm_26) rfl rfl).trans (ct_79_r a b)
set_option maxRecDepth 100000 in
theorem ct_80_r (a : zA) (b : zB) : zr zM zprm 26 31 (0, [.ref 114], [], zs_88, a, b) = some (none, zs_88, a, b, 0, 0, 0) := (zr_run (mi := zm_26) rfl 400 _).trans rfl
set_option maxRecDepth 100000 in
theorem ct_80 (a : zA) (b : zB) (h : ∀ q j, 114 ≤ q → a q j = 0) (hb : ∀ q j, 114 ≤ q → b q j = 0) : zent zM (zr zM zprm) 26 31 [.ref 114] zs_88 a b = some (none, zs_88, a, b, 0, 0, 0) := (zent_eq (M := zM) (mi := zm_26) rfl rfl).trans (ct_80_r a b)
set_option maxRecDepth 100000 in
theorem ct_81_r (a : zA) (b : zB) : zr zM zprm 26 31 (0, [.ref 115], [], zs_89, a, b) = some (none, zs_89, a, b, 0, 0, 0) := (zr_run (mi := zm_26) rfl 400 _).trans rfl
set_option maxRecDepth 100000 in
theorem ct_81 (a : zA) (b : zB) (h : ∀ q j, 115 ≤ q → a q j = 0) (hb : ∀ q j, 115 ≤ q → b q j = 0) : zent zM (zr zM zprm) 26 31 [.ref 115] zs_89 a b = some (none, zs_89, a, b, 0, 0, 0) := (zent_eq (M := zM) (mi := zm_26) rfl rfl).trans (ct_81_r a b)
set_option maxRecDepth 100000 in
theorem ct_82_r (a : zA) (b : zB) : zr zM zprm 26 31 (0, [.ref 116], [], zs_90, a, b) = some (none, zs_90, a, b, 0, 0, 0) := (zr_run (mi := zm_26) rfl 400 _).trans rfl
set_option maxRecDepth 100000 in
theorem ct_82 (a : zA) (b : zB) (h : ∀ q j, 116 ≤ q → a q j = 0) (hb : ∀ q j, 116 ≤ q → b q j = 0) : zent zM (zr zM zprm) 26 31 [.ref 116] zs_90 a b = some (none, zs_90, a, b, 0, 0, 0) := (zent_eq (M := zM) (mi := zm_26) rfl rfl).trans (ct_82_r a b)
set_option maxRecDepth 100000 in
theorem ct_83_r (a : zA) (b : zB) : zr zM zprm 26 31 (0, [.ref 117], [], zs_91, a, b) = some (none, zs_91, a, b, 0, 0, 0) := (zr_run (mi := zm_26) rfl 400 _).trans rfl
set_option maxRecDepth 100000 in
theorem ct_83 (a : zA) (b : zB) (h : ∀ q j, 117 ≤ q → a q j = 0) (hb : ∀ q j, 117 ≤ q → b q j = 0) : zent zM (zr zM zprm) 26 31 [.ref 117] zs_91 a b = some (none, zs_91, a, b, 0, 0, 0) := (zent_eq (M := zM) (mi := zm_26) rfl rfl).trans (ct_83_r a b)
set_option maxRecDepth 100000 in
theorem ct_84_r (a : zA) (b : zB) : zr zM zprm 26 31 (0, [.ref 118], [], zs_92, a, b) = some (none, zs_92, a, b, 0, 0, 0) := (zr_run (mi := zm_26) rfl 400 _).trans rfl
set_option maxRecDepth 100000 in
theorem ct_84 (a : zA) (b : zB) (h : ∀ q j, 118 ≤ q → a q j = 0) (hb : ∀ q j, 118 ≤ q → b q j = 0) : zent zM (zr zM zprm) 26 31 [.ref 118] zs_92 a b = some (none, zs_92, a, b, 0, 0, 0) := (zent_eq (M := zM) (mi := zm_26) rfl rfl).trans (ct_84_r a b)
set_option maxRecDepth 100000 in
theorem ct_85_r (a : zA) (b : zB) : zr zM zprm 26 31 (0, [.ref 119], [], zs_93, a, b) = some (none, zs_93, a, b, 0, 0, 0) := (zr_run (mi := zm_26) rfl 400 _).trans rfl
set_option maxRecDepth 100000 in
theorem ct_85 (a : zA) (b : zB) (h : ∀ q j, 119 ≤ q → a q j = 0) (hb : ∀ q j, 119 ≤ q → b q j = 0) : zent zM (zr zM zprm) 26 31 [.ref 119] zs_93 a b = some (none, zs_93, a, b, 0, 0, 0) := (zent_eq (M := zM) (mi := zm_26) rfl rfl).trans (ct_85_r a b)
set_option maxRecDepth 100000 in
theorem ct_86_r (a : zA) (b : zB) : zr zM zprm 26 31 (0, [.ref 120], [], zs_94, a, b) = some (none, zs_94, a, b, 0, 0, 0) := (zr_run (mi := zm_26) rfl 400 _).trans rfl
set_option maxRecDepth 100000 in
theorem ct_86 (a : zA) (b : zB) (h : ∀ q j, 120 ≤ q → a q j = 0) (hb : ∀ q j, 120 ≤ q → b q j = 0) : zent zM (zr zM zprm) 26 31 [.ref 120] zs_94 a b = some (none, zs_94, a, b, 0, 0, 0) := (zent_eq (M := zM) (mi := zm_26) rfl rfl).trans (ct_86_r a b)
set_option maxRecDepth 100000 in
theorem ct_87_r (a : zA) (b : zB) : zr zM zprm 26 31 (0, [.ref 121], [], zs_95, a, b) = some (none, zs_95, a, b, 0, 0, 0) := (zr_run (mi := zm_26) rfl 400 _).trans rfl
set_option maxRecDepth 100000 in
theorem ct_87 (a : zA) (b : zB) (h : ∀ q j, 121 ≤ q → a q j = 0) (hb : ∀ q j, 121 ≤ q → b q j = 0) : zent zM (zr zM zprm) 26 31 [.ref 121] zs_95 a b = some (none, zs_95, a, b, 0, 0, 0) := (zent_eq (M := zM) (mi := zm_26) rfl rfl).trans (ct_87_r a b)
set_option maxRecDepth 100000 in
theorem ct_88_r (a : zA) (b : zB) : zr zM zprm 26 31 (0, [.ref 122], [], zs_96, a, b) = some (none, zs_96, a, b, 0, 0, 0) := (zr_run (mi := zm_26) rfl 400 _).trans rfl
set_option maxRecDepth 100000 in
theorem ct_88 (a : zA) (b : zB) (h : ∀ q j, 122 ≤ q → a q j = 0) (hb : ∀ q j, 122 ≤ q → b q j = 0) : zent zM (zr zM zprm) 26 31 [.ref 122] zs_96 a b = some (none, zs_96, a, b, 0, 0, 0) := (zent_eq (M := zM) (mi := zm_26) rfl rfl).trans (ct_88_r a b)
set_option maxRecDepth 100000 in
theorem ct_89_r (a : zA) (b : zB) : zr zM zprm 26 31 (0, [.ref 123], [], zs_97, a, b) = some (none, zs_97, a, b, 0, 0, 0) := (zr_run (mi := zm_26) rfl 400 _).trans rfl
set_option maxRecDepth 100000 in
theorem ct_89 (a : zA) (b : zB) (h : ∀ q j, 123 ≤ q → a q j = 0) (hb : ∀ q j, 123 ≤ q → b q j = 0) : zent zM (zr zM zprm) 26 31 [.ref 123] zs_97 a b = some (none, zs_97, a, b, 0, 0, 0) := (zent_eq (M := zM) (mi := zm_26) rfl rfl).trans (ct_89_r a b)
set_option maxRecDepth 100000 in
theorem ct_90_r (a : zA) (b : zB) : zr zM zprm 26 31 (0, [.ref 124], [], zs_98, a, b) = some (none, zs_98, a, b, 0, 0, 0) := (zr_run (mi := zm_26) rfl 400 _).trans rfl
set_option maxRecDepth 100000 in
theorem ct_90 (a : zA) (b : zB) (h : ∀ q j, 124 ≤ q → a q j = 0) (hb : ∀ q j, 124 ≤ q → b q j = 0) : zent zM (zr zM zprm) 26 31 [.ref 124] zs_98 a b = some (none, zs_98, a, b, 0, 0, 0) := (zent_eq (M := zM) (mi := zm_26) rfl rfl).trans (ct_90_r a b)
set_option maxRecDepth 100000 in
theorem ct_91_r (a : zA) (b : zB) : zr zM zprm 26 31 (0, [.ref 125], [], zs_99, a, b) = some (none, zs_99, a, b, 0, 0, 0) := (zr_run (mi := zm_26) rfl 400 _).trans rfl
set_option maxRecDepth 100000 in
theorem ct_91 (a : zA) (b : zB) (h : ∀ q j, 125 ≤ q → a q j = 0) (hb : ∀ q j, 125 ≤ q → b q j = 0) : zent zM (zr zM zprm) 26 31 [.ref 125] zs_99 a b = some (none, zs_99, a, b, 0, 0, 0) := (zent_eq (M := zM) (mi := zm_26) rfl rfl).trans (ct_91_r a b)
set_option maxRecDepth 100000 in
theorem ct_92_r (a : zA) (b : zB) : zr zM zprm 26 31 (0, [.ref 126], [], zs_100, a, b) = some (none, zs_100, a, b, 0, 0, 0) := (zr_run (mi := zm_26) rfl 400 _).trans rfl
set_option maxRecDepth 100000 in
theorem ct_92 (a : zA) (b : zB) (h : ∀ q j, 126 ≤ q → a q j = 0) (hb : ∀ q j, 126 ≤ q → b q j = 0) : zent zM (zr zM zprm) 26 31 [.ref 126] zs_100 a b = some (none, zs_100, a, b, 0, 0, 0) := (zent_eq (M := zM) (mi := zm_26) rfl rfl).trans (ct_92_r a b)
set_option maxRecDepth 100000 in
theorem ct_93_r (a : zA) (b : zB) : zr zM zprm 26 31 (0, [.ref 127], [], zs_101, a, b) = some (none, zs_101, a, b, 0, 0, 0) := (zr_run (mi := zm_26) rfl 400 _).trans rfl
set_option maxRecDepth 100000 in
theorem ct_93 (a : zA) (b : zB) (h : ∀ q j, 127 ≤ q → a q j = 0) (hb : ∀ q j, 127 ≤ q → b q j = 0) : zent zM (zr zM zprm) 26 31 [.ref 127] zs_101 a b = some (none, zs_101, a, b, 0, 0, 0) := (zent_eq (M := zM) (mi := zm_26) rfl rfl).trans (ct_93_r a b)
set_option maxRecDepth 100000 in
theorem ct_94_r (a : zA) (b : zB) : zr zM zprm 26 31 (0, [.ref 128], [], zs_102, a, b) = some (none, zs_102, a, b, 0, 0, 0) := (zr_run (mi := zm_26) rfl 400 _).trans rfl
set_option maxRecDepth 100000 in
theorem ct_94 (a : zA) (b : zB) (h : ∀ q j, 128 ≤ q → a q j = 0) (hb : ∀ q j, 128 ≤ q → b q j = 0) : zent zM (zr zM zprm) 26 31 [.ref 128] zs_102 a b = some (none, zs_102, a, b, 0, 0, 0) := (zent_eq (M := zM) (mi := zm_26) rfl rfl).trans (ct_94_r a b)
set_option maxRecDepth 100000 in
theorem ct_95_r (a : zA) (b : zB) : zr zM zprm 26 31 (0, [.ref 129], [], zs_103, a, b) = some (none, zs_103, a, b, 0, 0, 0) := (zr_run (mi := zm_26) rfl 400 _).trans rfl
set_option maxRecDepth 100000 in
theorem ct_95 (a : zA) (b : zB) (h : ∀ q j, 129 ≤ q → a q j = 0) (hb : ∀ q j, 129 ≤ q → b q j = 0) : zent zM (zr zM zprm) 26 31 [.ref 129] zs_103 a b = some (none, zs_103, a, b, 0, 0, 0) := (zent_eq (M := zM) (mi := zm_26) rfl rfl).trans (ct_95_r a b)
set_option maxRecDepth 100000 in
theorem ct_96_r (a : zA) (b : zB) : zr zM zprm 26 31 (0, [.ref 130], [], zs_104, a, b) = some (none, zs_104, a, b, 0, 0, 0) := (zr_run (mi := zm_26) rfl 400 _).trans rfl
set_option maxRecDepth 100000 in
theorem ct_96 (a : zA) (b : zB) (h : ∀ q j, 130 ≤ q → a q j = 0) (hb : ∀ q j, 130 ≤ q → b q j = 0) : zent zM (zr zM zprm) 26 31 [.ref 130] zs_104 a b = some (none, zs_104, a, b, 0, 0, 0) := (zent_eq (M := zM) (mi := zm_26) rfl rfl).trans (ct_96_r a b)
set_option maxRecDepth 100000 in
theorem ct_97_r (a : zA) (b : zB) : zr zM zprm 26 31 (0, [.ref 131], [], zs_105, a, b) = some (none, zs_105, a, b, 0, 0, 0) := (zr_run (mi := zm_26) rfl 400 _).trans rfl
set_option maxRecDepth 100000 in
theorem ct_97 (a : zA) (b : zB) (h : ∀ q j, 131 ≤ q → a q j = 0) (hb : ∀ q j, 131 ≤ q → b q j = 0) : zent zM (zr zM zprm) 26 31 [.ref 131] zs_105 a b = some (none, zs_105, a, b, 0, 0, 0) := (zent_eq (M := zM) (mi := zm_26) rfl rfl).trans (ct_97_r a b)
set_option maxRecDepth 100000 in
theorem ct_98_r (a : zA) (b : zB) : zr zM zprm 26 31 (0, [.ref 132], [], zs_106, a, b) = some (none, zs_106, a, b, 0, 0, 0) := (zr_run (mi := zm_26) rfl 400 _).trans rfl
set_option maxRecDepth 100000 in
theorem ct_98 (a : zA) (b : zB) (h : ∀ q j, 132 ≤ q → a q j = 0) (hb : ∀ q j, 132 ≤ q → b q j = 0) : zent zM (zr zM zprm) 26 31 [.ref 132] zs_106 a b = some (none, zs_106, a, b, 0, 0, 0) := (zent_eq (M := zM) (mi := zm_26) rfl rfl).trans (ct_98_r a b)
set_option maxRecDepth 100000 in
theorem ct_99_r (a : zA) (b : zB) : zr zM zprm 26 31 (0, [.ref 133], [], zs_107, a, b) = some (none, zs_107, a, b, 0, 0, 0) := (zr_run (mi := zm_26) rfl 400 _).trans rfl
set_option maxRecDepth 100000 in
theorem ct_99 (a : zA) (b : zB) (h : ∀ q j, 133 ≤ q → a q j = 0) (hb : ∀ q j, 133 ≤ q → b q j = 0) : zent zM (zr zM zprm) 26 31 [.ref 133] zs_107 a b = some (none, zs_107, a, b, 0, 0, 0) := (zent_eq (M := zM) (mi := zm_26) rfl rfl).trans (ct_99_r a b)
set_option maxRecDepth 100000 in
theorem ct_100_r (a : zA) (b : zB) : zr zM zprm 26 31 (0, [.ref 134], [], zs_108, a, b) = some (none, zs_108, a, b, 0, 0, 0) := (zr_run (mi := zm_26) rfl 400 _).trans rfl
set_option maxRecDepth 100000 in
theorem ct_100 (a : zA) (b : zB) (h : ∀ q j, 134 ≤ q → a q j = 0) (hb : ∀ q j, 134 ≤ q → b q j = 0) : zent zM (zr zM zprm) 26 31 [.ref 134] zs_108 a b = some (none, zs_108, a, b, 0, 0, 0) := (zent_eq (M := zM) (mi := zm_26) rfl rfl).trans (ct_100_r a b)
set_option maxRecDepth 100000 in
theorem ct_101_r (a : zA) (b : zB) : zr zM zprm 26 31 (0, [.ref 135], [], zs_109, a, b) = some (none, zs_109, a, b, 0, 0, 0) := (zr_run (mi := zm_26) rfl 400 _).trans rfl
set_option maxRecDepth 100000 in
theorem ct_101 (a : zA) (b : zB) (h : ∀ q j, 135 ≤ q → a q j = 0) (hb : ∀ q j, 135 ≤ q → b q j = 0) : zent zM (zr zM zprm) 26 31 [.ref 135] zs_109 a b = some (none, zs_109, a, b, 0, 0, 0) := (zent_eq (M := zM) (mi := zm_26) rfl rfl).trans (ct_101_r a b)
set_option maxRecDepth 100000 in
theorem ct_102_r (a : zA) (b : zB) : zr zM zprm 26 31 (0, [.ref 136], [], zs_110, a, b) = some (none, zs_110, a, b, 0, 0, 0) := (zr_run (mi := zm_26) rfl 400 _).trans rfl
set_option maxRecDepth 100000 in
theorem ct_102 (a : zA) (b : zB) (h : ∀ q j, 136 ≤ q → a q j = 0) (hb : ∀ q j, 136 ≤ q → b q j = 0) : zent zM (zr zM zprm) 26 31 [.ref 136] zs_110 a b = some (none, zs_110, a, b, 0, 0, 0) := (zent_eq (M := zM) (mi := zm_26) rfl rfl).trans (ct_102_r a b)
set_option maxRecDepth 100000 in
theorem ct_103_r (a : zA) (b : zB) : zr zM zprm 26 31 (0, [.ref 137], [], zs_111, a, b) = some (none, zs_111, a, b, 0, 0, 0) := (zr_run (mi := zm_26) rfl 400 _).trans rfl
set_option maxRecDepth 100000 in
theorem ct_103 (a : zA) (b : zB) (h : ∀ q j, 137 ≤ q → a q j = 0) (hb : ∀ q j, 137 ≤ q → b q j = 0) : zent zM (zr zM zprm) 26 31 [.ref 137] zs_111 a b = some (none, zs_111, a, b, 0, 0, 0) := (zent_eq (M := zM) (mi := zm_26) rfl rfl).trans (ct_103_r a b)
