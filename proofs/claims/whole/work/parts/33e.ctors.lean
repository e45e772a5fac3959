/-! The constructors, by segments. -/
set_option maxRecDepth 100000 in
theorem ct_9_s80 (a : zA) (b : zB) : zr zM zprm 37 31 (157, [.ref 35, .retAddr 0, .retAddr 0, .retAddr 0, .retAddr 0, .int 37], [.ref 85, .int 37, .ref 40], zs_59, a, b) = zr zM zprm 37 31 (137, [.ref 35, .retAddr 0, .retAddr 0, .retAddr 0, .retAddr 0, .int 38], [], zs_229, a, b) := (zr_run (mi := zm_37) rfl 400 _).trans rfl
set_option maxRecDepth 100000 in
theorem ct_9_g80 (a : zA) (b : zB) (h : ∀ q j, 86 ≤ q → a q j = 0) (hb : ∀ q j, 86 ≤ q → b q j = 0) : zr zM zprm 37 31 (157, [.ref 35, .retAddr 0, .retAddr 0, .retAddr 0, .retAddr 0, .int 37], [.ref 85, .int 37, .ref 40], zs_59, a, b) = some (none, zs_17, a, b, 85, 0, 170) := by
  refine (ct_9_s80 a b).trans ?_
  rw [ct_9_g81 a b (fun q j hq => h q j (by omega)) (fun q j hq => hb q j (by omega))]
  all_goals rfl
set_option maxRecDepth 100000 in
theorem ct_9_s79 (a : zA) (b : zB) : zr zM zprm 37 31 (137, [.ref 35, .retAddr 0, .retAddr 0, .retAddr 0, .retAddr 0, .int 37], [], zs_230, a, b) = zCNT 2 (zCA zM (zr zM zprm) 26 [.ref 85] zs_59 (zzA a 85) (zzB b 85) (fun sh a b => zr zM zprm 37 31 (157, [.ref 35, .retAddr 0, .retAddr 0, .retAddr 0, .retAddr 0, .int 37], [.ref 85, .int 37, .ref 40], sh, a, b))) := (zr_run (mi := zm_37) rfl 400 _).trans rfl
set_option maxRecDepth 100000 in
theorem ct_9_g79 (a : zA) (b : zB) (h : ∀ q j, 85 ≤ q → a q j = 0) (hb : ∀ q j, 85 ≤ q → b q j = 0) : zr zM zprm 37 31 (137, [.ref 35, .retAddr 0, .retAddr 0, .retAddr 0, .retAddr 0, .int 37], [], zs_230, a, b) = some (none, zs_17, a, b, 86, 0, 172) := by
  refine (ct_9_s79 a b).trans ?_
  rw [zzA_z h 85 (by decide), zzB_z hb 85 (by decide)]
  have h1 : ∀ q j, 85 ≤ q → a q j = 0 := fun q j hq => h q j (by omega)
  have hb1 : ∀ q j, 85 ≤ q → b q j = 0 := fun q j hq => hb q j (by omega)
  rw [zCA_ok (ct_51 a b h1 hb1) rfl, ct_9_g80 _ b (fun q j hq => h q j (by omega)) (fun q j hq => hb q j (by omega))]
  all_goals rfl
set_option maxRecDepth 100000 in
theorem ct_9_s78 (a : zA) (b : zB) : zr zM zprm 37 31 (157, [.ref 35, .retAddr 0, .retAddr 0, .retAddr 0, .retAddr 0, .int 36], [.ref 84, .int 36, .ref 40], zs_58, a, b) = zr zM zprm 37 31 (137, [.ref 35, .retAddr 0, .retAddr 0, .retAddr 0, .retAddr 0, .int 37], [], zs_230, a, b) := (zr_run (mi := zm_37) rfl 400 _).trans rfl
set_option maxRecDepth 100000 in
theorem ct_9_g78 (a : zA) (b : zB) (h : ∀ q j, 85 ≤ q → a q j = 0) (hb : ∀ q j, 85 ≤ q → b q j = 0) : zr zM zprm 37 31 (157, [.ref 35, .retAddr 0, .retAddr 0, .retAddr 0, .retAddr 0, .int 36], [.ref 84, .int 36, .ref 40], zs_58, a, b) = some (none, zs_17, a, b, 86, 0, 172) := by
  refine (ct_9_s78 a b).trans ?_
  rw [ct_9_g79 a b (fun q j hq => h q j (by omega)) (fun q j hq => hb q j (by omega))]
  all_goals rfl
set_option maxRecDepth 100000 in
theorem ct_9_s77 (a : zA) (b : zB) : zr zM zprm 37 31 (137, [.ref 35, .retAddr 0, .retAddr 0, .retAddr 0, .retAddr 0, .int 36], [], zs_231, a, b) = zCNT 2 (zCA zM (zr zM zprm) 26 [.ref 84] zs_58 (zzA a 84) (zzB b 84) (fun sh a b => zr zM zprm 37 31 (157, [.ref 35, .retAddr 0, .retAddr 0, .retAddr 0, .retAddr 0, .int 36], [.ref 84, .int 36, .ref 40], sh, a, b))) := (zr_run (mi := zm_37) rfl 400 _).trans rfl
set_option maxRecDepth 100000 in
theorem ct_9_g77 (a : zA) (b : zB) (h : ∀ q j, 84 ≤ q → a q j = 0) (hb : ∀ q j, 84 ≤ q → b q j = 0) : zr zM zprm 37 31 (137, [.ref 35, .retAddr 0, .retAddr 0, .retAddr 0, .retAddr 0, .int 36], [], zs_231, a, b) = some (none, zs_17, a, b, 87, 0, 174) := by
  refine (ct_9_s77 a b).trans ?_
  rw [zzA_z h 84 (by decide), zzB_z hb 84 (by decide)]
  have h1 : ∀ q j, 84 ≤ q → a q j = 0 := fun q j hq => h q j (by omega)
  have hb1 : ∀ q j, 84 ≤ q → b q j = 0 := fun q j hq => hb q j (by omega)
  rw [zCA_ok (ct_50 a b h1 hb1) rfl, ct_9_g78 _ b (fun q j hq => h q j (by omega)) (fun q j hq => hb q j (by omega))]
  all_goals rfl
set_option maxRecDepth 100000 in
theorem ct_9_s76 (a : zA) (b : zB) : zr zM zprm 37 31 (157, [.ref 35, .retAddr 0, .retAddr 0, .retAddr 0, .retAddr 0, .int 35], [.ref 83, .int 35, .ref 40], zs_57, a, b) = zr zM zprm 37 31 (137, [.ref 35, .retAddr 0, .retAddr 0, .retAddr 0, .retAddr 0, .int 36], [], zs_231, a, b) := (zr_run (mi := zm_37) rfl 400 _).trans rfl
set_option maxRecDepth 100000 in
theorem ct_9_g76 (a : zA) (b : zB) (h : ∀ q j, 84 ≤ q → a q j = 0) (hb : ∀ q j, 84 ≤ q → b q j = 0) : zr zM zprm 37 31 (157, [.ref 35, .retAddr 0, .retAddr 0, .retAddr 0, .retAddr 0, .int 35], [.ref 83, .int 35, .ref 40], zs_57, a, b) = some (none, zs_17, a, b, 87, 0, 174) := by
  refine (ct_9_s76 a b).trans ?_
  rw [ct_9_g77 a b (fun q j hq => h q j (by omega)) (fun q j hq => hb q j (by omega))]
  all_goals rfl
set_option maxRecDepth 100000 in
theorem ct_9_s75 (a : zA) (b : zB) : zr zM zprm 37 31 (137, [.ref 35, .retAddr 0, .retAddr 0, .retAddr 0, .retAddr 0, .int 35], [], zs_232, a, b) = zCNT 2 (zCA zM (zr zM zprm) 26 [.ref 83] zs_57 (zzA a 83) (zzB b 83) (fun sh a b => zr zM zprm 37 31 (157, [.ref 35, .retAddr 0, .retAddr 0, .retAddr 0, .retAddr 0, .int 35], [.ref 83, .int 35, .ref 40], sh, a, b))) := (zr_run (mi := zm_37) rfl 400 _).trans rfl
set_option maxRecDepth 100000 in
theorem ct_9_g75 (a : zA) (b : zB) (h : ∀ q j, 83 ≤ q → a q j = 0) (hb : ∀ q j, 83 ≤ q → b q j = 0) : zr zM zprm 37 31 (137, [.ref 35, .retAddr 0, .retAddr 0, .retAddr 0, .retAddr 0, .int 35], [], zs_232, a, b) = some (none, zs_17, a, b, 88, 0, 176) := by
  refine (ct_9_s75 a b).trans ?_
  rw [zzA_z h 83 (by decide), zzB_z hb 83 (by decide)]
  have h1 : ∀ q j, 83 ≤ q → a q j = 0 := fun q j hq => h q j (by omega)
  have hb1 : ∀ q j, 83 ≤ q → b q j = 0 := fun q j hq => hb q j (by omega)
  rw [zCA_ok (ct_49 a b h1 hb1) rfl, ct_9_g76 _ b (fun q j hq => h q j (by omega)) (fun q j hq => hb q j (by omega))]
  all_goals rfl
set_option maxRecDepth 100000 in
theorem ct_9_s74 (a : zA) (b : zB) : zr zM zprm 37 31 (157, [.ref 35, .retAddr 0, .retAddr 0, .retAddr 0, .retAddr 0, .int 34], [.ref 82, .int 34, .ref 40], zs_56, a, b) = zr zM zprm 37 31 (137, [.ref 35, .retAddr 0, .retAddr 0, .retAddr 0, .retAddr 0, .int 35], [], zs_232, a, b) := (zr_run (mi := zm_37) rfl 400 _).trans rfl
set_option maxRecDepth 100000 in
theorem ct_9_g74 (a : zA) (b : zB) (h : ∀ q j, 83 ≤ q → a q j = 0) (hb : ∀ q j, 83 ≤ q → b q j = 0) : zr zM zprm 37 31 (157, [.ref 35, .retAddr 0, .retAddr 0, .retAddr 0, .retAddr 0, .int 34], [.ref 82, .int 34, .ref 40], zs_56, a, b) = some (none, zs_17, a, b, 88, 0, 176) := by
  refine (ct_9_s74 a b).trans ?_
  rw [ct_9_g75 a b (fun q j hq => h q j (by omega)) (fun q j hq => hb q j (by omega))]
  all_goals rfl
set_option maxRecDepth 100000 in
theorem ct_9_s73 (a : zA) (b : zB) : zr zM zprm 37 31 (137, [.ref 35, .retAddr 0, .retAddr 0, .retAddr 0, .retAddr 0, .int 34], [], zs_233, a, b) = zCNT 2 (zCA zM (zr zM zprm) 26 [.ref 82] zs_56 (zzA a 82) (zzB b 82) (fun sh a b => zr zM zprm 37 31 (157, [.ref 35, .retAddr 0, .retAddr 0, .retAddr 0, .retAddr 0, .int 34], [.ref 82, .int 34, .ref 40], sh, a, b))) := (zr_run (mi := zm_37) rfl 400 _).trans rfl
set_option maxRecDepth 100000 in
theorem ct_9_g73 (a : zA) (b : zB) (h : ∀ q j, 82 ≤ q → a q j = 0) (hb : ∀ q j, 82 ≤ q → b q j = 0) : zr zM zprm 37 31 (137, [.ref 35, .retAddr 0, .retAddr 0, .retAddr 0, .retAddr 0, .int 34], [], zs_233, a, b) = some (none, zs_17, a, b, 89, 0, 178) := by
  refine (ct_9_s73 a b).trans ?_
  rw [zzA_z h 82 (by decide), zzB_z hb 82 (by decide)]
  have h1 : ∀ q j, 82 ≤ q → a q j = 0 := fun q j hq => h q j (by omega)
  have hb1 : ∀ q j, 82 ≤ q → b q j = 0 := fun q j hq => hb q j (by omega)
  rw [zCA_ok (ct_48 a b h1 hb1) rfl, ct_9_g74 _ b (fun q j hq => h q j (by omega)) (fun q j hq => hb q j (by omega))]
  all_goals rfl
set_option maxRecDepth 100000 in
theorem ct_9_s72 (a : zA) (b : zB) : zr zM zprm 37 31 (157, [.ref 35, .retAddr 0, .retAddr 0, .retAddr 0, .retAddr 0, .int 33], [.ref 81, .int 33, .ref 40], zs_55, a, b) = zr zM zprm 37 31 (137, [.ref 35, .retAddr 0, .retAddr 0, .retAddr 0, .retAddr 0, .int 34], [], zs_233, a, b) := (zr_run (mi := zm_37) rfl 400 _).trans rfl
set_option maxRecDepth 100000 in
theorem ct_9_g72 (a : zA) (b : zB) (h : ∀ q j, 82 ≤ q → a q j = 0) (hb : ∀ q j, 82 ≤ q → b q j = 0) : zr zM zprm 37 31 (157, [.ref 35, .retAddr 0, .retAddr 0, .retAddr 0, .retAddr 0, .int 33], [.ref 81, .int 33, .ref 40], zs_55, a, b) = some (none, zs_17, a, b, 89, 0, 178) := by
  refine (ct_9_s72 a b).trans ?_
  rw [ct_9_g73 a b (fun q j hq => h q j (by omega)) (fun q j hq => hb q j (by omega))]
  all_goals rfl
set_option maxRecDepth 100000 in
theorem ct_9_s71 (a : zA) (b : zB) : zr zM zprm 37 31 (137, [.ref 35, .retAddr 0, .retAddr 0, .retAddr 0, .retAddr 0, .int 33], [], zs_234, a, b) = zCNT 2 (zCA zM (zr zM zprm) 26 [.ref 81] zs_55 (zzA a 81) (zzB b 81) (fun sh a b => zr zM zprm 37 31 (157, [.ref 35, .retAddr 0, .retAddr 0, .retAddr 0, .retAddr 0, .int 33], [.ref 81, .int 33, .ref 40], sh, a, b))) := (zr_run (mi := zm_37) rfl 400 _).trans rfl
set_option maxRecDepth 100000 in
theorem ct_9_g71 (a : zA) (b : zB) (h : ∀ q j, 81 ≤ q → a q j = 0) (hb : ∀ q j, 81 ≤ q → b q j = 0) : zr zM zprm 37 31 (137, [.ref 35, .retAddr 0, .retAddr 0, .retAddr 0, .retAddr 0, .int 33], [], zs_234, a, b) = some (none, zs_17, a, b, 90, 0, 180) := by
  refine (ct_9_s71 a b).trans ?_
  rw [zzA_z h 81 (by decide), zzB_z hb 81 (by decide)]
  have h1 : ∀ q j, 81 ≤ q → a q j = 0 := fun q j hq => h q j (by omega)
  have hb1 : ∀ q j, 81 ≤ q → b q j = 0 := fun q j hq => hb q j (by omega)
  rw [zCA_ok (ct_47 a b h1 hb1) rfl, ct_9_g72 _ b (fun q j hq => h q j (by omega)) (fun q j hq => hb q j (by omega))]
  all_goals rfl
set_option maxRecDepth 100000 in
theorem ct_9_s70 (a : zA) (b : zB) : zr zM zprm 37 31 (157, [.ref 35, .retAddr 0, .retAddr 0, .retAddr 0, .retAddr 0, .int 32], [.ref 80, .int 32, .ref 40], zs_54, a, b) = zr zM zprm 37 31 (137, [.ref 35, .retAddr 0, .retAddr 0, .retAddr 0, .retAddr 0, .int 33], [], zs_234, a, b) := (zr_run (mi := zm_37) rfl 400 _).trans rfl
set_option maxRecDepth 100000 in
theorem ct_9_g70 (a : zA) (b : zB) (h : ∀ q j, 81 ≤ q → a q j = 0) (hb : ∀ q j, 81 ≤ q → b q j = 0) : zr zM zprm 37 31 (157, [.ref 35, .retAddr 0, .retAddr 0, .retAddr 0, .retAddr 0, .int 32], [.ref 80, .int 32, .ref 40], zs_54, a, b) = some (none, zs_17, a, b, 90, 0, 180) := by
  refine (ct_9_s70 a b).trans ?_
  rw [ct_9_g71 a b (fun q j hq => h q j (by omega)) (fun q j hq => hb q j (by omega))]
  all_goals rfl
set_option maxRecDepth 100000 in
theorem ct_9_s69 (a : zA) (b : zB) : zr zM zprm 37 31 (137, [.ref 35, .retAddr 0, .retAddr 0, .retAddr 0, .retAddr 0, .int 32], [], zs_235, a, b) = zCNT 2 (zCA zM (zr zM zprm) 26 [.ref 80] zs_54 (zzA a 80) (zzB b 80) (fun sh a b => zr zM zprm 37 31 (157, [.ref 35, .retAddr 0, .retAddr 0, .retAddr 0, .retAddr 0, .int 32], [.ref 80, .int 32, .ref 40], sh, a, b))) := (zr_run (mi := zm_37) rfl 400 _).trans rfl
set_option maxRecDepth 100000 in
theorem ct_9_g69 (a : zA) (b : zB) (h : ∀ q j, 80 ≤ q → a q j = 0) (hb : ∀ q j, 80 ≤ q → b q j = 0) : zr zM zprm 37 31 (137, [.ref 35, .retAddr 0, .retAddr 0, .retAddr 0, .retAddr 0, .int 32], [], zs_235, a, b) = some (none, zs_17, a, b, 91, 0, 182) := by
  refine (ct_9_s69 a b).trans ?_
  rw [zzA_z h 80 (by decide), zzB_z hb 80 (by decide)]
  have h1 : ∀ q j, 80 ≤ q → a q j = 0 := fun q j hq => h q j (by omega)
  have hb1 : ∀ q j, 80 ≤ q → b q j = 0 := fun q j hq => hb q j (by omega)
  rw [zCA_ok (ct_46 a b h1 hb1) rfl, ct_9_g70 _ b (fun q j hq => h q j (by omega)) (fun q j hq => hb q j (by omega))]
  all_goals rfl
set_option maxRecDepth 100000 in
theorem ct_9_s68 (a : zA) (b : zB) : zr zM zprm 37 31 (157, [.ref 35, .retAddr 0, .retAddr 0, .retAddr 0, .retAddr 0, .int 31], [.ref 79, .int 31, .ref 40], zs_53, a, b) = zr zM zprm 37 31 (137, [.ref 35, .retAddr 0, .retAddr 0, .retAddr 0, .retAddr 0, .int 32], [], zs_235, a, b) := (zr_run (mi := zm_37) rfl 400 _).trans rfl
set_option maxRecDepth 100000 in
theorem ct_9_g68 (a : zA) (b : zB) (h : ∀ q j, 80 ≤ q → a q j = 0) (hb : ∀ q j, 80 ≤ q → b q j = 0) : zr zM zprm 37 31 (157, [.ref 35, .retAddr 0, .retAddr 0, .retAddr 0, .retAddr 0, .int 31], [.ref 79, .int 31, .ref 40], zs_53, a, b) = some (none, zs_17, a, b, 91, 0, 182) := by
  refine (ct_9_s68 a b).trans ?_
  rw [ct_9_g69 a b (fun q j hq => h q j (by omega)) (fun q j hq => hb q j (by omega))]
  all_goals rfl
set_option maxRecDepth 100000 in
theorem ct_9_s67 (a : zA) (b : zB) : zr zM zprm 37 31 (137, [.ref 35, .retAddr 0, .retAddr 0, .retAddr 0, .retAddr 0, .int 31], [], zs_236, a, b) = zCNT 2 (zCA zM (zr zM zprm) 26 [.ref 79] zs_53 (zzA a 79) (zzB b 79) (fun sh a b => zr zM zprm 37 31 (157, [.ref 35, .retAddr 0, .retAddr 0, .retAddr 0, .retAddr 0, .int 31], [.ref 79, .int 31, .ref 40], sh, a, b))) := (zr_run (mi := zm_37) rfl 400 _).trans rfl
set_option maxRecDepth 100000 in
theorem ct_9_g67 (a : zA) (b : zB) (h : ∀ q j, 79 ≤ q → a q j = 0) (hb : ∀ q j, 79 ≤ q → b q j = 0) : zr zM zprm 37 31 (137, [.ref 35, .retAddr 0, .retAddr 0, .retAddr 0, .retAddr 0, .int 31], [], zs_236, a, b) = some (none, zs_17, a, b, 92, 0, 184) := by
  refine (ct_9_s67 a b).trans ?_
  rw [zzA_z h 79 (by decide), zzB_z hb 79 (by decide)]
  have h1 : ∀ q j, 79 ≤ q → a q j = 0 := fun q j hq => h q j (by omega)
  have hb1 : ∀ q j, 79 ≤ q → b q j = 0 := fun q j hq => hb q j (by omega)
  rw [zCA_ok (ct_45 a b h1 hb1) rfl, ct_9_g68 _ b (fun q j hq => h q j (by omega)) (fun q j hq => hb q j (by omega))]
  all_goals rfl
set_option maxRecDepth 100000 in
theorem ct_9_s66 (a : zA) (b : zB) : zr zM zprm 37 31 (157, [.ref 35, .retAddr 0, .retAddr 0, .retAddr 0, .retAddr 0, .int 30], [.ref 78, .int 30, .ref 40], zs_52, a, b) = zr zM zprm 37 31 (137, [.ref 35, .retAddr 0, .retAddr 0, .retAddr 0, .retAddr 0, .int 31], [], zs_236, a, b) := (zr_run (mi := zm_37) rfl 400 _).trans rfl
set_option maxRecDepth 100000 in
theorem ct_9_g66 (a : zA) (b : zB) (h : ∀ q j, 79 ≤ q → a q j = 0) (hb : ∀ q j, 79 ≤ q → b q j = 0) : zr zM zprm 37 31 (157, [.ref 35, .retAddr 0, .retAddr 0, .retAddr 0, .retAddr 0, .int 30], [.ref 78, .int 30, .ref 40], zs_52, a, b) = some (none, zs_17, a, b, 92, 0, 184) := by
  refine (ct_9_s66 a b).trans ?_
  rw [ct_9_g67 a b (fun q j hq => h q j (by omega)) (fun q j hq => hb q j (by omega))]
  all_goals rfl
set_option maxRecDepth 100000 in
theorem ct_9_s65 (a : zA) (b : zB) : zr zM zprm 37 31 (137, [.ref 35, .retAddr 0, .retAddr 0, .retAddr 0, .retAddr 0, .int 30], [], zs_237, a, b) = zCNT 2 (zCA zM (zr zM zprm) 26 [.ref 78] zs_52 (zzA a 78) (zzB b 78) (fun sh a b => zr zM zprm 37 31 (157, [.ref 35, .retAddr 0, .retAddr 0, .retAddr 0, .retAddr 0, .int 30], [.ref 78, .int 30, .ref 40], sh, a, b))) := (zr_run (mi := zm_37) rfl 400 _).trans rfl
set_option maxRecDepth 100000 in
theorem ct_9_g65 (a : zA) (b : zB) (h : ∀ q j, 78 ≤ q → a q j = 0) (hb : ∀ q j, 78 ≤ q → b q j = 0) : zr zM zprm 37 31 (137, [.ref 35, .retAddr 0, .retAddr 0, .retAddr 0, .retAddr 0, .int 30], [], zs_237, a, b) = some (none, zs_17, a, b, 93, 0, 186) := by
  refine (ct_9_s65 a b).trans ?_
  rw [zzA_z h 78 (by decide), zzB_z hb 78 (by decide)]
  have h1 : ∀ q j, 78 ≤ q → a q j = 0 := fun q j hq => h q j (by omega)
  have hb1 : ∀ q j, 78 ≤ q → b q j = 0 := fun q j hq => hb q j (by omega)
  rw [zCA_ok (ct_44 a b h1 hb1) rfl, ct_9_g66 _ b (fun q j hq => h q j (by omega)) (fun q j hq => hb q j (by omega))]
  all_goals rfl
set_option maxRecDepth 100000 in
theorem ct_9_s64 (a : zA) (b : zB) : zr zM zprm 37 31 (157, [.ref 35, .retAddr 0, .retAddr 0, .retAddr 0, .retAddr 0, .int 29], [.ref 77, .int 29, .ref 40], zs_51, a, b) = zr zM zprm 37 31 (137, [.ref 35, .retAddr 0, .retAddr 0, .retAddr 0, .retAddr 0, .int 30], [], zs_237, a, b) := (zr_run (mi := zm_37) rfl 400 _).trans rfl
set_option maxRecDepth 100000 in
theorem ct_9_g64 (a : zA) (b : zB) (h : ∀ q j, 78 ≤ q → a q j = 0) (hb : ∀ q j, 78 ≤ q → b q j = 0) : zr zM zprm 37 31 (157, [.ref 35, .retAddr 0, .retAddr 0, .retAddr 0, .retAddr 0, .int 29], [.ref 77, .int 29, .ref 40], zs_51, a, b) = some (none, zs_17, a, b, 93, 0, 186) := by
  refine (ct_9_s64 a b).trans ?_
  rw [ct_9_g65 a b (fun q j hq => h q j (by omega)) (fun q j hq => hb q j (by omega))]
  all_goals rfl
set_option maxRecDepth 100000 in
theorem ct_9_s63 (a : zA) (b : zB) : zr zM zprm 37 31 (137, [.ref 35, .retAddr 0, .retAddr 0, .retAddr 0, .retAddr 0, .int 29], [], zs_238, a, b) = zCNT 2 (zCA zM (zr zM zprm) 26 [.ref 77] zs_51 (zzA a 77) (zzB b 77) (fun sh a b => zr zM zprm 37 31 (157, [.ref 35, .retAddr 0, .retAddr 0, .retAddr 0, .retAddr 0, .int 29], [.ref 77, .int 29, .ref 40], sh, a, b))) := (zr_run (mi := zm_37) rfl 400 _).trans rfl
set_option maxRecDepth 100000 in
theorem ct_9_g63 (a : zA) (b : zB) (h : ∀ q j, 77 ≤ q → a q j = 0) (hb : ∀ q j, 77 ≤ q → b q j = 0) : zr zM zprm 37 31 (137, [.ref 35, .retAddr 0, .retAddr 0, .retAddr 0, .retAddr 0, .int 29], [], zs_238, a, b) = some (none, zs_17, a, b, 94, 0, 188) := by
  refine (ct_9_s63 a b).trans ?_
  rw [zzA_z h 77 (by decide), zzB_z hb 77 (by decide)]
  have h1 : ∀ q j, 77 ≤ q → a q j = 0 := fun q j hq => h q j (by omega)
  have hb1 : ∀ q j, 77 ≤ q → b q j = 0 := fun q j hq => hb q j (by omega)
  rw [zCA_ok (ct_43 a b h1 hb1) rfl, ct_9_g64 _ b (fun q j hq => h q j (by omega)) (fun q j hq => hb q j (by omega))]
  all_goals rfl
set_option maxRecDepth 100000 in
theorem ct_9_s62 (a : zA) (b : zB) : zr zM zprm 37 31 (157, [.ref 35, .retAddr 0, .retAddr 0, .retAddr 0, .retAddr 0, .int 28], [.ref 76, .int 28, .ref 40], zs_50, a, b) = zr zM zprm 37 31 (137, [.ref 35, .retAddr 0, .retAddr 0, .retAddr 0, .retAddr 0, .int 29], [], zs_238, a, b) := (zr_run (mi := zm_37) rfl 400 _).trans rfl
set_option maxRecDepth 100000 in
theorem ct_9_g62 (a : zA) (b : zB) (h : ∀ q j, 77 ≤ q → a q j = 0) (hb : ∀ q j, 77 ≤ q → b q j = 0) : zr zM zprm 37 31 (157, [.ref 35, .retAddr 0, .retAddr 0, .retAddr 0, .retAddr 0, .int 28], [.ref 76, .int 28, .ref 40], zs_50, a, b) = some (none, zs_17, a, b, 94, 0, 188) := by
  refine (ct_9_s62 a b).trans ?_
  rw [ct_9_g63 a b (fun q j hq => h q j (by omega)) (fun q j hq => hb q j (by omega))]
  all_goals rfl
set_option maxRecDepth 100000 in
theorem ct_9_s61 (a : zA) (b : zB) : zr zM zprm 37 31 (137, [.ref 35, .retAddr 0, .retAddr 0, .retAddr 0, .retAddr 0, .int 28], [], zs_239, a, b) = zCNT 2 (zCA zM (zr zM zprm) 26 [.ref 76] zs_50 (zzA a 76) (zzB b 76) (fun sh a b => zr zM zprm 37 31 (157, [.ref 35, .retAddr 0, .retAddr 0, .retAddr 0, .retAddr 0, .int 28], [.ref 76, .int 28, .ref 40], sh, a, b))) := (zr_run (mi := zm_37) rfl 400 _).trans rfl
set_option maxRecDepth 100000 in
theorem ct_9_g61 (a : zA) (b : zB) (h : ∀ q j, 76 ≤ q → a q j = 0) (hb : ∀ q j, 76 ≤ q → b q j = 0) : zr zM zprm 37 31 (137, [.ref 35, .retAddr 0, .retAddr 0, .retAddr 0, .retAddr 0, .int 28], [], zs_239, a, b) = some (none, zs_17, a, b, 95, 0, 190) := by
  refine (ct_9_s61 a b).trans ?_
  rw [zzA_z h 76 (by decide), zzB_z hb 76 (by decide)]
  have h1 : ∀ q j, 76 ≤ q → a q j = 0 := fun q j hq => h q j (by omega)
  have hb1 : ∀ q j, 76 ≤ q → b q j = 0 := fun q j hq => hb q j (by omega)
  rw [zCA_ok (ct_42 a b h1 hb1) rfl, ct_9_g62 _ b (fun q j hq => h q j (by omega)) (fun q j hq => hb q j (by omega))]
  all_goals rfl
set_option maxRecDepth 100000 in
theorem ct_9_s60 (a : zA) (b : zB) : zr zM zprm 37 31 (157, [.ref 35, .retAddr 0, .retAddr 0, .retAddr 0, .retAddr 0, .int 27], [.ref 75, .int 27, .ref 40], zs_49, a, b) = zr zM zprm 37 31 (137, [.ref 35, .retAddr 0, .retAddr 0, .retAddr 0, .retAddr 0, .int 28], [], zs_239, a, b) := (zr_run (mi := zm_37) rfl 400 _).trans rfl
set_option maxRecDepth 100000 in
theorem ct_9_g60 (a : zA) (b : zB) (h : ∀ q j, 76 ≤ q → a q j = 0) (hb : ∀ q j, 76 ≤ q → b q j = 0) : zr zM zprm 37 31 (157, [.ref 35, .retAddr 0, .retAddr 0, .retAddr 0, .retAddr 0, .int 27], [.ref 75, .int 27, .ref 40], zs_49, a, b) = some (none, zs_17, a, b, 95, 0, 190) := by
  refine (ct_9_s60 a b).trans ?_
  rw [ct_9_g61 a b (fun q j hq => h q j (by omega)) (fun q j hq => hb q j (by omega))]
  all_goals rfl
set_option maxRecDepth 100000 in
theorem ct_9_s59 (a : zA) (b : zB) : zr zM zprm 37 31 (137, [.ref 35, .retAddr 0, .retAddr 0, .retAddr 0, .retAddr 0, .int 27], [], zs_240, a, b) = zCNT 2 (zCA zM (zr zM zprm) 26 [.ref 75] zs_49 (zzA a 75) (zzB b 75) (fun sh a b => zr zM zprm 37 31 (157, [.ref 35, .retAddr 0, .retAddr 0, .retAddr 0, .retAddr 0, .int 27], [.ref 75, .int 27, .ref 40], sh, a, b))) := (zr_run (mi := zm_37) rfl 400 _).trans rfl
set_option maxRecDepth 100000 in
theorem ct_9_g59 (a : zA) (b : zB) (h : ∀ q j, 75 ≤ q → a q j = 0) (hb : ∀ q j, 75 ≤ q → b q j = 0) : zr zM zprm 37 31 (137, [.ref 35, .retAddr 0, .retAddr 0, .retAddr 0, .retAddr 0, .int 27], [], zs_240, a, b) = some (none, zs_17, a, b, 96, 0, 192) := by
  refine (ct_9_s59 a b).trans ?_
  rw [zzA_z h 75 (by decide), zzB_z hb 75 (by decide)]
  have h1 : ∀ q j, 75 ≤ q → a q j = 0 := fun q j hq => h q j (by omega)
  have hb1 : ∀ q j, 75 ≤ q → b q j = 0 := fun q j hq => hb q j (by omega)
  rw [zCA_ok (ct_41 a b h1 hb1) rfl, ct_9_g60 _ b (fun q j hq => h q j (by omega)) (fun q j hq => hb q j (by omega))]
  all_goals rfl
set_option maxRecDepth 100000 in
theorem ct_9_s58 (a : zA) (b : zB) : zr zM zprm 37 31 (157, [.ref 35, .retAddr 0, .retAddr 0, .retAddr 0, .retAddr 0, .int 26], [.ref 74, .int 26, .ref 40], zs_48, a, b) = zr zM zprm 37 31 (137, [.ref 35, .retAddr 0, .retAddr 0, .retAddr 0, .retAddr 0, .int 27], [], zs_240, a, b) := (zr_run (mi := zm_37) rfl 400 _).trans rfl
set_option maxRecDepth 100000 in
theorem ct_9_g58 (a : zA) (b : zB) (h : ∀ q j, 75 ≤ q → a q j = 0) (hb : ∀ q j, 75 ≤ q → b q j = 0) : zr zM zprm 37 31 (157, [.ref 35, .retAddr 0, .retAddr 0, .retAddr 0, .retAddr 0, .int 26], [.ref 74, .int 26, .ref 40], zs_48, a, b) = some (none, zs_17, a, b, 96, 0, 192) := by
  refine (ct_9_s58 a b).trans ?_
  rw [ct_9_g59 a b (fun q j hq => h q j (by omega)) (fun q j hq => hb q j (by omega))]
  all_goals rfl
set_option maxRecDepth 100000 in
theorem ct_9_s57 (a : zA) (b : zB) : zr zM zprm 37 31 (137, [.ref 35, .retAddr 0, .retAddr 0, .retAddr 0, .retAddr 0, .int 26], [], zs_241, a, b) = zCNT 2 (zCA zM (zr zM zprm) 26 [.ref 74] zs_48 (zzA a 74) (zzB b 74) (fun sh a b => zr zM zprm 37 31 (157, [.ref 35, .retAddr 0, .retAddr 0, .retAddr 0, .retAddr 0, .int 26], [.ref 74, .int 26, .ref 40], sh, a, b))) := (zr_run (mi := zm_37) rfl 400 _).trans rfl
set_option maxRecDepth 100000 in
theorem ct_9_g57 (a : zA) (b : zB) (h : ∀ q j, 74 ≤ q → a q j = 0) (hb : ∀ q j, 74 ≤ q → b q j = 0) : zr zM zprm 37 31 (137, [.ref 35, .retAddr 0, .retAddr 0, .retAddr 0, .retAddr 0, .int 26], [], zs_241, a, b) = some (none, zs_17, a, b, 97, 0, 194) := by
  refine (ct_9_s57 a b).trans ?_
  rw [zzA_z h 74 (by decide), zzB_z hb 74 (by decide)]
  have h1 : ∀ q j, 74 ≤ q → a q j = 0 := fun q j hq => h q j (by omega)
  have hb1 : ∀ q j, 74 ≤ q → b q j = 0 := fun q j hq => hb q j (by omega)
  rw [zCA_ok (ct_40 a b h1 hb1) rfl, ct_9_g58 _ b (fun q j hq => h q j (by omega)) (fun q j hq => hb q j (by omega))]
  all_goals rfl
set_option maxRecDepth 100000 in
theorem ct_9_s56 (a : zA) (b : zB) : zr zM zprm 37 31 (157, [.ref 35, .retAddr 0, .retAddr 0, .retAddr 0, .retAddr 0, .int 25], [.ref 73, .int 25, .ref 40], zs_47, a, b) = zr zM zprm 37 31 (137, [.ref 35, .retAddr 0, .retAddr 0, .retAddr 0, .retAddr 0, .int 26], [], zs_241, a, b) := (zr_run (mi := zm_37) rfl 400 _).trans rfl
set_option maxRecDepth 100000 in
theorem ct_9_g56 (a : zA) (b : zB) (h : ∀ q j, 74 ≤ q → a q j = 0) (hb : ∀ q j, 74 ≤ q → b q j = 0) : zr zM zprm 37 31 (157, [.ref 35, .retAddr 0, .retAddr 0, .retAddr 0, .retAddr 0, .int 25], [.ref 73, .int 25, .ref 40], zs_47, a, b) = some (none, zs_17, a, b, 97, 0, 194) := by
  refine (ct_9_s56 a b).trans ?_
  rw [ct_9_g57 a b (fun q j hq => h q j (by omega)) (fun q j hq => hb q j (by omega))]
  all_goals rfl
set_option maxRecDepth 100000 in
theorem ct_9_s55 (a : zA) (b : zB) : zr zM zprm 37 31 (137, [.ref 35, .retAddr 0, .retAddr 0, .retAddr 0, .retAddr 0, .int 25], [], zs_242, a, b) = zCNT 2 (zCA zM (zr zM zprm) 26 [.ref 73] zs_47 (zzA a 73) (zzB b 73) (fun sh a b => zr zM zprm 37 31 (157, [.ref 35, .retAddr 0, .retAddr 0, .retAddr 0, .retAddr 0, .int 25], [.ref 73, .int 25, .ref 40], sh, a, b))) := (zr_run (mi := zm_37) rfl 400 _).trans rfl
set_option maxRecDepth 100000 in
theorem ct_9_g55 (a : zA) (b : zB) (h : ∀ q j, 73 ≤ q → a q j = 0) (hb : ∀ q j, 73 ≤ q → b q j = 0) : zr zM zprm 37 31 (137, [.ref 35, .retAddr 0, .retAddr 0, .retAddr 0, .retAddr 0, .int 25], [], zs_242, a, b) = some (none, zs_17, a, b, 98, 0, 196) := by
  refine (ct_9_s55 a b).trans ?_
  rw [zzA_z h 73 (by decide), zzB_z hb 73 (by decide)]
  have h1 : ∀ q j, 73 ≤ q → a q j = 0 := fun q j hq => h q j (by omega)
  have hb1 : ∀ q j, 73 ≤ q → b q j = 0 := fun q j hq => hb q j (by omega)
  rw [zCA_ok (ct_39 a b h1 hb1) rfl, ct_9_g56 _ b (fun q j hq => h q j (by omega)) (fun q j hq => hb q j (by omega))]
  all_goals rfl
set_option maxRecDepth 100000 in
theorem ct_9_s54 (a : zA) (b : zB) : zr zM zprm 37 31 (157, [.ref 35, .retAddr 0, .retAddr 0, .retAddr 0, .retAddr 0, .int 24], [.ref 72, .int 24, .ref 40], zs_46, a, b) = zr zM zprm 37 31 (137, [.ref 35, .retAddr 0, .retAddr 0, .retAddr 0, .retAddr 0, .int 25], [], zs_242, a, b) := (zr_run (mi := zm_37) rfl 400 _).trans rfl
set_option maxRecDepth 100000 in
theorem ct_9_g54 (a : zA) (b : zB) (h : ∀ q j, 73 ≤ q → a q j = 0) (hb : ∀ q j, 73 ≤ q → b q j = 0) : zr zM zprm 37 31 (157, [.ref 35, .retAddr 0, .retAddr 0, .retAddr 0, .retAddr 0, .int 24], [.ref 72, .int 24, .ref 40], zs_46, a, b) = some (none, zs_17, a, b, 98, 0, 196) := by
  refine (ct_9_s54 a b).trans ?_
  rw [ct_9_g55 a b (fun q j hq => h q j (by omega)) (fun q j hq => hb q j (by omega))]
  all_goals rfl
set_option maxRecDepth 100000 in
theorem ct_9_s53 (a : zA) (b : zB) : zr zM zprm 37 31 (137, [.ref 35, .retAddr 0, .retAddr 0, .retAddr 0, .retAddr 0, .int 24], [], zs_243, a, b) = zCNT 2 (zCA zM (zr zM zprm) 26 [.ref 72] zs_46 (zzA a 72) (zzB b 72) (fun sh a b => zr zM zprm 37 31 (157, [.ref 35, .retAddr 0, .retAddr 0, .retAddr 0, .retAddr 0, .int 24], [.ref 72, .int 24, .ref 40], sh, a, b))) := (zr_run (mi := zm_37) rfl 400 _).trans rfl
set_option maxRecDepth 100000 in
theorem ct_9_g53 (a : zA) (b : zB) (h : ∀ q j, 72 ≤ q → a q j = 0) (hb : ∀ q j, 72 ≤ q → b q j = 0) : zr zM zprm 37 31 (137, [.ref 35, .retAddr 0, .retAddr 0, .retAddr 0, .retAddr 0, .int 24], [], zs_243, a, b) = some (none, zs_17, a, b, 99, 0, 198) := by
  refine (ct_9_s53 a b).trans ?_
  rw [zzA_z h 72 (by decide), zzB_z hb 72 (by decide)]
  have h1 : ∀ q j, 72 ≤ q → a q j = 0 := fun q j hq => h q j (by omega)
  have hb1 : ∀ q j, 72 ≤ q → b q j = 0 := fun q j hq => hb q j (by omega)
  rw [zCA_ok (ct_38 a b h1 hb1) rfl, ct_9_g54 _ b (fun q j hq => h q j (by omega)) (fun q j hq => hb q j (by omega))]
  all_goals rfl
set_option maxRecDepth 100000 in
theorem ct_9_s52 (a : zA) (b : zB) : zr zM zprm 37 31 (157, [.ref 35, .retAddr 0, .retAddr 0, .retAddr 0, .retAddr 0, .int 23], [.ref 71, .int 23, .ref 40], zs_45, a, b) = zr zM zprm 37 31 (137, [.ref 35, .retAddr 0, .retAddr 0, .retAddr 0, .retAddr 0, .int 24], [], zs_243, a, b) := (zr_run (mi := zm_37) rfl 400 _).trans rfl
set_option maxRecDepth 100000 in
theorem ct_9_g52 (a : zA) (b : zB) (h : ∀ q j, 72 ≤ q → a q j = 0) (hb : ∀ q j, 72 ≤ q → b q j = 0) : zr zM zprm 37 31 (157, [.ref 35, .retAddr 0, .retAddr 0, .retAddr 0, .retAddr 0, .int 23], [.ref 71, .int 23, .ref 40], zs_45, a, b) = some (none, zs_17, a, b, 99, 0, 198) := by
  refine (ct_9_s52 a b).trans ?_
  rw [ct_9_g53 a b (fun q j hq => h q j (by omega)) (fun q j hq => hb q j (by omega))]
  all_goals rfl
set_option maxRecDepth 100000 in
theorem ct_9_s51 (a : zA) (b : zB) : zr zM zprm 37 31 (137, [.ref 35, .retAddr 0, .retAddr 0, .retAddr 0, .retAddr 0, .int 23], [], zs_244, a, b) = zCNT 2 (zCA zM (zr zM zprm) 26 [.ref 71] zs_45 (zzA a 71) (zzB b 71) (fun sh a b => zr zM zprm 37 31 (157, [.ref 35, .retAddr 0, .retAddr 0, .retAddr 0, .retAddr 0, .int 23], [.ref 71, .int 23, .ref 40], sh, a, b))) := (zr_run (mi := zm_37) rfl 400 _).trans rfl
set_option maxRecDepth 100000 in
theorem ct_9_g51 (a : zA) (b : zB) (h : ∀ q j, 71 ≤ q → a q j = 0) (hb : ∀ q j, 71 ≤ q → b q j = 0) : zr zM zprm 37 31 (137, [.ref 35, .retAddr 0, .retAddr 0, .retAddr 0, .retAddr 0, .int 23], [], zs_244, a, b) = some (none, zs_17, a, b, 100, 0, 200) := by
  refine (ct_9_s51 a b).trans ?_
  rw [zzA_z h 71 (by decide), zzB_z hb 71 (by decide)]
  have h1 : ∀ q j, 71 ≤ q → a q j = 0 := fun q j hq => h q j (by omega)
  have hb1 : ∀ q j, 71 ≤ q → b q j = 0 := fun q j hq => hb q j (by omega)
  rw [zCA_ok (ct_37 a b h1 hb1) rfl, ct_9_g52 _ b (fun q j hq => h q j (by omega)) (fun q j hq => hb q j (by omega))]
  all_goals rfl
set_option maxRecDepth 100000 in
theorem ct_9_s50 (a : zA) (b : zB) : zr zM zprm 37 31 (157, [.ref 35, .retAddr 0, .retAddr 0, .retAddr 0, .retAddr 0, .int 22], [.ref 70, .int 22, .ref 40], zs_44, a, b) = zr zM zprm 37 31 (137, [.ref 35, .retAddr 0, .retAddr 0, .retAddr 0, .retAddr 0, .int 23], [], zs_244, a, b) := (zr_run (mi := zm_37) rfl 400 _).trans rfl
set_option maxRecDepth 100000 in
theorem ct_9_g50 (a : zA) (b : zB) (h : ∀ q j, 71 ≤ q → a q j = 0) (hb : ∀ q j, 71 ≤ q → b q j = 0) : zr zM zprm 37 31 (157, [.ref 35, .retAddr 0, .retAddr 0, .retAddr 0, .retAddr 0, .int 22], [.ref 70, .int 22, .ref 40], zs_44, a, b) = some (none, zs_17, a, b, 100, 0, 200) := by
  refine (ct_9_s50 a b).trans ?_
  rw [ct_9_g51 a b (fun q j hq => h q j (by omega)) (fun q j hq => hb q j (by omega))]
  all_goals rfl
set_option maxRecDepth 100000 in
theorem ct_9_s49 (a : zA) (b : zB) : zr zM zprm 37 31 (137, [.ref 35, .retAddr 0, .retAddr 0, .retAddr 0, .retAddr 0, .int 22], [], zs_245, a, b) = zCNT 2 (zCA zM (zr zM zprm) 26 [.ref 70] zs_44 (zzA a 70) (zzB b 70) (fun sh a b => zr zM zprm 37 31 (157, [.ref 35, .retAddr 0, .retAddr 0, .retAddr 0, .retAddr 0, .int 22], [.ref 70, .int 22, .ref 40], sh, a, b))) := (zr_run (mi := zm_37) rfl 400 _).trans rfl
set_option maxRecDepth 100000 in
theorem ct_9_g49 (a : zA) (b : zB) (h : ∀ q j, 70 ≤ q → a q j = 0) (hb : ∀ q j, 70 ≤ q → b q j = 0) : zr zM zprm 37 31 (137, [.ref 35, .retAddr 0, .retAddr 0, .retAddr 0, .retAddr 0, .int 22], [], zs_245, a, b) = some (none, zs_17, a, b, 101, 0, 202) := by
  refine (ct_9_s49 a b).trans ?_
  rw [zzA_z h 70 (by decide), zzB_z hb 70 (by decide)]
  have h1 : ∀ q j, 70 ≤ q → a q j = 0 := fun q j hq => h q j (by omega)
  have hb1 : ∀ q j, 70 ≤ q → b q j = 0 := fun q j hq => hb q j (by omega)
  rw [zCA_ok (ct_36 a b h1 hb1) rfl, ct_9_g50 _ b (fun q j hq => h q j (by omega)) (fun q j hq => hb q j (by omega))]
  all_goals rfl
set_option maxRecDepth 100000 in
theorem ct_9_s48 (a : zA) (b : zB) : zr zM zprm 37 31 (157, [.ref 35, .retAddr 0, .retAddr 0, .retAddr 0, .retAddr 0, .int 21], [.ref 69, .int 21, .ref 40], zs_43, a, b) = zr zM zprm 37 31 (137, [.ref 35, .retAddr 0, .retAddr 0, .retAddr 0, .retAddr 0, .int 22], [], zs_245, a, b) := (zr_run (mi := zm_37) rfl 400 _).trans rfl
set_option maxRecDepth 100000 in
theorem ct_9_g48 (a : zA) (b : zB) (h : ∀ q j, 70 ≤ q → a q j = 0) (hb : ∀ q j, 70 ≤ q → b q j = 0) : zr zM zprm 37 31 (157, [.ref 35, .retAddr 0, .retAddr 0, .retAddr 0, .retAddr 0, .int 21], [.ref 69, .int 21, .ref 40], zs_43, a, b) = some (none, zs_17, a, b, 101, 0, 202) := by
  refine (ct_9_s48 a b).trans ?_
  rw [ct_9_g49 a b (fun q j hq => h q j (by omega)) (fun q j hq => hb q j (by omega))]
  all_goals rfl
set_option maxRecDepth 100000 in
theorem ct_9_s47 (a : zA) (b : zB) : zr zM zprm 37 31 (137, [.ref 35, .retAddr 0, .retAddr 0, .retAddr 0, .retAddr 0, .int 21], [], zs_246, a, b) = zCNT 2 (zCA zM (zr zM zprm) 26 [.ref 69] zs_43 (zzA a 69) (zzB b 69) (fun sh a b => zr zM zprm 37 31 (157, [.ref 35, .retAddr 0, .retAddr 0, .retAddr 0, .retAddr 0, .int 21], [.ref 69, .int 21, .ref 40], sh, a, b))) := (zr_run (mi := zm_37) rfl 400 _).trans rfl
set_option maxRecDepth 100000 in
theorem ct_9_g47 (a : zA) (b : zB) (h : ∀ q j, 69 ≤ q → a q j = 0) (hb : ∀ q j, 69 ≤ q → b q j = 0) : zr zM zprm 37 31 (137, [.ref 35, .retAddr 0, .retAddr 0, .retAddr 0, .retAddr 0, .int 21], [], zs_246, a, b) = some (none, zs_17, a, b, 102, 0, 204) := by
  refine (ct_9_s47 a b).trans ?_
  rw [zzA_z h 69 (by decide), zzB_z hb 69 (by decide)]
  have h1 : ∀ q j, 69 ≤ q → a q j = 0 := fun q j hq => h q j (by omega)
  have hb1 : ∀ q j, 69 ≤ q → b q j = 0 := fun q j hq => hb q j (by omega)
  rw [zCA_ok (ct_35 a b h1 hb1) rfl, ct_9_g48 _ b (fun q j hq => h q j (by omega)) (fun q j hq => hb q j (by omega))]
  all_goals rfl
set_option maxRecDepth 100000 in
theorem ct_9_s46 (a : zA) (b : zB) : zr zM zprm 37 31 (157, [.ref 35, .retAddr 0, .retAddr 0, .retAddr 0, .retAddr 0, .int 20], [.ref 68, .int 20, .ref 40], zs_42, a, b) = zr zM zprm 37 31 (137, [.ref 35, .retAddr 0, .retAddr 0, .retAddr 0, .retAddr 0, .int 21], [], zs_246, a, b) := (zr_run (mi := zm_37) rfl 400 _).trans rfl
set_option maxRecDepth 100000 in
theorem ct_9_g46 (a : zA) (b : zB) (h : ∀ q j, 69 ≤ q → a q j = 0) (hb : ∀ q j, 69 ≤ q → b q j = 0) : zr zM zprm 37 31 (157, [.ref 35, .retAddr 0, .retAddr 0, .retAddr 0, .retAddr 0, .int 20], [.ref 68, .int 20, .ref 40], zs_42, a, b) = some (none, zs_17, a, b, 102, 0, 204) := by
  refine (ct_9_s46 a b).trans ?_
  rw [ct_9_g47 a b (fun q j hq => h q j (by omega)) (fun q j hq => hb q j (by omega))]
  all_goals rfl
set_option maxRecDepth 100000 in
theorem ct_9_s45 (a : zA) (b : zB) : zr zM zprm 37 31 (137, [.ref 35, .retAddr 0, .retAddr 0, .retAddr 0, .retAddr 0, .int 20], [], zs_247, a, b) = zCNT 2 (zCA zM (zr zM zprm) 26 [.ref 68] zs_42 (zzA a 68) (zzB b 68) (fun sh a b => zr zM zprm 37 31 (157, [.ref 35, .retAddr 0, .retAddr 0, .retAddr 0, .retAddr 0, .int 20], [.ref 68, .int 20, .ref 40], sh, a, b))) := (zr_run (mi := zm_37) rfl 400 _).trans rfl
set_option maxRecDepth 100000 in
theorem ct_9_g45 (a : zA) (b : zB) (h : ∀ q j, 68 ≤ q → a q j = 0) (hb : ∀ q j, 68 ≤ q → b q j = 0) : zr zM zprm 37 31 (137, [.ref 35, .retAddr 0, .retAddr 0, .retAddr 0, .retAddr 0, .int 20], [], zs_247, a, b) = some (none, zs_17, a, b, 103, 0, 206) := by
  refine (ct_9_s45 a b).trans ?_
  rw [zzA_z h 68 (by decide), zzB_z hb 68 (by decide)]
  have h1 : ∀ q j, 68 ≤ q → a q j = 0 := fun q j hq => h q j (by omega)
  have hb1 : ∀ q j, 68 ≤ q → b q j = 0 := fun q j hq => hb q j (by omega)
  rw [zCA_ok (ct_34 a b h1 hb1) rfl, ct_9_g46 _ b (fun q j hq => h q j (by omega)) (fun q j hq => hb q j (by omega))]
  all_goals rfl
set_option maxRecDepth 100000 in
theorem ct_9_s44 (a : zA) (b : zB) : zr zM zprm 37 31 (157, [.ref 35, .retAddr 0, .retAddr 0, .retAddr 0, .retAddr 0, .int 19], [.ref 67, .int 19, .ref 40], zs_41, a, b) = zr zM zprm 37 31 (137, [.ref 35, .retAddr 0, .retAddr 0, .retAddr 0, .retAddr 0, .int 20], [], zs_247, a, b) := (zr_run (mi := zm_37) rfl 400 _).trans rfl
set_option maxRecDepth 100000 in
theorem ct_9_g44 (a : zA) (b : zB) (h : ∀ q j, 68 ≤ q → a q j = 0) (hb : ∀ q j, 68 ≤ q → b q j = 0) : zr zM zprm 37 31 (157, [.ref 35, .retAddr 0, .retAddr 0, .retAddr 0, .retAddr 0, .int 19], [.ref 67, .int 19, .ref 40], zs_41, a, b) = some (none, zs_17, a, b, 103, 0, 206) := by
  refine (ct_9_s44 a b).trans ?_
  rw [ct_9_g45 a b (fun q j hq => h q j (by omega)) (fun q j hq => hb q j (by omega))]
  all_goals rfl
set_option maxRecDepth 100000 in
theorem ct_9_s43 (a : zA) (b : zB) : zr zM zprm 37 31 (137, [.ref 35, .retAddr 0, .retAddr 0, .retAddr 0, .retAddr 0, .int 19], [], zs_248, a, b) = zCNT 2 (zCA zM (zr zM zprm) 26 [.ref 67] zs_41 (zzA a 67) (zzB b 67) (fun sh a b => zr zM zprm 37 31 (157, [.ref 35, .retAddr 0, .retAddr 0, .retAddr 0, .retAddr 0, .int 19], [.ref 67, .int 19, .ref 40], sh, a, b))) := (zr_run (mi := zm_37) rfl 400 _).trans rfl
set_option maxRecDepth 100000 in
theorem ct_9_g43 (a : zA) (b : zB) (h : ∀ q j, 67 ≤ q → a q j = 0) (hb : ∀ q j, 67 ≤ q → b q j = 0) : zr zM zprm 37 31 (137, [.ref 35, .retAddr 0, .retAddr 0, .retAddr 0, .retAddr 0, .int 19], [], zs_248, a, b) = some (none, zs_17, a, b, 104, 0, 208) := by
  refine (ct_9_s43 a b).trans ?_
  rw [zzA_z h 67 (by decide), zzB_z hb 67 (by decide)]
  have h1 : ∀ q j, 67 ≤ q → a q j = 0 := fun q j hq => h q j (by omega)
  have hb1 : ∀ q j, 67 ≤ q → b q j = 0 := fun q j hq => hb q j (by omega)
  rw [zCA_ok (ct_33 a b h1 hb1) rfl, ct_9_g44 _ b (fun q j hq => h q j (by omega)) (fun q j hq => hb q j (by omega))]
  all_goals rfl
set_option maxRecDepth 100000 in
theorem ct_9_s42 (a : zA) (b : zB) : zr zM zprm 37 31 (157, [.ref 35, .retAddr 0, .retAddr 0, .retAddr 0, .retAddr 0, .int 18], [.ref 66, .int 18, .ref 40], zs_40, a, b) = zr zM zprm 37 31 (137, [.ref 35, .retAddr 0, .retAddr 0, .retAddr 0, .retAddr 0, .int 19], [], zs_248, a, b) := (zr_run (mi := zm_37) rfl 400 _).trans rfl
set_option maxRecDepth 100000 in
theorem ct_9_g42 (a : zA) (b : zB) (h : ∀ q j, 67 ≤ q → a q j = 0) (hb : ∀ q j, 67 ≤ q → b q j = 0) : zr zM zprm 37 31 (157, [.ref 35, .retAddr 0, .retAddr 0, .retAddr 0, .retAddr 0, .int 18], [.ref 66, .int 18, .ref 40], zs_40, a, b) = some (none, zs_17, a, b, 104, 0, 208) := by
  refine (ct_9_s42 a b).trans ?_
  rw [ct_9_g43 a b (fun q j hq => h q j (by omega)) (fun q j hq => hb q j (by omega))]
  all_goals rfl
set_option maxRecDepth 100000 in
theorem ct_9_s41 (a : zA) (b : zB) : zr zM zprm 37 31 (137, [.ref 35, .retAddr 0, .retAddr 0, .retAddr 0, .retAddr 0, .int 18], [], zs_249, a, b) = zCNT 2 (zCA zM (zr zM zprm) 26 [.ref 66] zs_40 (zzA a 66) (zzB b 66) (fun sh a b => zr zM zprm 37 31 (157, [.ref 35, .retAddr 0, .retAddr 0, .retAddr 0, .retAddr 0, .int 18], [.ref 66, .int 18, .ref 40], sh, a, b))) := (zr_run (mi := zm_37) rfl 400 _).trans rfl
set_option maxRecDepth 100000 in
theorem ct_9_g41 (a : zA) (b : zB) (h : ∀ q j, 66 ≤ q → a q j = 0) (hb : ∀ q j, 66 ≤ q → b q j = 0) : zr zM zprm 37 31 (137, [.ref 35, .retAddr 0, .retAddr 0, .retAddr 0, .retAddr 0, .int 18], [], zs_249, a, b) = some (none, zs_17, a, b, 105, 0, 210) := by
  refine (ct_9_s41 a b).trans ?_
  rw [zzA_z h 66 (by decide), zzB_z hb 66 (by decide)]
  have h1 : ∀ q j, 66 ≤ q → a q j = 0 := fun q j hq => h q j (by omega)
  have hb1 : ∀ q j, 66 ≤ q → b q j = 0 := fun q j hq => hb q j (by omega)
  rw [zCA_ok (ct_32 a b h1 hb1) rfl, ct_9_g42 _ b (fun q j hq => h q j (by omega)) (fun q j hq => hb q j (by omega))]
  all_goals rfl
set_option maxRecDepth 100000 in
theorem ct_9_s40 (a : zA) (b : zB) : zr zM zprm 37 31 (157, [.ref 35, .retAddr 0, .retAddr 0, .retAddr 0, .retAddr 0, .int 17], [.ref 65, .int 17, .ref 40], zs_39, a, b) = zr zM zprm 37 31 (137, [.ref 35, .retAddr 0, .retAddr 0, .retAddr 0, .retAddr 0, .int 18], [], zs_249, a, b) := (zr_run (mi := zm_37) rfl 400 _).trans rfl
set_option maxRecDepth 100000 in
theorem ct_9_g40 (a : zA) (b : zB) (h : ∀ q j, 66 ≤ q → a q j = 0) (hb : ∀ q j, 66 ≤ q → b q j = 0) : zr zM zprm 37 31 (157, [.ref 35, .retAddr 0, .retAddr 0, .retAddr 0, .retAddr 0, .int 17], [.ref 65, .int 17, .ref 40], zs_39, a, b) = some (none, zs_17, a, b, 105, 0, 210) := by
  refine (ct_9_s40 a b).trans ?_
  rw [ct_9_g41 a b (fun q j hq => h q j (by omega)) (fun q j hq => hb q j (by omega))]
  all_goals rfl
set_option maxRecDepth 100000 in
theorem ct_9_s39 (a : zA) (b : zB) : zr zM zprm 37 31 (137, [.ref 35, .retAddr 0, .retAddr 0, .retAddr 0, .retAddr 0, .int 17], [], zs_250, a, b) = zCNT 2 (zCA zM (zr zM zprm) 26 [.ref 65] zs_39 (zzA a 65) (zzB b 65) (fun sh a b => zr zM zprm 37 31 (157, [.ref 35, .retAddr 0, .retAddr 0, .retAddr 0, .retAddr 0, .int 17], [.ref 65, .int 17, .ref 40], sh, a, b))) := (zr_run (mi := zm_37) rfl 400 _).trans rfl
set_option maxRecDepth 100000 in
theorem ct_9_g39 (a : zA) (b : zB) (h : ∀ q j, 65 ≤ q → a q j = 0) (hb : ∀ q j, 65 ≤ q → b q j = 0) : zr zM zprm 37 31 (137, [.ref 35, .retAddr 0, .retAddr 0, .retAddr 0, .retAddr 0, .int 17], [], zs_250, a, b) = some (none, zs_17, a, b, 106, 0, 212) := by
  refine (ct_9_s39 a b).trans ?_
  rw [zzA_z h 65 (by decide), zzB_z hb 65 (by decide)]
  have h1 : ∀ q j, 65 ≤ q → a q j = 0 := fun q j hq => h q j (by omega)
  have hb1 : ∀ q j, 65 ≤ q → b q j = 0 := fun q j hq => hb q j (by omega)
  rw [zCA_ok (ct_31 a b h1 hb1) rfl, ct_9_g40 _ b (fun q j hq => h q j (by omega)) (fun q j hq => hb q j (by omega))]
  all_goals rfl
set_option maxRecDepth 100000 in
theorem ct_9_s38 (a : zA) (b : zB) : zr zM zprm 37 31 (157, [.ref 35, .retAddr 0, .retAddr 0, .retAddr 0, .retAddr 0, .int 16], [.ref 64, .int 16, .ref 40], zs_38, a, b) = zr zM zprm 37 31 (137, [.ref 35, .retAddr 0, .retAddr 0, .retAddr 0, .retAddr 0, .int 17], [], zs_250, a, b) := (zr_run (mi := zm_37) rfl 400 _).trans rfl
set_option maxRecDepth 100000 in
theorem ct_9_g38 (a : zA) (b : zB) (h : ∀ q j, 65 ≤ q → a q j = 0) (hb : ∀ q j, 65 ≤ q → b q j = 0) : zr zM zprm 37 31 (157, [.ref 35, .retAddr 0, .retAddr 0, .retAddr 0, .retAddr 0, .int 16], [.ref 64, .int 16, .ref 40], zs_38, a, b) = some (none, zs_17, a, b, 106, 0, 212) := by
  refine (ct_9_s38 a b).trans ?_
  rw [ct_9_g39 a b (fun q j hq => h q j (by omega)) (fun q j hq => hb q j (by omega))]
  all_goals rfl
set_option maxRecDepth 100000 in
theorem ct_9_s37 (a : zA) (b : zB) : zr zM zprm 37 31 (137, [.ref 35, .retAddr 0, .retAddr 0, .retAddr 0, .retAddr 0, .int 16], [], zs_251, a, b) = zCNT 2 (zCA zM (zr zM zprm) 26 [.ref 64] zs_38 (zzA a 64) (zzB b 64) (fun sh a b => zr zM zprm 37 31 (157, [.ref 35, .retAddr 0, .retAddr 0, .retAddr 0, .retAddr 0, .int 16], [.ref 64, .int 16, .ref 40], sh, a, b))) := (zr_run (mi := zm_37) rfl 400 _).trans rfl
set_option maxRecDepth 100000 in
theorem ct_9_g37 (a : zA) (b : zB) (h : ∀ q j, 64 ≤ q → a q j = 0) (hb : ∀ q j, 64 ≤ q → b q j = 0) : zr zM zprm 37 31 (137, [.ref 35, .retAddr 0, .retAddr 0, .retAddr 0, .retAddr 0, .int 16], [], zs_251, a, b) = some (none, zs_17, a, b, 107, 0, 214) := by
  refine (ct_9_s37 a b).trans ?_
  rw [zzA_z h 64 (by decide), zzB_z hb 64 (by decide)]
  have h1 : ∀ q j, 64 ≤ q → a q j = 0 := fun q j hq => h q j (by omega)
  have hb1 : ∀ q j, 64 ≤ q → b q j = 0 := fun q j hq => hb q j (by omega)
  rw [zCA_ok (ct_30 a b h1 hb1) rfl, ct_9_g38 _ b (fun q j hq => h q j (by omega)) (fun q j hq => hb q j (by omega))]
  all_goals rfl
set_option maxRecDepth 100000 in
theorem ct_9_s36 (a : zA) (b : zB) : zr zM zprm 37 31 (157, [.ref 35, .retAddr 0, .retAddr 0, .retAddr 0, .retAddr 0, .int 15], [.ref 63, .int 15, .ref 40], zs_37, a, b) = zr zM zprm 37 31 (137, [.ref 35, .retAddr 0, .retAddr 0, .retAddr 0, .retAddr 0, .int 16], [], zs_251, a, b) := (zr_run (mi := zm_37) rfl 400 _).trans rfl
set_option maxRecDepth 100000 in
theorem ct_9_g36 (a : zA) (b : zB) (h : ∀ q j, 64 ≤ q → a q j = 0) (hb : ∀ q j, 64 ≤ q → b q j = 0) : zr zM zprm 37 31 (157, [.ref 35, .retAddr 0, .retAddr 0, .retAddr 0, .retAddr 0, .int 15], [.ref 63, .int 15, .ref 40], zs_37, a, b) = some (none, zs_17, a, b, 107, 0, 214) := by
  refine (ct_9_s36 a b).trans ?_
  rw [ct_9_g37 a b (fun q j hq => h q j (by omega)) (fun q j hq => hb q j (by omega))]
  all_goals rfl
set_option maxRecDepth 100000 in
theorem ct_9_s35 (a : zA) (b : zB) : zr zM zprm 37 31 (137, [.ref 35, .retAddr 0, .retAddr 0, .retAddr 0, .retAddr 0, .int 15], [], zs_252, a, b) = zCNT 2 (zCA zM (zr zM zprm) 26 [.ref 63] zs_37 (zzA a 63) (zzB b 63) (fun sh a b => zr zM zprm 37 31 (157, [.ref 35, .retAddr 0, .retAddr 0, .retAddr 0, .retAddr 0, .int 15], [.ref 63, .int 15, .ref 40], sh, a, b))) := (zr_run (mi := zm_37) rfl 400 _).trans rfl
set_option maxRecDepth 100000 in
theorem ct_9_g35 (a : zA) (b : zB) (h : ∀ q j, 63 ≤ q → a q j = 0) (hb : ∀ q j, 63 ≤ q → b q j = 0) : zr zM zprm 37 31 (137, [.ref 35, .retAddr 0, .retAddr 0, .retAddr 0, .retAddr 0, .int 15], [], zs_252, a, b) = some (none, zs_17, a, b, 108, 0, 216) := by
  refine (ct_9_s35 a b).trans ?_
  rw [zzA_z h 63 (by decide), zzB_z hb 63 (by decide)]
  have h1 : ∀ q j, 63 ≤ q → a q j = 0 := fun q j hq => h q j (by omega)
  have hb1 : ∀ q j, 63 ≤ q → b q j = 0 := fun q j hq => hb q j (by omega)
  rw [zCA_ok (ct_29 a b h1 hb1) rfl, ct_9_g36 _ b (fun q j hq => h q j (by omega)) (fun q j hq => hb q j (by omega))]
  all_goals rfl
set_option maxRecDepth 100000 in
theorem ct_9_s34 (a : zA) (b : zB) : zr zM zprm 37 31 (157, [.ref 35, .retAddr 0, .retAddr 0, .retAddr 0, .retAddr 0, .int 14], [.ref 62, .int 14, .ref 40], zs_36, a, b) = zr zM zprm 37 31 (137, [.ref 35, .retAddr 0, .retAddr 0, .retAddr 0, .retAddr 0, .int 15], [], zs_252, a, b) := (zr_run (mi := zm_37) rfl 400 _).trans rfl
set_option maxRecDepth 100000 in
theorem ct_9_g34 (a : zA) (b : zB) (h : ∀ q j, 63 ≤ q → a q j = 0) (hb : ∀ q j, 63 ≤ q → b q j = 0) : zr zM zprm 37 31 (157, [.ref 35, .retAddr 0, .retAddr 0, .retAddr 0, .retAddr 0, .int 14], [.ref 62, .int 14, .ref 40], zs_36, a, b) = some (none, zs_17, a, b, 108, 0, 216) := by
  refine (ct_9_s34 a b).trans ?_
  rw [ct_9_g35 a b (fun q j hq => h q j (by omega)) (fun q j hq => hb q j (by omega))]
  all_goals rfl
set_option maxRecDepth 100000 in
theorem ct_9_s33 (a : zA) (b : zB) : zr zM zprm 37 31 (137, [.ref 35, .retAddr 0, .retAddr 0, .retAddr 0, .retAddr 0, .int 14], [], zs_253, a, b) = zCNT 2 (zCA zM (zr zM zprm) 26 [.ref 62] zs_36 (zzA a 62) (zzB b 62) (fun sh a b => zr zM zprm 37 31 (157, [.ref 35, .retAddr 0, .retAddr 0, .retAddr 0, .retAddr 0, .int 14], [.ref 62, .int 14, .ref 40], sh, a, b))) := (zr_run (mi := zm_37) rfl 400 _).trans rfl
set_option maxRecDepth 100000 in
theorem ct_9_g33 (a : zA) (b : zB) (h : ∀ q j, 62 ≤ q → a q j = 0) (hb : ∀ q j, 62 ≤ q → b q j = 0) : zr zM zprm 37 31 (137, [.ref 35, .retAddr 0, .retAddr 0, .retAddr 0, .retAddr 0, .int 14], [], zs_253, a, b) = some (none, zs_17, a, b, 109, 0, 218) := by
  refine (ct_9_s33 a b).trans ?_
  rw [zzA_z h 62 (by decide), zzB_z hb 62 (by decide)]
  have h1 : ∀ q j, 62 ≤ q → a q j = 0 := fun q j hq => h q j (by omega)
  have hb1 : ∀ q j, 62 ≤ q → b q j = 0 := fun q j hq => hb q j (by omega)
  rw [zCA_ok (ct_28 a b h1 hb1) rfl, ct_9_g34 _ b (fun q j hq => h q j (by omega)) (fun q j hq => hb q j (by omega))]
  all_goals rfl
set_option maxRecDepth 100000 in
theorem ct_9_s32 (a : zA) (b : zB) : zr zM zprm 37 31 (157, [.ref 35, .retAddr 0, .retAddr 0, .retAddr 0, .retAddr 0, .int 13], [.ref 61, .int 13, .ref 40], zs_35, a, b) = zr zM zprm 37 31 (137, [.ref 35, .retAddr 0, .retAddr 0, .retAddr 0, .retAddr 0, .int 14], [], zs_253, a, b) := (zr_run (mi := zm_37) rfl 400 _).trans rfl
set_option maxRecDepth 100000 in
theorem ct_9_g32 (a : zA) (b : zB) (h : ∀ q j, 62 ≤ q → a q j = 0) (hb : ∀ q j, 62 ≤ q → b q j = 0) : zr zM zprm 37 31 (157, [.ref 35, .retAddr 0, .retAddr 0, .retAddr 0, .retAddr 0, .int 13], [.ref 61, .int 13, .ref 40], zs_35, a, b) = some (none, zs_17, a, b, 109, 0, 218) := by
  refine (ct_9_s32 a b).trans ?_
  rw [ct_9_g33 a b (fun q j hq => h q j (by omega)) (fun q j hq => hb q j (by omega))]
  all_goals rfl
set_option maxRecDepth 100000 in
theorem ct_9_s31 (a : zA) (b : zB) : zr zM zprm 37 31 (137, [.ref 35, .retAddr 0, .retAddr 0, .retAddr 0, .retAddr 0, .int 13], [], zs_254, a, b) = zCNT 2 (zCA zM (zr zM zprm) 26 [.ref 61] zs_35 (zzA a 61) (zzB b 61) (fun sh a b => zr zM zprm 37 31 (157, [.ref 35, .retAddr 0, .retAddr 0, .retAddr 0, .retAddr 0, .int 13], [.ref 61, .int 13, .ref 40], sh, a, b))) := (zr_run (mi := zm_37) rfl 400 _).trans rfl
set_option maxRecDepth 100000 in
theorem ct_9_g31 (a : zA) (b : zB) (h : ∀ q j, 61 ≤ q → a q j = 0) (hb : ∀ q j, 61 ≤ q → b q j = 0) : zr zM zprm 37 31 (137, [.ref 35, .retAddr 0, .retAddr 0, .retAddr 0, .retAddr 0, .int 13], [], zs_254, a, b) = some (none, zs_17, a, b, 110, 0, 220) := by
  refine (ct_9_s31 a b).trans ?_
  rw [zzA_z h 61 (by decide), zzB_z hb 61 (by decide)]
  have h1 : ∀ q j, 61 ≤ q → a q j = 0 := fun q j hq => h q j (by omega)
  have hb1 : ∀ q j, 61 ≤ q → b q j = 0 := fun q j hq => hb q j (by omega)
  rw [zCA_ok (ct_27 a b h1 hb1) rfl, ct_9_g32 _ b (fun q j hq => h q j (by omega)) (fun q j hq => hb q j (by omega))]
  all_goals rfl
set_option maxRecDepth 100000 in
theorem ct_9_s30 (a : zA) (b : zB) : zr zM zprm 37 31 (157, [.ref 35, .retAddr 0, .retAddr 0, .retAddr 0, .retAddr 0, .int 12], [.ref 60, .int 12, .ref 40], zs_34, a, b) = zr zM zprm 37 31 (137, [.ref 35, .retAddr 0, .retAddr 0, .retAddr 0, .retAddr 0, .int 13], [], zs_254, a, b) := (zr_run (mi := zm_37) rfl 400 _).trans rfl
set_option maxRecDepth 100000 in
theorem ct_9_g30 (a : zA) (b : zB) (h : ∀ q j, 61 ≤ q → a q j = 0) (hb : ∀ q j, 61 ≤ q → b q j = 0) : zr zM zprm 37 31 (157, [.ref 35, .retAddr 0, .retAddr 0, .retAddr 0, .retAddr 0, .int 12], [.ref 60, .int 12, .ref 40], zs_34, a, b) = some (none, zs_17, a, b, 110, 0, 220) := by
  refine (ct_9_s30 a b).trans ?_
  rw [ct_9_g31 a b (fun q j hq => h q j (by omega)) (fun q j hq => hb q j (by omega))]
  all_goals rfl
set_option maxRecDepth 100000 in
theorem ct_9_s29 (a : zA) (b : zB) : zr zM zprm 37 31 (137, [.ref 35, .retAddr 0, .retAddr 0, .retAddr 0, .retAddr 0, .int 12], [], zs_255, a, b) = zCNT 2 (zCA zM (zr zM zprm) 26 [.ref 60] zs_34 (zzA a 60) (zzB b 60) (fun sh a b => zr zM zprm 37 31 (157, [.ref 35, .retAddr 0, .retAddr 0, .retAddr 0, .retAddr 0, .int 12], [.ref 60, .int 12, .ref 40], sh, a, b))) := (zr_run (mi := zm_37) rfl 400 _).trans rfl
set_option maxRecDepth 100000 in
theorem ct_9_g29 (a : zA) (b : zB) (h : ∀ q j, 60 ≤ q → a q j = 0) (hb : ∀ q j, 60 ≤ q → b q j = 0) : zr zM zprm 37 31 (137, [.ref 35, .retAddr 0, .retAddr 0, .retAddr 0, .retAddr 0, .int 12], [], zs_255, a, b) = some (none, zs_17, a, b, 111, 0, 222) := by
  refine (ct_9_s29 a b).trans ?_
  rw [zzA_z h 60 (by decide), zzB_z hb 60 (by decide)]
  have h1 : ∀ q j, 60 ≤ q → a q j = 0 := fun q j hq => h q j (by omega)
  have hb1 : ∀ q j, 60 ≤ q → b q j = 0 := fun q j hq => hb q j (by omega)
  rw [zCA_ok (ct_26 a b h1 hb1) rfl, ct_9_g30 _ b (fun q j hq => h q j (by omega)) (fun q j hq => hb q j (by omega))]
  all_goals rfl
set_option maxRecDepth 100000 in
theorem ct_9_s28 (a : zA) (b : zB) : zr zM zprm 37 31 (157, [.ref 35, .retAddr 0, .retAddr 0, .retAddr 0, .retAddr 0, .int 11], [.ref 59, .int 11, .ref 40], zs_33, a, b) = zr zM zprm 37 31 (137, [.ref 35, .retAddr 0, .retAddr 0, .retAddr 0, .retAddr 0, .int 12], [], zs_255, a, b) := (zr_run (mi := zm_37) rfl 400 _).trans rfl
set_option maxRecDepth 100000 in
theorem ct_9_g28 (a : zA) (b : zB) (h : ∀ q j, 60 ≤ q → a q j = 0) (hb : ∀ q j, 60 ≤ q → b q j = 0) : zr zM zprm 37 31 (157, [.ref 35, .retAddr 0, .retAddr 0, .retAddr 0, .retAddr 0, .int 11], [.ref 59, .int 11, .ref 40], zs_33, a, b) = some (none, zs_17, a, b, 111, 0, 222) := by
  refine (ct_9_s28 a b).trans ?_
  rw [ct_9_g29 a b (fun q j hq => h q j (by omega)) (fun q j hq => hb q j (by omega))]
  all_goals rfl
set_option maxRecDepth 100000 in
theorem ct_9_s27 (a : zA) (b : zB) : zr zM zprm 37 31 (137, [.ref 35, .retAddr 0, .retAddr 0, .retAddr 0, .retAddr 0, .int 11], [], zs_256, a, b) = zCNT 2 (zCA zM (zr zM zprm) 26 [.ref 59] zs_33 (zzA a 59) (zzB b 59) (fun sh a b => zr zM zprm 37 31 (157, [.ref 35, .retAddr 0, .retAddr 0, .retAddr 0, .retAddr 0, .int 11], [.ref 59, .int 11, .ref 40], sh, a, b))) := (zr_run (mi := zm_37) rfl 400 _).trans rfl
set_option maxRecDepth 100000 in
theorem ct_9_g27 (a : zA) (b : zB) (h : ∀ q j, 59 ≤ q → a q j = 0) (hb : ∀ q j, 59 ≤ q → b q j = 0) : zr zM zprm 37 31 (137, [.ref 35, .retAddr 0, .retAddr 0, .retAddr 0, .retAddr 0, .int 11], [], zs_256, a, b) = some (none, zs_17, a, b, 112, 0, 224) := by
  refine (ct_9_s27 a b).trans ?_
  rw [zzA_z h 59 (by decide), zzB_z hb 59 (by decide)]
  have h1 : ∀ q j, 59 ≤ q → a q j = 0 := fun q j hq => h q j (by omega)
  have hb1 : ∀ q j, 59 ≤ q → b q j = 0 := fun q j hq => hb q j (by omega)
  rw [zCA_ok (ct_25 a b h1 hb1) rfl, ct_9_g28 _ b (fun q j hq => h q j (by omega)) (fun q j hq => hb q j (by omega))]
  all_goals rfl
set_option maxRecDepth 100000 in
theorem ct_9_s26 (a : zA) (b : zB) : zr zM zprm 37 31 (157, [.ref 35, .retAddr 0, .retAddr 0, .retAddr 0, .retAddr 0, .int 10], [.ref 58, .int 10, .ref 40], zs_32, a, b) = zr zM zprm 37 31 (137, [.ref 35, .retAddr 0, .retAddr 0, .retAddr 0, .retAddr 0, .int 11], [], zs_256, a, b) := (zr_run (mi := zm_37) rfl 400 _).trans rfl
set_option maxRecDepth 100000 in
theorem ct_9_g26 (a : zA) (b : zB) (h : ∀ q j, 59 ≤ q → a q j = 0) (hb : ∀ q j, 59 ≤ q → b q j = 0) : zr zM zprm 37 31 (157, [.ref 35, .retAddr 0, .retAddr 0, .retAddr 0, .retAddr 0, .int 10], [.ref 58, .int 10, .ref 40], zs_32, a, b) = some (none, zs_17, a, b, 112, 0, 224) := by
  refine (ct_9_s26 a b).trans ?_
  rw [ct_9_g27 a b (fun q j hq => h q j (by omega)) (fun q j hq => hb q j (by omega))]
  all_goals rfl
set_option maxRecDepth 100000 in
theorem ct_9_s25 (a : zA) (b : zB) : zr zM zprm 37 31 (137, [.ref 35, .retAddr 0, .retAddr 0, .retAddr 0, .retAddr 0, .int 10], [], zs_257, a, b) = zCNT 2 (zCA zM (zr zM zprm) 26 [.ref 58] zs_32 (zzA a 58) (zzB b 58) (fun sh a b => zr zM zprm 37 31 (157, [.ref 35, .retAddr 0, .retAddr 0, .retAddr 0, .retAddr 0, .int 10], [.ref 58, .int 10, .ref 40], sh, a, b))) := (zr_run (mi := zm_37) rfl 400 _).trans rfl
set_option maxRecDepth 100000 in
theorem ct_9_g25 (a : zA) (b : zB) (h : ∀ q j, 58 ≤ q → a q j = 0) (hb : ∀ q j, 58 ≤ q → b q j = 0) : zr zM zprm 37 31 (137, [.ref 35, .retAddr 0, .retAddr 0, .retAddr 0, .retAddr 0, .int 10], [], zs_257, a, b) = some (none, zs_17, a, b, 113, 0, 226) := by
  refine (ct_9_s25 a b).trans ?_
  rw [zzA_z h 58 (by decide), zzB_z hb 58 (by decide)]
  have h1 : ∀ q j, 58 ≤ q → a q j = 0 := fun q j hq => h q j (by omega)
  have hb1 : ∀ q j, 58 ≤ q → b q j = 0 := fun q j hq => hb q j (by omega)
  rw [zCA_ok (ct_24 a b h1 hb1) rfl, ct_9_g26 _ b (fun q j hq => h q j (by omega)) (fun q j hq => hb q j (by omega))]
  all_goals rfl
set_option maxRecDepth 100000 in
theorem ct_9_s24 (a : zA) (b : zB) : zr zM zprm 37 31 (157, [.ref 35, .retAddr 0, .retAddr 0, .retAddr 0, .retAddr 0, .int 9], [.ref 57, .int 9, .ref 40], zs_31, a, b) = zr zM zprm 37 31 (137, [.ref 35, .retAddr 0, .retAddr 0, .retAddr 0, .retAddr 0, .int 10], [], zs_257, a, b) := (zr_run (mi := zm_37) rfl 400 _).trans rfl
set_option maxRecDepth 100000 in
theorem ct_9_g24 (a : zA) (b : zB) (h : ∀ q j, 58 ≤ q → a q j = 0) (hb : ∀ q j, 58 ≤ q → b q j = 0) : zr zM zprm 37 31 (157, [.ref 35, .retAddr 0, .retAddr 0, .retAddr 0, .retAddr 0, .int 9], [.ref 57, .int 9, .ref 40], zs_31, a, b) = some (none, zs_17, a, b, 113, 0, 226) := by
  refine (ct_9_s24 a b).trans ?_
  rw [ct_9_g25 a b (fun q j hq => h q j (by omega)) (fun q j hq => hb q j (by omega))]
  all_goals rfl
set_option maxRecDepth 100000 in
theorem ct_9_s23 (a : zA) (b : zB) : zr zM zprm 37 31 (137, [.ref 35, .retAddr 0, .retAddr 0, .retAddr 0, .retAddr 0, .int 9], [], zs_258, a, b) = zCNT 2 (zCA zM (zr zM zprm) 26 [.ref 57] zs_31 (zzA a 57) (zzB b 57) (fun sh a b => zr zM zprm 37 31 (157, [.ref 35, .retAddr 0, .retAddr 0, .retAddr 0, .retAddr 0, .int 9], [.ref 57, .int 9, .ref 40], sh, a, b))) := (zr_run (mi := zm_37) rfl 400 _).trans rfl
set_option maxRecDepth 100000 in
theorem ct_9_g23 (a : zA) (b : zB) (h : ∀ q j, 57 ≤ q → a q j = 0) (hb : ∀ q j, 57 ≤ q → b q j = 0) : zr zM zprm 37 31 (137, [.ref 35, .retAddr 0, .retAddr 0, .retAddr 0, .retAddr 0, .int 9], [], zs_258, a, b) = some (none, zs_17, a, b, 114, 0, 228) := by
  refine (ct_9_s23 a b).trans ?_
  rw [zzA_z h 57 (by decide), zzB_z hb 57 (by decide)]
  have h1 : ∀ q j, 57 ≤ q → a q j = 0 := fun q j hq => h q j (by omega)
  have hb1 : ∀ q j, 57 ≤ q → b q j = 0 := fun q j hq => hb q j (by omega)
  rw [zCA_ok (ct_23 a b h1 hb1) rfl, ct_9_g24 _ b (fun q j hq => h q j (by omega)) (fun q j hq => hb q j (by omega))]
  all_goals rfl
set_option maxRecDepth 100000 in
theorem ct_9_s22 (a : zA) (b : zB) : zr zM zprm 37 31 (157, [.ref 35, .retAddr 0, .retAddr 0, .retAddr 0, .retAddr 0, .int 8], [.ref 56, .int 8, .ref 40], zs_30, a, b) = zr zM zprm 37 31 (137, [.ref 35, .retAddr 0, .retAddr 0, .retAddr 0, .retAddr 0, .int 9], [], zs_258, a, b) := (zr_run (mi := zm_37) rfl 400 _).trans rfl
set_option maxRecDepth 100000 in
theorem ct_9_g22 (a : zA) (b : zB) (h : ∀ q j, 57 ≤ q → a q j = 0) (hb : ∀ q j, 57 ≤ q → b q j = 0) : zr zM zprm 37 31 (157, [.ref 35, .retAddr 0, .retAddr 0, .retAddr 0, .retAddr 0, .int 8], [.ref 56, .int 8, .ref 40], zs_30, a, b) = some (none, zs_17, a, b, 114, 0, 228) := by
  refine (ct_9_s22 a b).trans ?_
  rw [ct_9_g23 a b (fun q j hq => h q j (by omega)) (fun q j hq => hb q j (by omega))]
  all_goals rfl
set_option maxRecDepth 100000 in
theorem ct_9_s21 (a : zA) (b : zB) : zr zM zprm 37 31 (137, [.ref 35, .retAddr 0, .retAddr 0, .retAddr 0, .retAddr 0, .int 8], [], zs_259, a, b) = zCNT 2 (zCA zM (zr zM zprm) 26 [.ref 56] zs_30 (zzA a 56) (zzB b 56) (fun sh a b => zr zM zprm 37 31 (157, [.ref 35, .retAddr 0, .retAddr 0, .retAddr 0, .retAddr 0, .int 8], [.ref 56, .int 8, .ref 40], sh, a, b))) := (zr_run (mi := zm_37) rfl 400 _).trans rfl
set_option maxRecDepth 100000 in
theorem ct_9_g21 (a : zA) (b : zB) (h : ∀ q j, 56 ≤ q → a q j = 0) (hb : ∀ q j, 56 ≤ q → b q j = 0) : zr zM zprm 37 31 (137, [.ref 35, .retAddr 0, .retAddr 0, .retAddr 0, .retAddr 0, .int 8], [], zs_259, a, b) = some (none, zs_17, a, b, 115, 0, 230) := by
  refine (ct_9_s21 a b).trans ?_
  rw [zzA_z h 56 (by decide), zzB_z hb 56 (by decide)]
  have h1 : ∀ q j, 56 ≤ q → a q j = 0 := fun q j hq => h q j (by omega)
  have hb1 : ∀ q j, 56 ≤ q → b q j = 0 := fun q j hq => hb q j (by omega)
  rw [zCA_ok (ct_22 a b h1 hb1) rfl, ct_9_g22 _ b (fun q j hq => h q j (by omega)) (fun q j hq => hb q j (by omega))]
  all_goals rfl
set_option maxRecDepth 100000 in
theorem ct_9_s20 (a : zA) (b : zB) : zr zM zprm 37 31 (157, [.ref 35, .retAddr 0, .retAddr 0, .retAddr 0, .retAddr 0, .int 7], [.ref 55, .int 7, .ref 40], zs_29, a, b) = zr zM zprm 37 31 (137, [.ref 35, .retAddr 0, .retAddr 0, .retAddr 0, .retAddr 0, .int 8], [], zs_259, a, b) := (zr_run (mi := zm_37) rfl 400 _).trans rfl
set_option maxRecDepth 100000 in
theorem ct_9_g20 (a : zA) (b : zB) (h : ∀ q j, 56 ≤ q → a q j = 0) (hb : ∀ q j, 56 ≤ q → b q j = 0) : zr zM zprm 37 31 (157, [.ref 35, .retAddr 0, .retAddr 0, .retAddr 0, .retAddr 0, .int 7], [.ref 55, .int 7, .ref 40], zs_29, a, b) = some (none, zs_17, a, b, 115, 0, 230) := by
  refine (ct_9_s20 a b).trans ?_
  rw [ct_9_g21 a b (fun q j hq => h q j (by omega)) (fun q j hq => hb q j (by omega))]
  all_goals rfl
set_option maxRecDepth 100000 in
theorem ct_9_s19 (a : zA) (b : zB) : zr zM zprm 37 31 (137, [.ref 35, .retAddr 0, .retAddr 0, .retAddr 0, .retAddr 0, .int 7], [], zs_260, a, b) = zCNT 2 (zCA zM (zr zM zprm) 26 [.ref 55] zs_29 (zzA a 55) (zzB b 55) (fun sh a b => zr zM zprm 37 31 (157, [.ref 35, .retAddr 0, .retAddr 0, .retAddr 0, .retAddr 0, .int 7], [.ref 55, .int 7, .ref 40], sh, a, b))) := (zr_run (mi := zm_37) rfl 400 _).trans rfl
set_option maxRecDepth 100000 in
theorem ct_9_g19 (a : zA) (b : zB) (h : ∀ q j, 55 ≤ q → a q j = 0) (hb : ∀ q j, 55 ≤ q → b q j = 0) : zr zM zprm 37 31 (137, [.ref 35, .retAddr 0, .retAddr 0, .retAddr 0, .retAddr 0, .int 7], [], zs_260, a, b) = some (none, zs_17, a, b, 116, 0, 232) := by
  refine (ct_9_s19 a b).trans ?_
  rw [zzA_z h 55 (by decide), zzB_z hb 55 (by decide)]
  have h1 : ∀ q j, 55 ≤ q → a q j = 0 := fun q j hq => h q j (by omega)
  have hb1 : ∀ q j, 55 ≤ q → b q j = 0 := fun q j hq => hb q j (by omega)
  rw [zCA_ok (ct_21 a b h1 hb1) rfl, ct_9_g20 _ b (fun q j hq => h q j (by omega)) (fun q j hq => hb q j (by omega))]
  all_goals rfl
set_option maxRecDepth 100000 in
theorem ct_9_s18 (a : zA) (b : zB) : zr zM zprm 37 31 (157, [.ref 35, .retAddr 0, .retAddr 0, .retAddr 0, .retAddr 0, .int 6], [.ref 54, .int 6, .ref 40], zs_28, a, b) = zr zM zprm 37 31 (137, [.ref 35, .retAddr 0, .retAddr 0, .retAddr 0, .retAddr 0, .int 7], [], zs_260, a, b) := (zr_run (mi := zm_37) rfl 400 _).trans rfl
set_option maxRecDepth 100000 in
theorem ct_9_g18 (a : zA) (b : zB) (h : ∀ q j, 55 ≤ q → a q j = 0) (hb : ∀ q j, 55 ≤ q → b q j = 0) : zr zM zprm 37 31 (157, [.ref 35, .retAddr 0, .retAddr 0, .retAddr 0, .retAddr 0, .int 6], [.ref 54, .int 6, .ref 40], zs_28, a, b) = some (none, zs_17, a, b, 116, 0, 232) := by
  refine (ct_9_s18 a b).trans ?_
  rw [ct_9_g19 a b (fun q j hq => h q j (by omega)) (fun q j hq => hb q j (by omega))]
  all_goals rfl
set_option maxRecDepth 100000 in
theorem ct_9_s17 (a : zA) (b : zB) : zr zM zprm 37 31 (137, [.ref 35, .retAddr 0, .retAddr 0, .retAddr 0, .retAddr 0, .int 6], [], zs_261, a, b) = zCNT 2 (zCA zM (zr zM zprm) 26 [.ref 54] zs_28 (zzA a 54) (zzB b 54) (fun sh a b => zr zM zprm 37 31 (157, [.ref 35, .retAddr 0, .retAddr 0, .retAddr 0, .retAddr 0, .int 6], [.ref 54, .int 6, .ref 40], sh, a, b))) := (zr_run (mi := zm_37) rfl 400 _).trans rfl
set_option maxRecDepth 100000 in
theorem ct_9_g17 (a : zA) (b : zB) (h : ∀ q j, 54 ≤ q → a q j = 0) (hb : ∀ q j, 54 ≤ q → b q j = 0) : zr zM zprm 37 31 (137, [.ref 35, .retAddr 0, .retAddr 0, .retAddr 0, .retAddr 0, .int 6], [], zs_261, a, b) = some (none, zs_17, a, b, 117, 0, 234) := by
  refine (ct_9_s17 a b).trans ?_
  rw [zzA_z h 54 (by decide), zzB_z hb 54 (by decide)]
  have h1 : ∀ q j, 54 ≤ q → a q j = 0 := fun q j hq => h q j (by omega)
  have hb1 : ∀ q j, 54 ≤ q → b q j = 0 := fun q j hq => hb q j (by omega)
  rw [zCA_ok (ct_20 a b h1 hb1) rfl, ct_9_g18 _ b (fun q j hq => h q j (by omega)) (fun q j hq => hb q j (by omega))]
  all_goals rfl
set_option maxRecDepth 100000 in
theorem ct_9_s16 (a : zA) (b : zB) : zr zM zprm 37 31 (157, [.ref 35, .retAddr 0, .retAddr 0, .retAddr 0, .retAddr 0, .int 5], [.ref 53, .int 5, .ref 40], zs_27, a, b) = zr zM zprm 37 31 (137, [.ref 35, .retAddr 0, .retAddr 0, .retAddr 0, .retAddr 0, .int 6], [], zs_261, a, b) := (zr_run (mi := zm_37) rfl 400 _).trans rfl
set_option maxRecDepth 100000 in
theorem ct_9_g16 (a : zA) (b : zB) (h : ∀ q j, 54 ≤ q → a q j = 0) (hb : ∀ q j, 54 ≤ q → b q j = 0) : zr zM zprm 37 31 (157, [.ref 35, .retAddr 0, .retAddr 0, .retAddr 0, .retAddr 0, .int 5], [.ref 53, .int 5, .ref 40], zs_27, a, b) = some (none, zs_17, a, b, 117, 0, 234) := by
  refine (ct_9_s16 a b).trans ?_
  rw [ct_9_g17 a b (fun q j hq => h q j (by omega)) (fun q j hq => hb q j (by omega))]
  all_goals rfl
set_option maxRecDepth 100000 in
theorem ct_9_s15 (a : zA) (b : zB) : zr zM zprm 37 31 (137, [.ref 35, .retAddr 0, .retAddr 0, .retAddr 0, .retAddr 0, .int 5], [], zs_262, a, b) = zCNT 2 (zCA zM (zr zM zprm) 26 [.ref 53] zs_27 (zzA a 53) (zzB b 53) (fun sh a b => zr zM zprm 37 31 (157, [.ref 35, .retAddr 0, .retAddr 0, .retAddr 0, .retAddr 0, .int 5], [.ref 53, .int 5, .ref 40], sh, a, b))) := (zr_run (mi := zm_37) rfl 400 _).trans rfl
set_option maxRecDepth 100000 in
theorem ct_9_g15 (a : zA) (b : zB) (h : ∀ q j, 53 ≤ q → a q j = 0) (hb : ∀ q j, 53 ≤ q → b q j = 0) : zr zM zprm 37 31 (137, [.ref 35, .retAddr 0, .retAddr 0, .retAddr 0, .retAddr 0, .int 5], [], zs_262, a, b) = some (none, zs_17, a, b, 118, 0, 236) := by
  refine (ct_9_s15 a b).trans ?_
  rw [zzA_z h 53 (by decide), zzB_z hb 53 (by decide)]
  have h1 : ∀ q j, 53 ≤ q → a q j = 0 := fun q j hq => h q j (by omega)
  have hb1 : ∀ q j, 53 ≤ q → b q j = 0 := fun q j hq => hb q j (by omega)
  rw [zCA_ok (ct_19 a b h1 hb1) rfl, ct_9_g16 _ b (fun q j hq => h q j (by omega)) (fun q j hq => hb q j (by omega))]
  all_goals rfl
set_option maxRecDepth 100000 in
theorem ct_9_s14 (a : zA) (b : zB) : zr zM zprm 37 31 (157, [.ref 35, .retAddr 0, .retAddr 0, .retAddr 0, .retAddr 0, .int 4], [.ref 52, .int 4, .ref 40], zs_26, a, b) = zr zM zprm 37 31 (137, [.ref 35, .retAddr 0, .retAddr 0, .retAddr 0, .retAddr 0, .int 5], [], zs_262, a, b) := (zr_run (mi := zm_37) rfl 400 _).trans rfl
set_option maxRecDepth 100000 in
theorem ct_9_g14 (a : zA) (b : zB) (h : ∀ q j, 53 ≤ q → a q j = 0) (hb : ∀ q j, 53 ≤ q → b q j = 0) : zr zM zprm 37 31 (157, [.ref 35, .retAddr 0, .retAddr 0, .retAddr 0, .retAddr 0, .int 4], [.ref 52, .int 4, .ref 40], zs_26, a, b) = some (none, zs_17, a, b, 118, 0, 236) := by
  refine (ct_9_s14 a b).trans ?_
  rw [ct_9_g15 a b (fun q j hq => h q j (by omega)) (fun q j hq => hb q j (by omega))]
  all_goals rfl
set_option maxRecDepth 100000 in
theorem ct_9_s13 (a : zA) (b : zB) : zr zM zprm 37 31 (137, [.ref 35, .retAddr 0, .retAddr 0, .retAddr 0, .retAddr 0, .int 4], [], zs_263, a, b) = zCNT 2 (zCA zM (zr zM zprm) 26 [.ref 52] zs_26 (zzA a 52) (zzB b 52) (fun sh a b => zr zM zprm 37 31 (157, [.ref 35, .retAddr 0, .retAddr 0, .retAddr 0, .retAddr 0, .int 4], [.ref 52, .int 4, .ref 40], sh, a, b))) := (zr_run (mi := zm_37) rfl 400 _).trans rfl
set_option maxRecDepth 100000 in
theorem ct_9_g13 (a : zA) (b : zB) (h : ∀ q j, 52 ≤ q → a q j = 0) (hb : ∀ q j, 52 ≤ q → b q j = 0) : zr zM zprm 37 31 (137, [.ref 35, .retAddr 0, .retAddr 0, .retAddr 0, .retAddr 0, .int 4], [], zs_263, a, b) = some (none, zs_17, a, b, 119, 0, 238) := by
  refine (ct_9_s13 a b).trans ?_
  rw [zzA_z h 52 (by decide), zzB_z hb 52 (by decide)]
  have h1 : ∀ q j, 52 ≤ q → a q j = 0 := fun q j hq => h q j (by omega)
  have hb1 : ∀ q j, 52 ≤ q → b q j = 0 := fun q j hq => hb q j (by omega)
  rw [zCA_ok (ct_18 a b h1 hb1) rfl, ct_9_g14 _ b (fun q j hq => h q j (by omega)) (fun q j hq => hb q j (by omega))]
  all_goals rfl
set_option maxRecDepth 100000 in
theorem ct_9_s12 (a : zA) (b : zB) : zr zM zprm 37 31 (157, [.ref 35, .retAddr 0, .retAddr 0, .retAddr 0, .retAddr 0, .int 3], [.ref 51, .int 3, .ref 40], zs_25, a, b) = zr zM zprm 37 31 (137, [.ref 35, .retAddr 0, .retAddr 0, .retAddr 0, .retAddr 0, .int 4], [], zs_263, a, b) := (zr_run (mi := zm_37) rfl 400 _).trans rfl
set_option maxRecDepth 100000 in
theorem ct_9_g12 (a : zA) (b : zB) (h : ∀ q j, 52 ≤ q → a q j = 0) (hb : ∀ q j, 52 ≤ q → b q j = 0) : zr zM zprm 37 31 (157, [.ref 35, .retAddr 0, .retAddr 0, .retAddr 0, .retAddr 0, .int 3], [.ref 51, .int 3, .ref 40], zs_25, a, b) = some (none, zs_17, a, b, 119, 0, 238) := by
  refine (ct_9_s12 a b).trans ?_
  rw [ct_9_g13 a b (fun q j hq => h q j (by omega)) (fun q j hq => hb q j (by omega))]
  all_goals rfl
set_option maxRecDepth 100000 in
theorem ct_9_s11 (a : zA) (b : zB) : zr zM zprm 37 31 (137, [.ref 35, .retAddr 0, .retAddr 0, .retAddr 0, .retAddr 0, .int 3], [], zs_264, a, b) = zCNT 2 (zCA zM (zr zM zprm) 26 [.ref 51] zs_25 (zzA a 51) (zzB b 51) (fun sh a b => zr zM zprm 37 31 (157, [.ref 35, .retAddr 0, .retAddr 0, .retAddr 0, .retAddr 0, .int 3], [.ref 51, .int 3, .ref 40], sh, a, b))) := (zr_run (mi := zm_37) rfl 400 _).trans rfl
set_option maxRecDepth 100000 in
theorem ct_9_g11 (a : zA) (b : zB) (h : ∀ q j, 51 ≤ q → a q j = 0) (hb : ∀ q j, 51 ≤ q → b q j = 0) : zr zM zprm 37 31 (137, [.ref 35, .retAddr 0, .retAddr 0, .retAddr 0, .retAddr 0, .int 3], [], zs_264, a, b) = some (none, zs_17, a, b, 120, 0, 240) := by
  refine (ct_9_s11 a b).trans ?_
  rw [zzA_z h 51 (by decide), zzB_z hb 51 (by decide)]
  have h1 : ∀ q j, 51 ≤ q → a q j = 0 := fun q j hq => h q j (by omega)
  have hb1 : ∀ q j, 51 ≤ q → b q j = 0 := fun q j hq => hb q j (by omega)
  rw [zCA_ok (ct_17 a b h1 hb1) rfl, ct_9_g12 _ b (fun q j hq => h q j (by omega)) (fun q j hq => hb q j (by omega))]
  all_goals rfl
set_option maxRecDepth 100000 in
theorem ct_9_s10 (a : zA) (b : zB) : zr zM zprm 37 31 (157, [.ref 35, .retAddr 0, .retAddr 0, .retAddr 0, .retAddr 0, .int 2], [.ref 50, .int 2, .ref 40], zs_24, a, b) = zr zM zprm 37 31 (137, [.ref 35, .retAddr 0, .retAddr 0, .retAddr 0, .retAddr 0, .int 3], [], zs_264, a, b) := (zr_run (mi := zm_37) rfl 400 _).trans rfl
set_option maxRecDepth 100000 in
theorem ct_9_g10 (a : zA) (b : zB) (h : ∀ q j, 51 ≤ q → a q j = 0) (hb : ∀ q j, 51 ≤ q → b q j = 0) : zr zM zprm 37 31 (157, [.ref 35, .retAddr 0, .retAddr 0, .retAddr 0, .retAddr 0, .int 2], [.ref 50, .int 2, .ref 40], zs_24, a, b) = some (none, zs_17, a, b, 120, 0, 240) := by
  refine (ct_9_s10 a b).trans ?_
  rw [ct_9_g11 a b (fun q j hq => h q j (by omega)) (fun q j hq => hb q j (by omega))]
  all_goals rfl
set_option maxRecDepth 100000 in
theorem ct_9_s9 (a : zA) (b : zB) : zr zM zprm 37 31 (137, [.ref 35, .retAddr 0, .retAddr 0, .retAddr 0, .retAddr 0, .int 2], [], zs_265, a, b) = zCNT 2 (zCA zM (zr zM zprm) 26 [.ref 50] zs_24 (zzA a 50) (zzB b 50) (fun sh a b => zr zM zprm 37 31 (157, [.ref 35, .retAddr 0, .retAddr 0, .retAddr 0, .retAddr 0, .int 2], [.ref 50, .int 2, .ref 40], sh, a, b))) := (zr_run (mi := zm_37) rfl 400 _).trans rfl
set_option maxRecDepth 100000 in
theorem ct_9_g9 (a : zA) (b : zB) (h : ∀ q j, 50 ≤ q → a q j = 0) (hb : ∀ q j, 50 ≤ q → b q j = 0) : zr zM zprm 37 31 (137, [.ref 35, .retAddr 0, .retAddr 0, .retAddr 0, .retAddr 0, .int 2], [], zs_265, a, b) = some (none, zs_17, a, b, 121, 0, 242) := by
  refine (ct_9_s9 a b).trans ?_
  rw [zzA_z h 50 (by decide), zzB_z hb 50 (by decide)]
  have h1 : ∀ q j, 50 ≤ q → a q j = 0 := fun q j hq => h q j (by omega)
  have hb1 : ∀ q j, 50 ≤ q → b q j = 0 := fun q j hq => hb q j (by omega)
  rw [zCA_ok (ct_16 a b h1 hb1) rfl, ct_9_g10 _ b (fun q j hq => h q j (by omega)) (fun q j hq => hb q j (by omega))]
  all_goals rfl
set_option maxRecDepth 100000 in
theorem ct_9_s8 (a : zA) (b : zB) : zr zM zprm 37 31 (157, [.ref 35, .retAddr 0, .retAddr 0, .retAddr 0, .retAddr 0, .int 1], [.ref 49, .int 1, .ref 40], zs_23, a, b) = zr zM zprm 37 31 (137, [.ref 35, .retAddr 0, .retAddr 0, .retAddr 0, .retAddr 0, .int 2], [], zs_265, a, b) := (zr_run (mi := zm_37) rfl 400 _).trans rfl
set_option maxRecDepth 100000 in
theorem ct_9_g8 (a : zA) (b : zB) (h : ∀ q j, 50 ≤ q → a q j = 0) (hb : ∀ q j, 50 ≤ q → b q j = 0) : zr zM zprm 37 31 (157, [.ref 35, .retAddr 0, .retAddr 0, .retAddr 0, .retAddr 0, .int 1], [.ref 49, .int 1, .ref 40], zs_23, a, b) = some (none, zs_17, a, b, 121, 0, 242) := by
  refine (ct_9_s8 a b).trans ?_
  rw [ct_9_g9 a b (fun q j hq => h q j (by omega)) (fun q j hq => hb q j (by omega))]
  all_goals rfl
set_option maxRecDepth 100000 in
theorem ct_9_s7 (a : zA) (b : zB) : zr zM zprm 37 31 (137, [.ref 35, .retAddr 0, .retAddr 0, .retAddr 0, .retAddr 0, .int 1], [], zs_266, a, b) = zCNT 2 (zCA zM (zr zM zprm) 26 [.ref 49] zs_23 (zzA a 49) (zzB b 49) (fun sh a b => zr zM zprm 37 31 (157, [.ref 35, .retAddr 0, .retAddr 0, .retAddr 0, .retAddr 0, .int 1], [.ref 49, .int 1, .ref 40], sh, a, b))) := (zr_run (mi := zm_37) rfl 400 _).trans rfl
set_option maxRecDepth 100000 in
theorem ct_9_g7 (a : zA) (b : zB) (h : ∀ q j, 49 ≤ q → a q j = 0) (hb : ∀ q j, 49 ≤ q → b q j = 0) : zr zM zprm 37 31 (137, [.ref 35, .retAddr 0, .retAddr 0, .retAddr 0, .retAddr 0, .int 1], [], zs_266, a, b) = some (none, zs_17, a, b, 122, 0, 244) := by
  refine (ct_9_s7 a b).trans ?_
  rw [zzA_z h 49 (by decide), zzB_z hb 49 (by decide)]
  have h1 : ∀ q j, 49 ≤ q → a q j = 0 := fun q j hq => h q j (by omega)
  have hb1 : ∀ q j, 49 ≤ q → b q j = 0 := fun q j hq => hb q j (by omega)
  rw [zCA_ok (ct_15 a b h1 hb1) rfl, ct_9_g8 _ b (fun q j hq => h q j (by omega)) (fun q j hq => hb q j (by omega))]
  all_goals rfl
set_option maxRecDepth 100000 in
theorem ct_9_s6 (a : zA) (b : zB) : zr zM zprm 37 31 (157, [.ref 35, .retAddr 0, .retAddr 0, .retAddr 0, .retAddr 0, .int 0], [.ref 48, .int 0, .ref 40], zs_22, a, b) = zr zM zprm 37 31 (137, [.ref 35, .retAddr 0, .retAddr 0, .retAddr 0, .retAddr 0, .int 1], [], zs_266, a, b) := (zr_run (mi := zm_37) rfl 400 _).trans rfl
set_option maxRecDepth 100000 in
theorem ct_9_g6 (a : zA) (b : zB) (h : ∀ q j, 49 ≤ q → a q j = 0) (hb : ∀ q j, 49 ≤ q → b q j = 0) : zr zM zprm 37 31 (157, [.ref 35, .retAddr 0, .retAddr 0, .retAddr 0, .retAddr 0, .int 0], [.ref 48, .int 0, .ref 40], zs_22, a, b) = some (none, zs_17, a, b, 122, 0, 244) := by
  refine (ct_9_s6 a b).trans ?_
  rw [ct_9_g7 a b (fun q j hq => h q j (by omega)) (fun q j hq => hb q j (by omega))]
  all_goals rfl
set_option maxRecDepth 100000 in
theorem ct_9_s5 (a : zA) (b : zB) : zr zM zprm 37 31 (137, [.ref 35, .retAddr 0, .retAddr 0, .retAddr 0, .retAddr 0, .int 0], [], zs_267, a, b) = zCNT 2 (zCA zM (zr zM zprm) 26 [.ref 48] zs_22 (zzA a 48) (zzB b 48) (fun sh a b => zr zM zprm 37 31 (157, [.ref 35, .retAddr 0, .retAddr 0, .retAddr 0, .retAddr 0, .int 0], [.ref 48, .int 0, .ref 40], sh, a, b))) := (zr_run (mi := zm_37) rfl 400 _).trans rfl
set_option maxRecDepth 100000 in
theorem ct_9_g5 (a : zA) (b : zB) (h : ∀ q j, 48 ≤ q → a q j = 0) (hb : ∀ q j, 48 ≤ q → b q j = 0) : zr zM zprm 37 31 (137, [.ref 35, .retAddr 0, .retAddr 0, .retAddr 0, .retAddr 0, .int 0], [], zs_267, a, b) = some (none, zs_17, a, b, 123, 0, 246) := by
  refine (ct_9_s5 a b).trans ?_
  rw [zzA_z h 48 (by decide), zzB_z hb 48 (by decide)]
  have h1 : ∀ q j, 48 ≤ q → a q j = 0 := fun q j hq => h q j (by omega)
  have hb1 : ∀ q j, 48 ≤ q → b q j = 0 := fun q j hq => hb q j (by omega)
  rw [zCA_ok (ct_14 a b h1 hb1) rfl, ct_9_g6 _ b (fun q j hq => h q j (by omega)) (fun q j hq => hb q j (by omega))]
  all_goals rfl
set_option maxRecDepth 100000 in
theorem ct_9_s4 (a : zA) (b : zB) : zr zM zprm 37 31 (86, [.ref 35, .ref 2, .ref 8, .ref 12, .ref 26, .retAddr 0], [.ref 44, .ref 35], zs_21, a, b) = zCNT 3 (zCNT 360 (zCNT 3 (zr zM zprm 37 31 (137, [.ref 35, .retAddr 0, .retAddr 0, .retAddr 0, .retAddr 0, .int 0], [], zs_267, (zzA (zzA (zzA a 45) 46) 47), (zzB (zzB (zzB b 45) 46) 47))))) := (zr_run (mi := zm_37) rfl 400 _).trans rfl
set_option maxRecDepth 100000 in
theorem ct_9_g4 (a : zA) (b : zB) (h : ∀ q j, 45 ≤ q → a q j = 0) (hb : ∀ q j, 45 ≤ q → b q j = 0) : zr zM zprm 37 31 (86, [.ref 35, .ref 2, .ref 8, .ref 12, .ref 26, .retAddr 0], [.ref 44, .ref 35], zs_21, a, b) = some (none, zs_17, a, b, 126, 0, 612) := by
  refine (ct_9_s4 a b).trans ?_
  rw [zzA_z h 45 (by decide), zzB_z hb 45 (by decide)]
  rw [zzA_z h 46 (by decide), zzB_z hb 46 (by decide)]
  rw [zzA_z h 47 (by decide), zzB_z hb 47 (by decide)]
  rw [ct_9_g5 a b (fun q j hq => h q j (by omega)) (fun q j hq => hb q j (by omega))]
  all_goals rfl
set_option maxRecDepth 100000 in
theorem ct_9_s3 (a : zA) (b : zB) : zr zM zprm 37 31 (75, [.ref 35, .ref 2, .ref 8, .ref 12, .ref 26, .retAddr 0], [.ref 43, .ref 35], zs_20, a, b) = zCNT 2 (zCA zM (zr zM zprm) 26 [.ref 44] zs_21 (zzA a 44) (zzB b 44) (fun sh a b => zr zM zprm 37 31 (86, [.ref 35, .ref 2, .ref 8, .ref 12, .ref 26, .retAddr 0], [.ref 44, .ref 35], sh, a, b))) := (zr_run (mi := zm_37) rfl 400 _).trans rfl
set_option maxRecDepth 100000 in
theorem ct_9_g3 (a : zA) (b : zB) (h : ∀ q j, 44 ≤ q → a q j = 0) (hb : ∀ q j, 44 ≤ q → b q j = 0) : zr zM zprm 37 31 (75, [.ref 35, .ref 2, .ref 8, .ref 12, .ref 26, .retAddr 0], [.ref 43, .ref 35], zs_20, a, b) = some (none, zs_17, a, b, 127, 0, 614) := by
  refine (ct_9_s3 a b).trans ?_
  rw [zzA_z h 44 (by decide), zzB_z hb 44 (by decide)]
  have h1 : ∀ q j, 44 ≤ q → a q j = 0 := fun q j hq => h q j (by omega)
  have hb1 : ∀ q j, 44 ≤ q → b q j = 0 := fun q j hq => hb q j (by omega)
  rw [zCA_ok (ct_13 a b h1 hb1) rfl, ct_9_g4 _ b (fun q j hq => h q j (by omega)) (fun q j hq => hb q j (by omega))]
  all_goals rfl
set_option maxRecDepth 100000 in
theorem ct_9_s2 (a : zA) (b : zB) : zr zM zprm 37 31 (64, [.ref 35, .ref 2, .ref 8, .ref 12, .ref 26, .retAddr 0], [.ref 42, .ref 35], zs_19, a, b) = zCNT 2 (zCA zM (zr zM zprm) 26 [.ref 43] zs_20 (zzA a 43) (zzB b 43) (fun sh a b => zr zM zprm 37 31 (75, [.ref 35, .ref 2, .ref 8, .ref 12, .ref 26, .retAddr 0], [.ref 43, .ref 35], sh, a, b))) := (zr_run (mi := zm_37) rfl 400 _).trans rfl
set_option maxRecDepth 100000 in
theorem ct_9_g2 (a : zA) (b : zB) (h : ∀ q j, 43 ≤ q → a q j = 0) (hb : ∀ q j, 43 ≤ q → b q j = 0) : zr zM zprm 37 31 (64, [.ref 35, .ref 2, .ref 8, .ref 12, .ref 26, .retAddr 0], [.ref 42, .ref 35], zs_19, a, b) = some (none, zs_17, a, b, 128, 0, 616) := by
  refine (ct_9_s2 a b).trans ?_
  rw [zzA_z h 43 (by decide), zzB_z hb 43 (by decide)]
  have h1 : ∀ q j, 43 ≤ q → a q j = 0 := fun q j hq => h q j (by omega)
  have hb1 : ∀ q j, 43 ≤ q → b q j = 0 := fun q j hq => hb q j (by omega)
  rw [zCA_ok (ct_12 a b h1 hb1) rfl, ct_9_g3 _ b (fun q j hq => h q j (by omega)) (fun q j hq => hb q j (by omega))]
  all_goals rfl
set_option maxRecDepth 100000 in
theorem ct_9_s1 (a : zA) (b : zB) : zr zM zprm 37 31 (53, [.ref 35, .ref 2, .ref 8, .ref 12, .ref 26, .retAddr 0], [.ref 41, .ref 35], zs_18, a, b) = zCNT 2 (zCA zM (zr zM zprm) 26 [.ref 42] zs_19 (zzA a 42) (zzB b 42) (fun sh a b => zr zM zprm 37 31 (64, [.ref 35, .ref 2, .ref 8, .ref 12, .ref 26, .retAddr 0], [.ref 42, .ref 35], sh, a, b))) := (zr_run (mi := zm_37) rfl 400 _).trans rfl
set_option maxRecDepth 100000 in
theorem ct_9_g1 (a : zA) (b : zB) (h : ∀ q j, 42 ≤ q → a q j = 0) (hb : ∀ q j, 42 ≤ q → b q j = 0) : zr zM zprm 37 31 (53, [.ref 35, .ref 2, .ref 8, .ref 12, .ref 26, .retAddr 0], [.ref 41, .ref 35], zs_18, a, b) = some (none, zs_17, a, b, 129, 0, 618) := by
  refine (ct_9_s1 a b).trans ?_
  rw [zzA_z h 42 (by decide), zzB_z hb 42 (by decide)]
  have h1 : ∀ q j, 42 ≤ q → a q j = 0 := fun q j hq => h q j (by omega)
  have hb1 : ∀ q j, 42 ≤ q → b q j = 0 := fun q j hq => hb q j (by omega)
  rw [zCA_ok (ct_11 a b h1 hb1) rfl, ct_9_g2 _ b (fun q j hq => h q j (by omega)) (fun q j hq => hb q j (by omega))]
  all_goals rfl
set_option maxRecDepth 100000 in
theorem ct_9_s0 (a : zA) (b : zB) : zr zM zprm 37 31 (0, [.ref 35, .ref 2, .ref 8, .ref 12, .ref 26, .retAddr 0], [], zs_16, a, b) = zCNT 3 (zCNT 600 (zCNT 120 (zCNT 120 (zCNT 120 (zCNT 2 (zCA zM (zr zM zprm) 26 [.ref 41] zs_18 (zzA (zzA (zzA (zzA (zzA (zzA a 36) 37) 38) 39) 40) 41) (zzB (zzB (zzB (zzB (zzB (zzB b 36) 37) 38) 39) 40) 41) (fun sh a b => zr zM zprm 37 31 (53, [.ref 35, .ref 2, .ref 8, .ref 12, .ref 26, .retAddr 0], [.ref 41, .ref 35], sh, a, b)))))))) := (zr_run (mi := zm_37) rfl 400 _).trans rfl
set_option maxRecDepth 100000 in
theorem ct_9_g0 (a : zA) (b : zB) (h : ∀ q j, 36 ≤ q → a q j = 0) (hb : ∀ q j, 36 ≤ q → b q j = 0) : zr zM zprm 37 31 (0, [.ref 35, .ref 2, .ref 8, .ref 12, .ref 26, .retAddr 0], [], zs_16, a, b) = some (none, zs_17, a, b, 135, 0, 1583) := by
  refine (ct_9_s0 a b).trans ?_
  rw [zzA_z h 36 (by decide), zzB_z hb 36 (by decide)]
  rw [zzA_z h 37 (by decide), zzB_z hb 37 (by decide)]
  rw [zzA_z h 38 (by decide), zzB_z hb 38 (by decide)]
  rw [zzA_z h 39 (by decide), zzB_z hb 39 (by decide)]
  rw [zzA_z h 40 (by decide), zzB_z hb 40 (by decide)]
  rw [zzA_z h 41 (by decide), zzB_z hb 41 (by decide)]
  have h1 : ∀ q j, 41 ≤ q → a q j = 0 := fun q j hq => h q j (by omega)
  have hb1 : ∀ q j, 41 ≤ q → b q j = 0 := fun q j hq => hb q j (by omega)
  rw [zCA_ok (ct_10 a b h1 hb1) rfl, ct_9_g1 _ b (fun q j hq => h q j (by omega)) (fun q j hq => hb q j (by omega))]
  all_goals rfl
set_option maxRecDepth 100000 in
theorem ct_9 (a : zA) (b : zB) (h : ∀ q j, 35 ≤ q → a q j = 0) (hb : ∀ q j, 35 ≤ q → b q j = 0) : zent zM (zr zM zprm) 37 31 [.ref 35, .ref 2, .ref 8, .ref 12, .ref 26] zs_16 a b = some (none, zs_17, a, b, 135, 0, 1583) :=
  (zent_eq (M := zM) (mi := zm_37) rfl rfl).trans (ct_9_g0 a b (fun q j hq => h q j (by omega)) (fun q j hq => hb q j (by omega)))
set_option maxRecDepth 100000 in
theorem ct_137_r (a : zA) (b : zB) : zr zM zprm 78 31 (0, [.ref 173], [], zs_268, a, b) = zCNT 610 (zCNT 10 (zCNT 10 (zCNT 10 (zCNT 10 (zCNT 60 (zCV zM (zr zM zprm) 290 31 [.ref 174, .int (-1)] zs_269 (zup (zup (zzA (zzA (zzA (zzA (zzA (zzA a 174) 175) 176) 177) 178) 179) 173 7 (-1)) 173 8 (-1)) (zzB (zzB (zzB (zzB (zzB (zzB b 174) 175) 176) 177) 178) 179) (fun a b => zCV zM (zr zM zprm) 290 31 [.ref 177, .int (-1)] zs_269 a b (fun a b => zRET none zs_269 a b)))))))) := (zr_run (mi := zm_78) rfl 400 _).trans rfl
set_option maxRecDepth 100000 in
theorem ct_137 (a : zA) (b : zB) (h : ∀ q j, 173 ≤ q → a q j = 0) (hb : ∀ q j, 173 ≤ q → b q j = 0) : zent zM (zr zM zprm) 78 31 [.ref 173] zs_268 a b = some (none, zs_269, zst_ 173 174 a, b, 6, 0, 710) := by
  refine (zent_eq (M := zM) (mi := zm_78) rfl rfl).trans ((ct_137_r a b).trans ?_)
  rw [zzA_z h 174 (by decide), zzB_z hb 174 (by decide)]
  rw [zzA_z h 175 (by decide), zzB_z hb 175 (by decide)]
  rw [zzA_z h 176 (by decide), zzB_z hb 176 (by decide)]
  rw [zzA_z h 177 (by decide), zzB_z hb 177 (by decide)]
  rw [zzA_z h 178 (by decide), zzB_z hb 178 (by decide)]
  rw [zzA_z h 179 (by decide), zzB_z hb 179 (by decide)]
  rw [zCV_ok (zfill_ok zs_269 174 610 _ _ (-1) rfl rfl (by decide)), zCV_ok (zfill_ok zs_269 177 10 _ _ (-1) rfl rfl (by decide))]
  rfl
set_option maxRecDepth 100000 in
theorem ct_138_r (a : zA) (b : zB) : zr zM zprm 78 31 (0, [.ref 180], [], zs_270, a, b) = zCNT 610 (zCNT 10 (zCNT 10 (zCNT 10 (zCNT 10 (zCNT 60 (zCV zM (zr zM zprm) 290 31 [.ref 181, .int (-1)] zs_271 (zup (zup (zzA (zzA (zzA (zzA (zzA (zzA a 181) 182) 183) 184) 185) 186) 180 7 (-1)) 180 8 (-1)) (zzB (zzB (zzB (zzB (zzB (zzB b 181) 182) 183) 184) 185) 186) (fun a b => zCV zM (zr zM zprm) 290 31 [.ref 184, .int (-1)] zs_271 a b (fun a b => zRET none zs_271 a b)))))))) := (zr_run (mi := zm_78) rfl 400 _).trans rfl
set_option maxRecDepth 100000 in
theorem ct_138 (a : zA) (b : zB) (h : ∀ q j, 180 ≤ q → a q j = 0) (hb : ∀ q j, 180 ≤ q → b q j = 0) : zent zM (zr zM zprm) 78 31 [.ref 180] zs_270 a b = some (none, zs_271, zst_ 180 181 a, b, 6, 0, 710) := by
  refine (zent_eq (M := zM) (mi := zm_78) rfl rfl).trans ((ct_138_r a b).trans ?_)
  rw [zzA_z h 181 (by decide), zzB_z hb 181 (by decide)]
  rw [zzA_z h 182 (by decide), zzB_z hb 182 (by decide)]
  rw [zzA_z h 183 (by decide), zzB_z hb 183 (by decide)]
  rw [zzA_z h 184 (by decide), zzB_z hb 184 (by decide)]
  rw [zzA_z h 185 (by decide), zzB_z hb 185 (by decide)]
  rw [zzA_z h 186 (by decide), zzB_z hb 186 (by decide)]
  rw [zCV_ok (zfill_ok zs_271 181 610 _ _ (-1) rfl rfl (by decide)), zCV_ok (zfill_ok zs_271 184 10 _ _ (-1) rfl rfl (by decide))]
  rfl
set_option maxRecDepth 100000 in
theorem ct_139_r (a : zA) (b : zB) : zr zM zprm 78 31 (0, [.ref 187], [], zs_272, a, b) = zCNT 610 (zCNT 10 (zCNT 10 (zCNT 10 (zCNT 10 (zCNT 60 (zCV zM (zr zM zprm) 290 31 [.ref 188, .int (-1)] zs_273 (zup (zup (zzA (zzA (zzA (zzA (zzA (zzA a 188) 189) 190) 191) 192) 193) 187 7 (-1)) 187 8 (-1)) (zzB (zzB (zzB (zzB (zzB (zzB b 188) 189) 190) 191) 192) 193) (fun a b => zCV zM (zr zM zprm) 290 31 [.ref 191, .int (-1)] zs_273 a b (fun a b => zRET none zs_273 a b)))))))) := (zr_run (mi := zm_78) rfl 400 _).trans rfl
set_option maxRecDepth 100000 in
theorem ct_139 (a : zA) (b : zB) (h : ∀ q j, 187 ≤ q → a q j = 0) (hb : ∀ q j, 187 ≤ q → b q j = 0) : zent zM (zr zM zprm) 78 31 [.ref 187] zs_272 a b = some (none, zs_273, zst_ 187 188 a, b, 6, 0, 710) := by
  refine (zent_eq (M := zM) (mi := zm_78) rfl rfl).trans ((ct_139_r a b).trans ?_)
  rw [zzA_z h 188 (by decide), zzB_z hb 188 (by decide)]
  rw [zzA_z h 189 (by decide), zzB_z hb 189 (by decide)]
  rw [zzA_z h 190 (by decide), zzB_z hb 190 (by decide)]
  rw [zzA_z h 191 (by decide), zzB_z hb 191 (by decide)]
  rw [zzA_z h 192 (by decide), zzB_z hb 192 (by decide)]
  rw [zzA_z h 193 (by decide), zzB_z hb 193 (by decide)]
  rw [zCV_ok (zfill_ok zs_273 188 610 _ _ (-1) rfl rfl (by decide)), zCV_ok (zfill_ok zs_273 191 10 _ _ (-1) rfl rfl (by decide))]
  rfl
set_option maxRecDepth 100000 in
theorem ct_1_s14 (a : zA) (b : zB) : zr zM zprm 104 31 (159, [.ref 1, .int 3], [], zs_1, a, b) = zRET none zs_1 a b := (zr_run (mi := zm_104) rfl 400 _).trans rfl
set_option maxRecDepth 100000 in
theorem ct_1_g14 (a : zA) (b : zB) (h : ∀ q j, 194 ≤ q → a q j = 0) (hb : ∀ q j, 194 ≤ q → b q j = 0) : zr zM zprm 104 31 (159, [.ref 1, .int 3], [], zs_1, a, b) = some (none, zs_1, a, b, 0, 0, 0) := by
  refine (ct_1_s14 a b).trans ?_
  all_goals rfl
set_option maxRecDepth 100000 in
theorem ct_1_s13 (a : zA) (b : zB) : zr zM zprm 104 31 (180, [.ref 1, .int 2], [.ref 187, .int 2, .ref 19], zs_273, a, b) = zr zM zprm 104 31 (159, [.ref 1, .int 3], [], zs_1, a, b) := (zr_run (mi := zm_104) rfl 400 _).trans rfl
set_option maxRecDepth 100000 in
theorem ct_1_g13 (a : zA) (b : zB) (h : ∀ q j, 194 ≤ q → a q j = 0) (hb : ∀ q j, 194 ≤ q → b q j = 0) : zr zM zprm 104 31 (180, [.ref 1, .int 2], [.ref 187, .int 2, .ref 19], zs_273, a, b) = some (none, zs_1, a, b, 0, 0, 0) := by
  refine (ct_1_s13 a b).trans ?_
  rw [ct_1_g14 a b (fun q j hq => h q j (by omega)) (fun q j hq => hb q j (by omega))]
  all_goals rfl
set_option maxRecDepth 100000 in
theorem ct_1_s12 (a : zA) (b : zB) : zr zM zprm 104 31 (159, [.ref 1, .int 2], [], zs_274, a, b) = zCNT 9 (zCA zM (zr zM zprm) 78 [.ref 187] zs_272 (zzA a 187) (zzB b 187) (fun sh a b => zr zM zprm 104 31 (180, [.ref 1, .int 2], [.ref 187, .int 2, .ref 19], sh, a, b))) := (zr_run (mi := zm_104) rfl 400 _).trans rfl
set_option maxRecDepth 100000 in
theorem ct_1_g12 (a : zA) (b : zB) (h : ∀ q j, 187 ≤ q → a q j = 0) (hb : ∀ q j, 187 ≤ q → b q j = 0) : zr zM zprm 104 31 (159, [.ref 1, .int 2], [], zs_274, a, b) = some (none, zs_1, zst_ 187 188 a, b, 7, 0, 719) := by
  refine (ct_1_s12 a b).trans ?_
  rw [zzA_z h 187 (by decide), zzB_z hb 187 (by decide)]
  have h1 : ∀ q j, 187 ≤ q → a q j = 0 := fun q j hq => h q j (by omega)
  have hb1 : ∀ q j, 187 ≤ q → b q j = 0 := fun q j hq => hb q j (by omega)
  rw [zCA_ok (ct_139 a b h1 hb1) rfl, ct_1_g13 _ b (fun q j hq => (zst_ne (by omega) (by omega) (by omega)).trans (h q j (by omega))) (fun q j hq => hb q j (by omega))]
  all_goals rfl
set_option maxRecDepth 100000 in
theorem ct_1_s11 (a : zA) (b : zB) : zr zM zprm 104 31 (180, [.ref 1, .int 1], [.ref 180, .int 1, .ref 19], zs_271, a, b) = zr zM zprm 104 31 (159, [.ref 1, .int 2], [], zs_274, a, b) := (zr_run (mi := zm_104) rfl 400 _).trans rfl
set_option maxRecDepth 100000 in
theorem ct_1_g11 (a : zA) (b : zB) (h : ∀ q j, 187 ≤ q → a q j = 0) (hb : ∀ q j, 187 ≤ q → b q j = 0) : zr zM zprm 104 31 (180, [.ref 1, .int 1], [.ref 180, .int 1, .ref 19], zs_271, a, b) = some (none, zs_1, zst_ 187 188 a, b, 7, 0, 719) := by
  refine (ct_1_s11 a b).trans ?_
  rw [ct_1_g12 a b (fun q j hq => h q j (by omega)) (fun q j hq => hb q j (by omega))]
  all_goals rfl
set_option maxRecDepth 100000 in
theorem ct_1_s10 (a : zA) (b : zB) : zr zM zprm 104 31 (159, [.ref 1, .int 1], [], zs_275, a, b) = zCNT 9 (zCA zM (zr zM zprm) 78 [.ref 180] zs_270 (zzA a 180) (zzB b 180) (fun sh a b => zr zM zprm 104 31 (180, [.ref 1, .int 1], [.ref 180, .int 1, .ref 19], sh, a, b))) := (zr_run (mi := zm_104) rfl 400 _).trans rfl
set_option maxRecDepth 100000 in
theorem ct_1_g10 (a : zA) (b : zB) (h : ∀ q j, 180 ≤ q → a q j = 0) (hb : ∀ q j, 180 ≤ q → b q j = 0) : zr zM zprm 104 31 (159, [.ref 1, .int 1], [], zs_275, a, b) = some (none, zs_1, zst_ 187 188 (zst_ 180 181 a), b, 14, 0, 1438) := by
  refine (ct_1_s10 a b).trans ?_
  rw [zzA_z h 180 (by decide), zzB_z hb 180 (by decide)]
  have h1 : ∀ q j, 180 ≤ q → a q j = 0 := fun q j hq => h q j (by omega)
  have hb1 : ∀ q j, 180 ≤ q → b q j = 0 := fun q j hq => hb q j (by omega)
  rw [zCA_ok (ct_138 a b h1 hb1) rfl, ct_1_g11 _ b (fun q j hq => (zst_ne (by omega) (by omega) (by omega)).trans (h q j (by omega))) (fun q j hq => hb q j (by omega))]
  all_goals rfl
set_option maxRecDepth 100000 in
theorem ct_1_s9 (a : zA) (b : zB) : zr zM zprm 104 31 (180, [.ref 1, .int 0], [.ref 173, .int 0, .ref 19], zs_269, a, b) = zr zM zprm 104 31 (159, [.ref 1, .int 1], [], zs_275, a, b) := (zr_run (mi := zm_104) rfl 400 _).trans rfl
set_option maxRecDepth 100000 in
theorem ct_1_g9 (a : zA) (b : zB) (h : ∀ q j, 180 ≤ q → a q j = 0) (hb : ∀ q j, 180 ≤ q → b q j = 0) : zr zM zprm 104 31 (180, [.ref 1, .int 0], [.ref 173, .int 0, .ref 19], zs_269, a, b) = some (none, zs_1, zst_ 187 188 (zst_ 180 181 a), b, 14, 0, 1438) := by
  refine (ct_1_s9 a b).trans ?_
  rw [ct_1_g10 a b (fun q j hq => h q j (by omega)) (fun q j hq => hb q j (by omega))]
  all_goals rfl
set_option maxRecDepth 100000 in
theorem ct_1_s8 (a : zA) (b : zB) : zr zM zprm 104 31 (159, [.ref 1, .int 0], [], zs_276, a, b) = zCNT 9 (zCA zM (zr zM zprm) 78 [.ref 173] zs_268 (zzA a 173) (zzB b 173) (fun sh a b => zr zM zprm 104 31 (180, [.ref 1, .int 0], [.ref 173, .int 0, .ref 19], sh, a, b))) := (zr_run (mi := zm_104) rfl 400 _).trans rfl
set_option maxRecDepth 100000 in
theorem ct_1_g8 (a : zA) (b : zB) (h : ∀ q j, 173 ≤ q → a q j = 0) (hb : ∀ q j, 173 ≤ q → b q j = 0) : zr zM zprm 104 31 (159, [.ref 1, .int 0], [], zs_276, a, b) = some (none, zs_1, zst_ 187 188 (zst_ 180 181 (zst_ 173 174 a)), b, 21, 0, 2157) := by
  refine (ct_1_s8 a b).trans ?_
  rw [zzA_z h 173 (by decide), zzB_z hb 173 (by decide)]
  have h1 : ∀ q j, 173 ≤ q → a q j = 0 := fun q j hq => h q j (by omega)
  have hb1 : ∀ q j, 173 ≤ q → b q j = 0 := fun q j hq => hb q j (by omega)
  rw [zCA_ok (ct_137 a b h1 hb1) rfl, ct_1_g9 _ b (fun q j hq => (zst_ne (by omega) (by omega) (by omega)).trans (h q j (by omega))) (fun q j hq => hb q j (by omega))]
  all_goals rfl
set_option maxRecDepth 100000 in
theorem ct_1_s7 (a : zA) (b : zB) : zr zM zprm 104 31 (138, [.ref 1, .retAddr 0], [.ref 35, .ref 1], zs_17, a, b) = zCNT 32 (zCNT 10 (zr zM zprm 104 31 (159, [.ref 1, .int 0], [], zs_276, (zzA (zzA a 171) 172), (zzB (zzB b 171) 172)))) := (zr_run (mi := zm_104) rfl 400 _).trans rfl
set_option maxRecDepth 100000 in
theorem ct_1_g7 (a : zA) (b : zB) (h : ∀ q j, 171 ≤ q → a q j = 0) (hb : ∀ q j, 171 ≤ q → b q j = 0) : zr zM zprm 104 31 (138, [.ref 1, .retAddr 0], [.ref 35, .ref 1], zs_17, a, b) = some (none, zs_1, zst_ 187 188 (zst_ 180 181 (zst_ 173 174 a)), b, 23, 0, 2199) := by
  refine (ct_1_s7 a b).trans ?_
  rw [zzA_z h 171 (by decide), zzB_z hb 171 (by decide)]
  rw [zzA_z h 172 (by decide), zzB_z hb 172 (by decide)]
  rw [ct_1_g8 a b (fun q j hq => h q j (by omega)) (fun q j hq => hb q j (by omega))]
  all_goals rfl
set_option maxRecDepth 100000 in
theorem ct_1_s6 (a : zA) (b : zB) : zr zM zprm 104 31 (111, [.ref 1, .retAddr 0], [.ref 27, .ref 1], zs_15, a, b) = zCNT 20 (zCA zM (zr zM zprm) 37 [.ref 35, .ref 2, .ref 8, .ref 12, .ref 26] zs_16 (zzA a 35) (zzB b 35) (fun sh a b => zr zM zprm 104 31 (138, [.ref 1, .retAddr 0], [.ref 35, .ref 1], sh, a, b))) := (zr_run (mi := zm_104) rfl 400 _).trans rfl
set_option maxRecDepth 100000 in
theorem ct_1_g6 (a : zA) (b : zB) (h : ∀ q j, 35 ≤ q → a q j = 0) (hb : ∀ q j, 35 ≤ q → b q j = 0) : zr zM zprm 104 31 (111, [.ref 1, .retAddr 0], [.ref 27, .ref 1], zs_15, a, b) = some (none, zs_1, zst_ 187 188 (zst_ 180 181 (zst_ 173 174 a)), b, 159, 0, 3802) := by
  refine (ct_1_s6 a b).trans ?_
  rw [zzA_z h 35 (by decide), zzB_z hb 35 (by decide)]
  have h1 : ∀ q j, 35 ≤ q → a q j = 0 := fun q j hq => h q j (by omega)
  have hb1 : ∀ q j, 35 ≤ q → b q j = 0 := fun q j hq => hb q j (by omega)
  rw [zCA_ok (ct_9 a b h1 hb1) rfl, ct_1_g7 _ b (fun q j hq => h q j (by omega)) (fun q j hq => hb q j (by omega))]
  all_goals rfl
set_option maxRecDepth 100000 in
theorem ct_1_s5 (a : zA) (b : zB) : zr zM zprm 104 31 (88, [.ref 1, .retAddr 0], [.ref 26, .ref 1], zs_13, a, b) = zCNT 12 (zCA zM (zr zM zprm) 0 [.ref 27, .ref 2, .ref 12, .ref 26] zs_14 (zzA a 27) (zzB b 27) (fun sh a b => zr zM zprm 104 31 (111, [.ref 1, .retAddr 0], [.ref 27, .ref 1], sh, a, b))) := (zr_run (mi := zm_104) rfl 400 _).trans rfl
set_option maxRecDepth 100000 in
theorem ct_1_g5 (a : zA) (b : zB) (h : ∀ q j, 27 ≤ q → a q j = 0) (hb : ∀ q j, 27 ≤ q → b q j = 0) : zr zM zprm 104 31 (88, [.ref 1, .retAddr 0], [.ref 26, .ref 1], zs_13, a, b) = some (none, zs_1, zst_ 187 188 (zst_ 180 181 (zst_ 173 174 a)), b, 167, 0, 116805) := by
  refine (ct_1_s5 a b).trans ?_
  rw [zzA_z h 27 (by decide), zzB_z hb 27 (by decide)]
  have h1 : ∀ q j, 27 ≤ q → a q j = 0 := fun q j hq => h q j (by omega)
  have hb1 : ∀ q j, 27 ≤ q → b q j = 0 := fun q j hq => hb q j (by omega)
  rw [zCA_ok (ct_8 a b h1 hb1) rfl, ct_1_g6 _ b (fun q j hq => h q j (by omega)) (fun q j hq => hb q j (by omega))]
  all_goals rfl
set_option maxRecDepth 100000 in
theorem ct_1_s4 (a : zA) (b : zB) : zr zM zprm 104 31 (65, [.ref 1, .retAddr 0], [.ref 21, .ref 1], zs_9, a, b) = zCNT 3 (zCA zM (zr zM zprm) 91 [.ref 26, .ref 2, .ref 8, .ref 12] zs_12 (zzA a 26) (zzB b 26) (fun sh a b => zr zM zprm 104 31 (88, [.ref 1, .retAddr 0], [.ref 26, .ref 1], sh, a, b))) := (zr_run (mi := zm_104) rfl 400 _).trans rfl
set_option maxRecDepth 100000 in
theorem ct_1_g4 (a : zA) (b : zB) (h : ∀ q j, 26 ≤ q → a q j = 0) (hb : ∀ q j, 26 ≤ q → b q j = 0) : zr zM zprm 104 31 (65, [.ref 1, .retAddr 0], [.ref 21, .ref 1], zs_9, a, b) = some (none, zs_1, zst_ 187 188 (zst_ 180 181 (zst_ 173 174 a)), b, 168, 0, 116808) := by
  refine (ct_1_s4 a b).trans ?_
  rw [zzA_z h 26 (by decide), zzB_z hb 26 (by decide)]
  have h1 : ∀ q j, 26 ≤ q → a q j = 0 := fun q j hq => h q j (by omega)
  have hb1 : ∀ q j, 26 ≤ q → b q j = 0 := fun q j hq => hb q j (by omega)
  rw [zCA_ok (ct_7 a b h1 hb1) rfl, ct_1_g5 _ b (fun q j hq => h q j (by omega)) (fun q j hq => hb q j (by omega))]
  all_goals rfl
set_option maxRecDepth 100000 in
theorem ct_1_s3 (a : zA) (b : zB) : zr zM zprm 104 31 (34, [.ref 1, .retAddr 0], [.ref 12, .ref 1], zs_7, a, b) = zCNT 3 (zCNT 80 (zCNT 4 (zCA zM (zr zM zprm) 68 [.ref 21, .ref 20] zs_8 (zzA (zzA (zzA a 19) 20) 21) (zzB (zzB (zzB b 19) 20) 21) (fun sh a b => zr zM zprm 104 31 (65, [.ref 1, .retAddr 0], [.ref 21, .ref 1], sh, a, b))))) := (zr_run (mi := zm_104) rfl 400 _).trans rfl
set_option maxRecDepth 100000 in
theorem ct_1_g3 (a : zA) (b : zB) (h : ∀ q j, 19 ≤ q → a q j = 0) (hb : ∀ q j, 19 ≤ q → b q j = 0) : zr zM zprm 104 31 (34, [.ref 1, .retAddr 0], [.ref 12, .ref 1], zs_7, a, b) = some (none, zs_1, zst_ 187 188 (zst_ 180 181 (zst_ 173 174 a)), b, 175, 0, 117911) := by
  refine (ct_1_s3 a b).trans ?_
  rw [zzA_z h 19 (by decide), zzB_z hb 19 (by decide)]
  rw [zzA_z h 20 (by decide), zzB_z hb 20 (by decide)]
  rw [zzA_z h 21 (by decide), zzB_z hb 21 (by decide)]
  have h1 : ∀ q j, 21 ≤ q → a q j = 0 := fun q j hq => h q j (by omega)
  have hb1 : ∀ q j, 21 ≤ q → b q j = 0 := fun q j hq => hb q j (by omega)
  rw [zCA_ok (ct_5 a b h1 hb1) rfl, ct_1_g4 _ b (fun q j hq => h q j (by omega)) (fun q j hq => hb q j (by omega))]
  all_goals rfl
set_option maxRecDepth 100000 in
theorem ct_1_s2 (a : zA) (b : zB) : zr zM zprm 104 31 (23, [.ref 1, .retAddr 0], [.ref 8, .ref 1], zs_5, a, b) = zCNT 9 (zCA zM (zr zM zprm) 78 [.ref 12] zs_6 (zzA a 12) (zzB b 12) (fun sh a b => zr zM zprm 104 31 (34, [.ref 1, .retAddr 0], [.ref 12, .ref 1], sh, a, b))) := (zr_run (mi := zm_104) rfl 400 _).trans rfl
set_option maxRecDepth 100000 in
theorem ct_1_g2 (a : zA) (b : zB) (h : ∀ q j, 12 ≤ q → a q j = 0) (hb : ∀ q j, 12 ≤ q → b q j = 0) : zr zM zprm 104 31 (23, [.ref 1, .retAddr 0], [.ref 8, .ref 1], zs_5, a, b) = some (none, zs_1, zst_ 187 188 (zst_ 180 181 (zst_ 173 174 (zst_ 12 13 a))), b, 182, 0, 118630) := by
  refine (ct_1_s2 a b).trans ?_
  rw [zzA_z h 12 (by decide), zzB_z hb 12 (by decide)]
  have h1 : ∀ q j, 12 ≤ q → a q j = 0 := fun q j hq => h q j (by omega)
  have hb1 : ∀ q j, 12 ≤ q → b q j = 0 := fun q j hq => hb q j (by omega)
  rw [zCA_ok (ct_4 a b h1 hb1) rfl, ct_1_g3 _ b (fun q j hq => (zst_ne (by omega) (by omega) (by omega)).trans (h q j (by omega))) (fun q j hq => hb q j (by omega))]
  all_goals rfl
set_option maxRecDepth 100000 in
theorem ct_1_s1 (a : zA) (b : zB) : zr zM zprm 104 31 (12, [.ref 1, .retAddr 0], [.ref 2, .ref 1], zs_3, a, b) = zCNT 4 (zCA zM (zr zM zprm) 17 [.ref 8] zs_4 (zzA a 8) (zzB b 8) (fun sh a b => zr zM zprm 104 31 (23, [.ref 1, .retAddr 0], [.ref 8, .ref 1], sh, a, b))) := (zr_run (mi := zm_104) rfl 400 _).trans rfl
set_option maxRecDepth 100000 in
theorem ct_1_g1 (a : zA) (b : zB) (h : ∀ q j, 8 ≤ q → a q j = 0) (hb : ∀ q j, 8 ≤ q → b q j = 0) : zr zM zprm 104 31 (12, [.ref 1, .retAddr 0], [.ref 2, .ref 1], zs_3, a, b) = some (none, zs_1, zst_ 187 188 (zst_ 180 181 (zst_ 173 174 (zst_ 12 13 a))), b, 186, 0, 119646) := by
  refine (ct_1_s1 a b).trans ?_
  rw [zzA_z h 8 (by decide), zzB_z hb 8 (by decide)]
  have h1 : ∀ q j, 8 ≤ q → a q j = 0 := fun q j hq => h q j (by omega)
  have hb1 : ∀ q j, 8 ≤ q → b q j = 0 := fun q j hq => hb q j (by omega)
  rw [zCA_ok (ct_3 a b h1 hb1) rfl, ct_1_g2 _ b (fun q j hq => h q j (by omega)) (fun q j hq => hb q j (by omega))]
  all_goals rfl
set_option maxRecDepth 100000 in
theorem ct_1_s0 (a : zA) (b : zB) : zr zM zprm 104 31 (0, [.ref 1, .retAddr 0], [], zs_0, a, b) = zCNT 7 (zCA zM (zr zM zprm) 13 [.ref 2] zs_2 (zzA a 2) (zzB b 2) (fun sh a b => zr zM zprm 104 31 (12, [.ref 1, .retAddr 0], [.ref 2, .ref 1], sh, a, b))) := (zr_run (mi := zm_104) rfl 400 _).trans rfl
set_option maxRecDepth 100000 in
theorem ct_1_g0 (a : zA) (b : zB) (h : ∀ q j, 2 ≤ q → a q j = 0) (hb : ∀ q j, 2 ≤ q → b q j = 0) : zr zM zprm 104 31 (0, [.ref 1, .retAddr 0], [], zs_0, a, b) = some (none, zs_1, zst_ 187 188 (zst_ 180 181 (zst_ 173 174 (zst_ 12 13 a))), b, 192, 0, 119703) := by
  refine (ct_1_s0 a b).trans ?_
  rw [zzA_z h 2 (by decide), zzB_z hb 2 (by decide)]
  have h1 : ∀ q j, 2 ≤ q → a q j = 0 := fun q j hq => h q j (by omega)
  have hb1 : ∀ q j, 2 ≤ q → b q j = 0 := fun q j hq => hb q j (by omega)
  rw [zCA_ok (ct_2 a b h1 hb1) rfl, ct_1_g1 _ b (fun q j hq => h q j (by omega)) (fun q j hq => hb q j (by omega))]
  all_goals rfl
set_option maxRecDepth 100000 in
theorem ct_1 (a : zA) (b : zB) (h : ∀ q j, 1 ≤ q → a q j = 0) (hb : ∀ q j, 1 ≤ q → b q j = 0) : zent zM (zr zM zprm) 104 31 [.ref 1] zs_0 a b = some (none, zs_1, zst_ 187 188 (zst_ 180 181 (zst_ 173 174 (zst_ 12 13 a))), b, 192, 0, 119703) :=
  (zent_eq (M := zM) (mi := zm_104) rfl rfl).trans (ct_1_g0 a b (fun q j hq => h q j (by omega)) (fun q j hq => hb q j (by omega)))
set_option maxRecDepth 100000 in
theorem ct_140_r (a : zA) (b : zB) : zr zM zprm 286 31 (0, [.ref 194], [], zs_277, a, b) = some (none, zs_278, zzA (zzA (zzA (zzA (zzA (zzA (zzA (zzA (zzA (zzA (zzA (zzA (zzA (zzA (zzA (zzA (zzA (zzA (zzA (zzA (zzA (zup (zzA (zzA (zzA (zzA (zzA (zzA (zzA (zzA (zzA (zzA (zzA (zzA (zzA (zzA (zzA (zzA (zzA (zzA (zzA (zzA (zzA a 195) 196) 197) 198) 199) 200) 201) 202) 203) 204) 205) 206) 207) 208) 209) 210) 211) 212) 213) 214) 215) 194 37 (-1)) 216) 217) 218) 219) 220) 221) 222) 223) 224) 225) 226) 227) 228) 229) 230) 231) 232) 233) 234) 235) 236, zzB (zzB (zzB (zzB (zzB (zzB (zzB (zzB (zzB (zzB (zzB (zzB (zzB (zzB (zzB (zzB (zzB (zzB (zzB (zzB (zzB (zzB (zzB (zzB (zzB (zzB (zzB (zzB (zzB (zzB (zzB (zzB (zzB (zzB (zzB (zzB (zzB (zzB (zzB (zzB (zzB (zzB b 195) 196) 197) 198) 199) 200) 201) 202) 203) 204) 205) 206) 207) 208) 209) 210) 211) 212) 213) 214) 215) 216) 217) 218) 219) 220) 221) 222) 223) 224) 225) 226) 227) 228) 229) 230) 231) 232) 233) 234) 235) 236, 42, 0, 142736) := (zr_run (mi := zm_286) rfl 400 _).trans rfl
set_option maxRecDepth 100000 in
theorem ct_140 (a : zA) (b : zB) (h : ∀ q j, 194 ≤ q → a q j = 0) (hb : ∀ q j, 194 ≤ q → b q j = 0) : zent zM (zr zM zprm) 286 31 [.ref 194] zs_277 a b = some (none, zs_278, zup a 194 37 (-1), b, 42, 0, 142736) := by
  refine (zent_eq (M := zM) (mi := zm_286) rfl rfl).trans ((ct_140_r a b).trans ?_)
  rw [zzA_z h 195 (by decide), zzB_z hb 195 (by decide)]
  rw [zzA_z h 196 (by decide), zzB_z hb 196 (by decide)]
  rw [zzA_z h 197 (by decide), zzB_z hb 197 (by decide)]
  rw [zzA_z h 198 (by decide), zzB_z hb 198 (by decide)]
  rw [zzA_z h 199 (by decide), zzB_z hb 199 (by decide)]
  rw [zzA_z h 200 (by decide), zzB_z hb 200 (by decide)]
  rw [zzA_z h 201 (by decide), zzB_z hb 201 (by decide)]
  rw [zzA_z h 202 (by decide), zzB_z hb 202 (by decide)]
  rw [zzA_z h 203 (by decide), zzB_z hb 203 (by decide)]
  rw [zzA_z h 204 (by decide), zzB_z hb 204 (by decide)]
  rw [zzA_z h 205 (by decide), zzB_z hb 205 (by decide)]
  rw [zzA_z h 206 (by decide), zzB_z hb 206 (by decide)]
  rw [zzA_z h 207 (by decide), zzB_z hb 207 (by decide)]
  rw [zzA_z h 208 (by decide), zzB_z hb 208 (by decide)]
  rw [zzA_z h 209 (by decide), zzB_z hb 209 (by decide)]
  rw [zzA_z h 210 (by decide), zzB_z hb 210 (by decide)]
  rw [zzA_z h 211 (by decide), zzB_z hb 211 (by decide)]
  rw [zzA_z h 212 (by decide), zzB_z hb 212 (by decide)]
  rw [zzA_z h 213 (by decide), zzB_z hb 213 (by decide)]
  rw [zzA_z h 214 (by decide), zzB_z hb 214 (by decide)]
  rw [zzA_z h 215 (by decide), zzB_z hb 215 (by decide)]
  have h : ∀ q j, 195 ≤ q → zup a 194 37 (-1) q j = 0 := fun q j hq => (zup_ne (by omega)).trans (h q j (by omega))
  rw [zzA_z h 216 (by decide), zzB_z hb 216 (by decide)]
  rw [zzA_z h 217 (by decide), zzB_z hb 217 (by decide)]
  rw [zzA_z h 218 (by decide), zzB_z hb 218 (by decide)]
  rw [zzA_z h 219 (by decide), zzB_z hb 219 (by decide)]
  rw [zzA_z h 220 (by decide), zzB_z hb 220 (by decide)]
  rw [zzA_z h 221 (by decide), zzB_z hb 221 (by decide)]
  rw [zzA_z h 222 (by decide), zzB_z hb 222 (by decide)]
  rw [zzA_z h 223 (by decide), zzB_z hb 223 (by decide)]
  rw [zzA_z h 224 (by decide), zzB_z hb 224 (by decide)]
  rw [zzA_z h 225 (by decide), zzB_z hb 225 (by decide)]
  rw [zzA_z h 226 (by decide), zzB_z hb 226 (by decide)]
  rw [zzA_z h 227 (by decide), zzB_z hb 227 (by decide)]
  rw [zzA_z h 228 (by decide), zzB_z hb 228 (by decide)]
  rw [zzA_z h 229 (by decide), zzB_z hb 229 (by decide)]
  rw [zzA_z h 230 (by decide), zzB_z hb 230 (by decide)]
  rw [zzA_z h 231 (by decide), zzB_z hb 231 (by decide)]
  rw [zzA_z h 232 (by decide), zzB_z hb 232 (by decide)]
  rw [zzA_z h 233 (by decide), zzB_z hb 233 (by decide)]
  rw [zzA_z h 234 (by decide), zzB_z hb 234 (by decide)]
  rw [zzA_z h 235 (by decide), zzB_z hb 235 (by decide)]
  rw [zzA_z h 236 (by decide), zzB_z hb 236 (by decide)]
