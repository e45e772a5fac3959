/-! The constructors, by segments. -/
set_option maxRecDepth 100000 in
theorem ct_9_g183 (a : zA) (b : zB) (h : ∀ q j, 137 ≤ q → a q j = 0) (hb : ∀ q j, 137 ≤ q → b q j = 0) : zr zM zprm 37 31 (137, [.ref 35, .retAddr 0, .retAddr 0, .retAddr 0, .retAddr 0, .int 89], [], zs_178, a, b) = some (none, zs_17, a, b, 34, 0, 68) := by
  refine (ct_9_s183 a b).trans ?_
  rw [zzA_z h 137 (by decide), zzB_z hb 137 (by decide)]
  have h1 : ∀ q j, 137 ≤ q → a q j = 0 := fun q j hq => h q j (by omega)
  have hb1 : ∀ q j, 137 ≤ q → b q j = 0 := fun q j hq => hb q j (by omega)
  rw [zCA_ok (ct_103 a b h1 hb1) rfl, ct_9_g184 _ b (fun q j hq => h q j (by omega)) (fun q j hq => hb q j (by omega))]
  all_goals rfl
set_option maxRecDepth 100000 in
theorem ct_9_s182 (a : zA) (b : zB) : zr zM zprm 37 31 (157, [.ref 35, .retAddr 0, .retAddr 0, .retAddr 0, .retAddr 0, .int 88], [.ref 136, .int 88, .ref 40], zs_110, a, b) = zr zM zprm 37 31 (137, [.ref 35, .retAddr 0, .retAddr 0, .retAddr 0, .retAddr 0, .int 89], [], zs_178, a, b) := (zr_run (mi := zm_37) rfl 400 _).trans rfl
set_option maxRecDepth 100000 in
theorem ct_9_g182 (a : zA) (b : zB) (h : ∀ q j, 137 ≤ q → a q j = 0) (hb : ∀ q j, 137 ≤ q → b q j = 0) : zr zM zprm 37 31 (157, [.ref 35, .retAddr 0, .retAddr 0, .retAddr 0, .retAddr 0, .int 88], [.ref 136, .int 88, .ref 40], zs_110, a, b) = some (none, zs_17, a, b, 34, 0, 68) := by
  refine (ct_9_s182 a b).trans ?_
  rw [ct_9_g183 a b (fun q j hq => h q j (by omega)) (fun q j hq => hb q j (by omega))]
  all_goals rfl
set_option maxRecDepth 100000 in
theorem ct_9_s181 (a : zA) (b : zB) : zr zM zprm 37 31 (137, [.ref 35, .retAddr 0, .retAddr 0, .retAddr 0, .retAddr 0, .int 88], [], zs_179, a, b) = zCNT 2 (zCA zM (zr zM zprm) 26 [.ref 136] zs_110 (zzA a 136) (zzB b 136) (fun sh a b => zr zM zprm 37 31 (157, [.ref 35, .retAddr 0, .retAddr 0, .retAddr 0, .retAddr 0, .int 88], [.ref 136, .int 88, .ref 40], sh, a, b))) := (zr_run (mi := zm_37) rfl 400 _).trans rfl
set_option maxRecDepth 100000 in
theorem ct_9_g181 (a : zA) (b : zB) (h : ∀ q j, 136 ≤ q → a q j = 0) (hb : ∀ q j, 136 ≤ q → b q j = 0) : zr zM zprm 37 31 (137, [.ref 35, .retAddr 0, .retAddr 0, .retAddr 0, .retAddr 0, .int 88], [], zs_179, a, b) = some (none, zs_17, a, b, 35, 0, 70) := by
  refine (ct_9_s181 a b).trans ?_
  rw [zzA_z h 136 (by decide), zzB_z hb 136 (by decide)]
  have h1 : ∀ q j, 136 ≤ q → a q j = 0 := fun q j hq => h q j (by omega)
  have hb1 : ∀ q j, 136 ≤ q → b q j = 0 := fun q j hq => hb q j (by omega)
  rw [zCA_ok (ct_102 a b h1 hb1) rfl, ct_9_g182 _ b (fun q j hq => h q j (by omega)) (fun q j hq => hb q j (by omega))]
  all_goals rfl
set_option maxRecDepth 100000 in
theorem ct_9_s180 (a : zA) (b : zB) : zr zM zprm 37 31 (157, [.ref 35, .retAddr 0, .retAddr 0, .retAddr 0, .retAddr 0, .int 87], [.ref 135, .int 87, .ref 40], zs_109, a, b) = zr zM zprm 37 31 (137, [.ref 35, .retAddr 0, .retAddr 0, .retAddr 0, .retAddr 0, .int 88], [], zs_179, a, b) := (zr_run (mi := zm_37) rfl 400 _).trans rfl
set_option maxRecDepth 100000 in
theorem ct_9_g180 (a : zA) (b : zB) (h : ∀ q j, 136 ≤ q → a q j = 0) (hb : ∀ q j, 136 ≤ q → b q j = 0) : zr zM zprm 37 31 (157, [.ref 35, .retAddr 0, .retAddr 0, .retAddr 0, .retAddr 0, .int 87], [.ref 135, .int 87, .ref 40], zs_109, a, b) = some (none, zs_17, a, b, 35, 0, 70) := by
  refine (ct_9_s180 a b).trans ?_
  rw [ct_9_g181 a b (fun q j hq => h q j (by omega)) (fun q j hq => hb q j (by omega))]
  all_goals rfl
set_option maxRecDepth 100000 in
theorem ct_9_s179 (a : zA) (b : zB) : zr zM zprm 37 31 (137, [.ref 35, .retAddr 0, .retAddr 0, .retAddr 0, .retAddr 0, .int 87], [], zs_180, a, b) = zCNT 2 (zCA zM (zr zM zprm) 26 [.ref 135] zs_109 (zzA a 135) (zzB b 135) (fun sh a b => zr zM zprm 37 31 (157, [.ref 35, .retAddr 0, .retAddr 0, .retAddr 0, .retAddr 0, .int 87], [.ref 135, .int 87, .ref 40], sh, a, b))) := (zr_run (mi := zm_37) rfl 400 _).trans rfl
set_option maxRecDepth 100000 in
theorem ct_9_g179 (a : zA) (b : zB) (h : ∀ q j, 135 ≤ q → a q j = 0) (hb : ∀ q j, 135 ≤ q → b q j = 0) : zr zM zprm 37 31 (137, [.ref 35, .retAddr 0, .retAddr 0, .retAddr 0, .retAddr 0, .int 87], [], zs_180, a, b) = some (none, zs_17, a, b, 36, 0, 72) := by
  refine (ct_9_s179 a b).trans ?_
  rw [zzA_z h 135 (by decide), zzB_z hb 135 (by decide)]
  have h1 : ∀ q j, 135 ≤ q → a q j = 0 := fun q j hq => h q j (by omega)
  have hb1 : ∀ q j, 135 ≤ q → b q j = 0 := fun q j hq => hb q j (by omega)
  rw [zCA_ok (ct_101 a b h1 hb1) rfl, ct_9_g180 _ b (fun q j hq => h q j (by omega)) (fun q j hq => hb q j (by omega))]
  all_goals rfl
set_option maxRecDepth 100000 in
theorem ct_9_s178 (a : zA) (b : zB) : zr zM zprm 37 31 (157, [.ref 35, .retAddr 0, .retAddr 0, .retAddr 0, .retAddr 0, .int 86], [.ref 134, .int 86, .ref 40], zs_108, a, b) = zr zM zprm 37 31 (137, [.ref 35, .retAddr 0, .retAddr 0, .retAddr 0, .retAddr 0, .int 87], [], zs_180, a, b) := (zr_run (mi := zm_37) rfl 400 _).trans rfl
set_option maxRecDepth 100000 in
theorem ct_9_g178 (a : zA) (b : zB) (h : ∀ q j, 135 ≤ q → a q j = 0) (hb : ∀ q j, 135 ≤ q → b q j = 0) : zr zM zprm 37 31 (157, [.ref 35, .retAddr 0, .retAddr 0, .retAddr 0, .retAddr 0, .int 86], [.ref 134, .int 86, .ref 40], zs_108, a, b) = some (none, zs_17, a, b, 36, 0, 72) := by
  refine (ct_9_s178 a b).trans ?_
  rw [ct_9_g179 a b (fun q j hq => h q j (by omega)) (fun q j hq => hb q j (by omega))]
  all_goals rfl
set_option maxRecDepth 100000 in
theorem ct_9_s177 (a : zA) (b : zB) : zr zM zprm 37 31 (137, [.ref 35, .retAddr 0, .retAddr 0, .retAddr 0, .retAddr 0, .int 86], [], zs_181, a, b) = zCNT 2 (zCA zM (zr zM zprm) 26 [.ref 134] zs_108 (zzA a 134) (zzB b 134) (fun sh a b => zr zM zprm 37 31 (157, [.ref 35, .retAddr 0, .retAddr 0, .retAddr 0, .retAddr 0, .int 86], [.ref 134, .int 86, .ref 40], sh, a, b))) := (zr_run (mi := zm_37) rfl 400 _).trans rfl
set_option maxRecDepth 100000 in
theorem ct_9_g177 (a : zA) (b : zB) (h : ∀ q j, 134 ≤ q → a q j = 0) (hb : ∀ q j, 134 ≤ q → b q j = 0) : zr zM zprm 37 31 (137, [.ref 35, .retAddr 0, .retAddr 0, .retAddr 0, .retAddr 0, .int 86], [], zs_181, a, b) = some (none, zs_17, a, b, 37, 0, 74) := by
  refine (ct_9_s177 a b).trans ?_
  rw [zzA_z h 134 (by decide), zzB_z hb 134 (by decide)]
  have h1 : ∀ q j, 134 ≤ q → a q j = 0 := fun q j hq => h q j (by omega)
  have hb1 : ∀ q j, 134 ≤ q → b q j = 0 := fun q j hq => hb q j (by omega)
  rw [zCA_ok (ct_100 a b h1 hb1) rfl, ct_9_g178 _ b (fun q j hq => h q j (by omega)) (fun q j hq => hb q j (by omega))]
  all_goals rfl
set_option maxRecDepth 100000 in
theorem ct_9_s176 (a : zA) (b : zB) : zr zM zprm 37 31 (157, [.ref 35, .retAddr 0, .retAddr 0, .retAddr 0, .retAddr 0, .int 85], [.ref 133, .int 85, .ref 40], zs_107, a, b) = zr zM zprm 37 31 (137, [.ref 35, .retAddr 0, .retAddr 0, .retAddr 0, .retAddr 0, .int 86], [], zs_181, a, b) := (zr_run (mi := zm_37) rfl 400 _).trans rfl
set_option maxRecDepth 100000 in
theorem ct_9_g176 (a : zA) (b : zB) (h : ∀ q j, 134 ≤ q → a q j = 0) (hb : ∀ q j, 134 ≤ q → b q j = 0) : zr zM zprm 37 31 (157, [.ref 35, .retAddr 0, .retAddr 0, .retAddr 0, .retAddr 0, .int 85], [.ref 133, .int 85, .ref 40], zs_107, a, b) = some (none, zs_17, a, b, 37, 0, 74) := by
  refine (ct_9_s176 a b).trans ?_
  rw [ct_9_g177 a b (fun q j hq => h q j (by omega)) (fun q j hq => hb q j (by omega))]
  all_goals rfl
set_option maxRecDepth 100000 in
theorem ct_9_s175 (a : zA) (b : zB) : zr zM zprm 37 31 (137, [.ref 35, .retAddr 0, .retAddr 0, .retAddr 0, .retAddr 0, .int 85], [], zs_182, a, b) = zCNT 2 (zCA zM (zr zM zprm) 26 [.ref 133] zs_107 (zzA a 133) (zzB b 133) (fun sh a b => zr zM zprm 37 31 (157, [.ref 35, .retAddr 0, .retAddr 0, .retAddr 0, .retAddr 0, .int 85], [.ref 133, .int 85, .ref 40], sh, a, b))) := (zr_run (mi := zm_37) rfl 400 _).trans rfl
set_option maxRecDepth 100000 in
theorem ct_9_g175 (a : zA) (b : zB) (h : ∀ q j, 133 ≤ q → a q j = 0) (hb : ∀ q j, 133 ≤ q → b q j = 0) : zr zM zprm 37 31 (137, [.ref 35, .retAddr 0, .retAddr 0, .retAddr 0, .retAddr 0, .int 85], [], zs_182, a, b) = some (none, zs_17, a, b, 38, 0, 76) := by
  refine (ct_9_s175 a b).trans ?_
  rw [zzA_z h 133 (by decide), zzB_z hb 133 (by decide)]
  have h1 : ∀ q j, 133 ≤ q → a q j = 0 := fun q j hq => h q j (by omega)
  have hb1 : ∀ q j, 133 ≤ q → b q j = 0 := fun q j hq => hb q j (by omega)
  rw [zCA_ok (ct_99 a b h1 hb1) rfl, ct_9_g176 _ b (fun q j hq => h q j (by omega)) (fun q j hq => hb q j (by omega))]
  all_goals rfl
set_option maxRecDepth 100000 in
theorem ct_9_s174 (a : zA) (b : zB) : zr zM zprm 37 31 (157, [.ref 35, .retAddr 0, .retAddr 0, .retAddr 0, .retAddr 0, .int 84], [.ref 132, .int 84, .ref 40], zs_106, a, b) = zr zM zprm 37 31 (137, [.ref 35, .retAddr 0, .retAddr 0, .retAddr 0, .retAddr 0, .int 85], [], zs_182, a, b) := (zr_run (mi := zm_37) rfl 400 _).trans rfl
set_option maxRecDepth 100000 in
theorem ct_9_g174 (a : zA) (b : zB) (h : ∀ q j, 133 ≤ q → a q j = 0) (hb : ∀ q j, 133 ≤ q → b q j = 0) : zr zM zprm 37 31 (157, [.ref 35, .retAddr 0, .retAddr 0, .retAddr 0, .retAddr 0, .int 84], [.ref 132, .int 84, .ref 40], zs_106, a, b) = some (none, zs_17, a, b, 38, 0, 76) := by
  refine (ct_9_s174 a b).trans ?_
  rw [ct_9_g175 a b (fun q j hq => h q j (by omega)) (fun q j hq => hb q j (by omega))]
  all_goals rfl
set_option maxRecDepth 100000 in
theorem ct_9_s173 (a : zA) (b : zB) : zr zM zprm 37 31 (137, [.ref 35, .retAddr 0, .retAddr 0, .retAddr 0, .retAddr 0, .int 84], [], zs_183, a, b) = zCNT 2 (zCA zM (zr zM zprm) 26 [.ref 132] zs_106 (zzA a 132) (zzB b 132) (fun sh a b => zr zM zprm 37 31 (157, [.ref 35, .retAddr 0, .retAddr 0, .retAddr 0, .retAddr 0, .int 84], [.ref 132, .int 84, .ref 40], sh, a, b))) := (zr_run (mi := zm_37) rfl 400 _).trans rfl
set_option maxRecDepth 100000 in
theorem ct_9_g173 (a : zA) (b : zB) (h : ∀ q j, 132 ≤ q → a q j = 0) (hb : ∀ q j, 132 ≤ q → b q j = 0) : zr zM zprm 37 31 (137, [.ref 35, .retAddr 0, .retAddr 0, .retAddr 0, .retAddr 0, .int 84], [], zs_183, a, b) = some (none, zs_17, a, b, 39, 0, 78) := by
  refine (ct_9_s173 a b).trans ?_
  rw [zzA_z h 132 (by decide), zzB_z hb 132 (by decide)]
  have h1 : ∀ q j, 132 ≤ q → a q j = 0 := fun q j hq => h q j (by omega)
  have hb1 : ∀ q j, 132 ≤ q → b q j = 0 := fun q j hq => hb q j (by omega)
  rw [zCA_ok (ct_98 a b h1 hb1) rfl, ct_9_g174 _ b (fun q j hq => h q j (by omega)) (fun q j hq => hb q j (by omega))]
  all_goals rfl
set_option maxRecDepth 100000 in
theorem ct_9_s172 (a : zA) (b : zB) : zr zM zprm 37 31 (157, [.ref 35, .retAddr 0, .retAddr 0, .retAddr 0, .retAddr 0, .int 83], [.ref 131, .int 83, .ref 40], zs_105, a, b) = zr zM zprm 37 31 (137, [.ref 35, .retAddr 0, .retAddr 0, .retAddr 0, .retAddr 0, .int 84], [], zs_183, a, b) := (zr_run (mi := zm_37) rfl 400 _).trans rfl
set_option maxRecDepth 100000 in
theorem ct_9_g172 (a : zA) (b : zB) (h : ∀ q j, 132 ≤ q → a q j = 0) (hb : ∀ q j, 132 ≤ q → b q j = 0) : zr zM zprm 37 31 (157, [.ref 35, .retAddr 0, .retAddr 0, .retAddr 0, .retAddr 0, .int 83], [.ref 131, .int 83, .ref 40], zs_105, a, b) = some (none, zs_17, a, b, 39, 0, 78) := by
  refine (ct_9_s172 a b).trans ?_
  rw [ct_9_g173 a b (fun q j hq => h q j (by omega)) (fun q j hq => hb q j (by omega))]
  all_goals rfl
set_option maxRecDepth 100000 in
theorem ct_9_s171 (a : zA) (b : zB) : zr zM zprm 37 31 (137, [.ref 35, .retAddr 0, .retAddr 0, .retAddr 0, .retAddr 0, .int 83], [], zs_184, a, b) = zCNT 2 (zCA zM (zr zM zprm) 26 [.ref 131] zs_105 (zzA a 131) (zzB b 131) (fun sh a b => zr zM zprm 37 31 (157, [.ref 35, .retAddr 0, .retAddr 0, .retAddr 0, .retAddr 0, .int 83], [.ref 131, .int 83, .ref 40], sh, a, b))) := (zr_run (mi := zm_37) rfl 400 _).trans rfl
set_option maxRecDepth 100000 in
theorem ct_9_g171 (a : zA) (b : zB) (h : ∀ q j, 131 ≤ q → a q j = 0) (hb : ∀ q j, 131 ≤ q → b q j = 0) : zr zM zprm 37 31 (137, [.ref 35, .retAddr 0, .retAddr 0, .retAddr 0, .retAddr 0, .int 83], [], zs_184, a, b) = some (none, zs_17, a, b, 40, 0, 80) := by
  refine (ct_9_s171 a b).trans ?_
  rw [zzA_z h 131 (by decide), zzB_z hb 131 (by decide)]
  have h1 : ∀ q j, 131 ≤ q → a q j = 0 := fun q j hq => h q j (by omega)
  have hb1 : ∀ q j, 131 ≤ q → b q j = 0 := fun q j hq => hb q j (by omega)
  rw [zCA_ok (ct_97 a b h1 hb1) rfl, ct_9_g172 _ b (fun q j hq => h q j (by omega)) (fun q j hq => hb q j (by omega))]
  all_goals rfl
set_option maxRecDepth 100000 in
theorem ct_9_s170 (a : zA) (b : zB) : zr zM zprm 37 31 (157, [.ref 35, .retAddr 0, .retAddr 0, .retAddr 0, .retAddr 0, .int 82], [.ref 130, .int 82, .ref 40], zs_104, a, b) = zr zM zprm 37 31 (137, [.ref 35, .retAddr 0, .retAddr 0, .retAddr 0, .retAddr 0, .int 83], [], zs_184, a, b) := (zr_run (mi := zm_37) rfl 400 _).trans rfl
set_option maxRecDepth 100000 in
theorem ct_9_g170 (a : zA) (b : zB) (h : ∀ q j, 131 ≤ q → a q j = 0) (hb : ∀ q j, 131 ≤ q → b q j = 0) : zr zM zprm 37 31 (157, [.ref 35, .retAddr 0, .retAddr 0, .retAddr 0, .retAddr 0, .int 82], [.ref 130, .int 82, .ref 40], zs_104, a, b) = some (none, zs_17, a, b, 40, 0, 80) := by
  refine (ct_9_s170 a b).trans ?_
  rw [ct_9_g171 a b (fun q j hq => h q j (by omega)) (fun q j hq => hb q j (by omega))]
  all_goals rfl
set_option maxRecDepth 100000 in
theorem ct_9_s169 (a : zA) (b : zB) : zr zM zprm 37 31 (137, [.ref 35, .retAddr 0, .retAddr 0, .retAddr 0, .retAddr 0, .int 82], [], zs_185, a, b) = zCNT 2 (zCA zM (zr zM zprm) 26 [.ref 130] zs_104 (zzA a 130) (zzB b 130) (fun sh a b => zr zM zprm 37 31 (157, [.ref 35, .retAddr 0, .retAddr 0, .retAddr 0, .retAddr 0, .int 82], [.ref 130, .int 82, .ref 40], sh, a, b))) := (zr_run (mi := zm_37) rfl 400 _).trans rfl
set_option maxRecDepth 100000 in
theorem ct_9_g169 (a : zA) (b : zB) (h : ∀ q j, 130 ≤ q → a q j = 0) (hb : ∀ q j, 130 ≤ q → b q j = 0) : zr zM zprm 37 31 (137, [.ref 35, .retAddr 0, .retAddr 0, .retAddr 0, .retAddr 0, .int 82], [], zs_185, a, b) = some (none, zs_17, a, b, 41, 0, 82) := by
  refine (ct_9_s169 a b).trans ?_
  rw [zzA_z h 130 (by decide), zzB_z hb 130 (by decide)]
  have h1 : ∀ q j, 130 ≤ q → a q j = 0 := fun q j hq => h q j (by omega)
  have hb1 : ∀ q j, 130 ≤ q → b q j = 0 := fun q j hq => hb q j (by omega)
  rw [zCA_ok (ct_96 a b h1 hb1) rfl, ct_9_g170 _ b (fun q j hq => h q j (by omega)) (fun q j hq => hb q j (by omega))]
  all_goals rfl
set_option maxRecDepth 100000 in
theorem ct_9_s168 (a : zA) (b : zB) : zr zM zprm 37 31 (157, [.ref 35, .retAddr 0, .retAddr 0, .retAddr 0, .retAddr 0, .int 81], [.ref 129, .int 81, .ref 40], zs_103, a, b) = zr zM zprm 37 31 (137, [.ref 35, .retAddr 0, .retAddr 0, .retAddr 0, .retAddr 0, .int 82], [], zs_185, a, b) := (zr_run (mi := zm_37) rfl 400 _).trans rfl
set_option maxRecDepth 100000 in
theorem ct_9_g168 (a : zA) (b : zB) (h : ∀ q j, 130 ≤ q → a q j = 0) (hb : ∀ q j, 130 ≤ q → b q j = 0) : zr zM zprm 37 31 (157, [.ref 35, .retAddr 0, .retAddr 0, .retAddr 0, .retAddr 0, .int 81], [.ref 129, .int 81, .ref 40], zs_103, a, b) = some (none, zs_17, a, b, 41, 0, 82) := by
  refine (ct_9_s168 a b).trans ?_
  rw [ct_9_g169 a b (fun q j hq => h q j (by omega)) (fun q j hq => hb q j (by omega))]
  all_goals rfl
set_option maxRecDepth 100000 in
theorem ct_9_s167 (a : zA) (b : zB) : zr zM zprm 37 31 (137, [.ref 35, .retAddr 0, .retAddr 0, .retAddr 0, .retAddr 0, .int 81], [], zs_186, a, b) = zCNT 2 (zCA zM (zr zM zprm) 26 [.ref 129] zs_103 (zzA a 129) (zzB b 129) (fun sh a b => zr zM zprm 37 31 (157, [.ref 35, .retAddr 0, .retAddr 0, .retAddr 0, .retAddr 0, .int 81], [.ref 129, .int 81, .ref 40], sh, a, b))) := (zr_run (mi := zm_37) rfl 400 _).trans rfl
set_option maxRecDepth 100000 in
theorem ct_9_g167 (a : zA) (b : zB) (h : ∀ q j, 129 ≤ q → a q j = 0) (hb : ∀ q j, 129 ≤ q → b q j = 0) : zr zM zprm 37 31 (137, [.ref 35, .retAddr 0, .retAddr 0, .retAddr 0, .retAddr 0, .int 81], [], zs_186, a, b) = some (none, zs_17, a, b, 42, 0, 84) := by
  refine (ct_9_s167 a b).trans ?_
  rw [zzA_z h 129 (by decide), zzB_z hb 129 (by decide)]
  have h1 : ∀ q j, 129 ≤ q → a q j = 0 := fun q j hq => h q j (by omega)
  have hb1 : ∀ q j, 129 ≤ q → b q j = 0 := fun q j hq => hb q j (by omega)
  rw [zCA_ok (ct_95 a b h1 hb1) rfl, ct_9_g168 _ b (fun q j hq => h q j (by omega)) (fun q j hq => hb q j (by omega))]
  all_goals rfl
set_option maxRecDepth 100000 in
theorem ct_9_s166 (a : zA) (b : zB) : zr zM zprm 37 31 (157, [.ref 35, .retAddr 0, .retAddr 0, .retAddr 0, .retAddr 0, .int 80], [.ref 128, .int 80, .ref 40], zs_102, a, b) = zr zM zprm 37 31 (137, [.ref 35, .retAddr 0, .retAddr 0, .retAddr 0, .retAddr 0, .int 81], [], zs_186, a, b) := (zr_run (mi := zm_37) rfl 400 _).trans rfl
set_option maxRecDepth 100000 in
theorem ct_9_g166 (a : zA) (b : zB) (h : ∀ q j, 129 ≤ q → a q j = 0) (hb : ∀ q j, 129 ≤ q → b q j = 0) : zr zM zprm 37 31 (157, [.ref 35, .retAddr 0, .retAddr 0, .retAddr 0, .retAddr 0, .int 80], [.ref 128, .int 80, .ref 40], zs_102, a, b) = some (none, zs_17, a, b, 42, 0, 84) := by
  refine (ct_9_s166 a b).trans ?_
  rw [ct_9_g167 a b (fun q j hq => h q j (by omega)) (fun q j hq => hb q j (by omega))]
  all_goals rfl
set_option maxRecDepth 100000 in
theorem ct_9_s165 (a : zA) (b : zB) : zr zM zprm 37 31 (137, [.ref 35, .retAddr 0, .retAddr 0, .retAddr 0, .retAddr 0, .int 80], [], zs_187, a, b) = zCNT 2 (zCA zM (zr zM zprm) 26 [.ref 128] zs_102 (zzA a 128) (zzB b 128) (fun sh a b => zr zM zprm 37 31 (157, [.ref 35, .retAddr 0, .retAddr 0, .retAddr 0, .retAddr 0, .int 80], [.ref 128, .int 80, .ref 40], sh, a, b))) := (zr_run (mi := zm_37) rfl 400 _).trans rfl
set_option maxRecDepth 100000 in
theorem ct_9_g165 (a : zA) (b : zB) (h : ∀ q j, 128 ≤ q → a q j = 0) (hb : ∀ q j, 128 ≤ q → b q j = 0) : zr zM zprm 37 31 (137, [.ref 35, .retAddr 0, .retAddr 0, .retAddr 0, .retAddr 0, .int 80], [], zs_187, a, b) = some (none, zs_17, a, b, 43, 0, 86) := by
  refine (ct_9_s165 a b).trans ?_
  rw [zzA_z h 128 (by decide), zzB_z hb 128 (by decide)]
  have h1 : ∀ q j, 128 ≤ q → a q j = 0 := fun q j hq => h q j (by omega)
  have hb1 : ∀ q j, 128 ≤ q → b q j = 0 := fun q j hq => hb q j (by omega)
  rw [zCA_ok (ct_94 a b h1 hb1) rfl, ct_9_g166 _ b (fun q j hq => h q j (by omega)) (fun q j hq => hb q j (by omega))]
  all_goals rfl
set_option maxRecDepth 100000 in
theorem ct_9_s164 (a : zA) (b : zB) : zr zM zprm 37 31 (157, [.ref 35, .retAddr 0, .retAddr 0, .retAddr 0, .retAddr 0, .int 79], [.ref 127, .int 79, .ref 40], zs_101, a, b) = zr zM zprm 37 31 (137, [.ref 35, .retAddr 0, .retAddr 0, .retAddr 0, .retAddr 0, .int 80], [], zs_187, a, b) := (zr_run (mi := zm_37) rfl 400 _).trans rfl
set_option maxRecDepth 100000 in
theorem ct_9_g164 (a : zA) (b : zB) (h : ∀ q j, 128 ≤ q → a q j = 0) (hb : ∀ q j, 128 ≤ q → b q j = 0) : zr zM zprm 37 31 (157, [.ref 35, .retAddr 0, .retAddr 0, .retAddr 0, .retAddr 0, .int 79], [.ref 127, .int 79, .ref 40], zs_101, a, b) = some (none, zs_17, a, b, 43, 0, 86) := by
  refine (ct_9_s164 a b).trans ?_
  rw [ct_9_g165 a b (fun q j hq => h q j (by omega)) (fun q j hq => hb q j (by omega))]
  all_goals rfl
set_option maxRecDepth 100000 in
theorem ct_9_s163 (a : zA) (b : zB) : zr zM zprm 37 31 (137, [.ref 35, .retAddr 0, .retAddr 0, .retAddr 0, .retAddr 0, .int 79], [], zs_188, a, b) = zCNT 2 (zCA zM (zr zM zprm) 26 [.ref 127] zs_101 (zzA a 127) (zzB b 127) (fun sh a b => zr zM zprm 37 31 (157, [.ref 35, .retAddr 0, .retAddr 0, .retAddr 0, .retAddr 0, .int 79], [.ref 127, .int 79, .ref 40], sh, a, b))) := (zr_run (mi := zm_37) rfl 400 _).trans rfl
set_option maxRecDepth 100000 in
theorem ct_9_g163 (a : zA) (b : zB) (h : ∀ q j, 127 ≤ q → a q j = 0) (hb : ∀ q j, 127 ≤ q → b q j = 0) : zr zM zprm 37 31 (137, [.ref 35, .retAddr 0, .retAddr 0, .retAddr 0, .retAddr 0, .int 79], [], zs_188, a, b) = some (none, zs_17, a, b, 44, 0, 88) := by
  refine (ct_9_s163 a b).trans ?_
  rw [zzA_z h 127 (by decide), zzB_z hb 127 (by decide)]
  have h1 : ∀ q j, 127 ≤ q → a q j = 0 := fun q j hq => h q j (by omega)
  have hb1 : ∀ q j, 127 ≤ q → b q j = 0 := fun q j hq => hb q j (by omega)
  rw [zCA_ok (ct_93 a b h1 hb1) rfl, ct_9_g164 _ b (fun q j hq => h q j (by omega)) (fun q j hq => hb q j (by omega))]
  all_goals rfl
set_option maxRecDepth 100000 in
theorem ct_9_s162 (a : zA) (b : zB) : zr zM zprm 37 31 (157, [.ref 35, .retAddr 0, .retAddr 0, .retAddr 0, .retAddr 0, .int 78], [.ref 126, .int 78, .ref 40], zs_100, a, b) = zr zM zprm 37 31 (137, [.ref 35, .retAddr 0, .retAddr 0, .retAddr 0, .retAddr 0, .int 79], [], zs_188, a, b) := (zr_run (mi := zm_37) rfl 400 _).trans rfl
set_option maxRecDepth 100000 in
theorem ct_9_g162 (a : zA) (b : zB) (h : ∀ q j, 127 ≤ q → a q j = 0) (hb : ∀ q j, 127 ≤ q → b q j = 0) : zr zM zprm 37 31 (157, [.ref 35, .retAddr 0, .retAddr 0, .retAddr 0, .retAddr 0, .int 78], [.ref 126, .int 78, .ref 40], zs_100, a, b) = some (none, zs_17, a, b, 44, 0, 88) := by
  refine (ct_9_s162 a b).trans ?_
  rw [ct_9_g163 a b (fun q j hq => h q j (by omega)) (fun q j hq => hb q j (by omega))]
  all_goals rfl
set_option maxRecDepth 100000 in
theorem ct_9_s161 (a : zA) (b : zB) : zr zM zprm 37 31 (137, [.ref 35, .retAddr 0, .retAddr 0, .retAddr 0, .retAddr 0, .int 78], [], zs_189, a, b) = zCNT 2 (zCA zM (zr zM zprm) 26 [.ref 126] zs_100 (zzA a 126) (zzB b 126) (fun sh a b => zr zM zprm 37 31 (157, [.ref 35, .retAddr 0, .retAddr 0, .retAddr 0, .retAddr 0, .int 78], [.ref 126, .int 78, .ref 40], sh, a, b))) := (zr_run (mi := zm_37) rfl 400 _).trans rfl
set_option maxRecDepth 100000 in
theorem ct_9_g161 (a : zA) (b : zB) (h : ∀ q j, 126 ≤ q → a q j = 0) (hb : ∀ q j, 126 ≤ q → b q j = 0) : zr zM zprm 37 31 (137, [.ref 35, .retAddr 0, .retAddr 0, .retAddr 0, .retAddr 0, .int 78], [], zs_189, a, b) = some (none, zs_17, a, b, 45, 0, 90) := by
  refine (ct_9_s161 a b).trans ?_
  rw [zzA_z h 126 (by decide), zzB_z hb 126 (by decide)]
  have h1 : ∀ q j, 126 ≤ q → a q j = 0 := fun q j hq => h q j (by omega)
  have hb1 : ∀ q j, 126 ≤ q → b q j = 0 := fun q j hq => hb q j (by omega)
  rw [zCA_ok (ct_92 a b h1 hb1) rfl, ct_9_g162 _ b (fun q j hq => h q j (by omega)) (fun q j hq => hb q j (by omega))]
  all_goals rfl
set_option maxRecDepth 100000 in
theorem ct_9_s160 (a : zA) (b : zB) : zr zM zprm 37 31 (157, [.ref 35, .retAddr 0, .retAddr 0, .retAddr 0, .retAddr 0, .int 77], [.ref 125, .int 77, .ref 40], zs_99, a, b) = zr zM zprm 37 31 (137, [.ref 35, .retAddr 0, .retAddr 0, .retAddr 0, .retAddr 0, .int 78], [], zs_189, a, b) := (zr_run (mi := zm_37) rfl 400 _).trans rfl
set_option maxRecDepth 100000 in
theorem ct_9_g160 (a : zA) (b : zB) (h : ∀ q j, 126 ≤ q → a q j = 0) (hb : ∀ q j, 126 ≤ q → b q j = 0) : zr zM zprm 37 31 (157, [.ref 35, .retAddr 0, .retAddr 0, .retAddr 0, .retAddr 0, .int 77], [.ref 125, .int 77, .ref 40], zs_99, a, b) = some (none, zs_17, a, b, 45, 0, 90) := by
  refine (ct_9_s160 a b).trans ?_
  rw [ct_9_g161 a b (fun q j hq => h q j (by omega)) (fun q j hq => hb q j (by omega))]
  all_goals rfl
set_option maxRecDepth 100000 in
theorem ct_9_s159 (a : zA) (b : zB) : zr zM zprm 37 31 (137, [.ref 35, .retAddr 0, .retAddr 0, .retAddr 0, .retAddr 0, .int 77], [], zs_190, a, b) = zCNT 2 (zCA zM (zr zM zprm) 26 [.ref 125] zs_99 (zzA a 125) (zzB b 125) (fun sh a b => zr zM zprm 37 31 (157, [.ref 35, .retAddr 0, .retAddr 0, .retAddr 0, .retAddr 0, .int 77], [.ref 125, .int 77, .ref 40], sh, a, b))) := (zr_run (mi := zm_37) rfl 400 _).trans rfl
set_option maxRecDepth 100000 in
theorem ct_9_g159 (a : zA) (b : zB) (h : ∀ q j, 125 ≤ q → a q j = 0) (hb : ∀ q j, 125 ≤ q → b q j = 0) : zr zM zprm 37 31 (137, [.ref 35, .retAddr 0, .retAddr 0, .retAddr 0, .retAddr 0, .int 77], [], zs_190, a, b) = some (none, zs_17, a, b, 46, 0, 92) := by
  refine (ct_9_s159 a b).trans ?_
  rw [zzA_z h 125 (by decide), zzB_z hb 125 (by decide)]
  have h1 : ∀ q j, 125 ≤ q → a q j = 0 := fun q j hq => h q j (by omega)
  have hb1 : ∀ q j, 125 ≤ q → b q j = 0 := fun q j hq => hb q j (by omega)
  rw [zCA_ok (ct_91 a b h1 hb1) rfl, ct_9_g160 _ b (fun q j hq => h q j (by omega)) (fun q j hq => hb q j (by omega))]
  all_goals rfl
set_option maxRecDepth 100000 in
theorem ct_9_s158 (a : zA) (b : zB) : zr zM zprm 37 31 (157, [.ref 35, .retAddr 0, .retAddr 0, .retAddr 0, .retAddr 0, .int 76], [.ref 124, .int 76, .ref 40], zs_98, a, b) = zr zM zprm 37 31 (137, [.ref 35, .retAddr 0, .retAddr 0, .retAddr 0, .retAddr 0, .int 77], [], zs_190, a, b) := (zr_run (mi := zm_37) rfl 400 _).trans rfl
set_option maxRecDepth 100000 in
theorem ct_9_g158 (a : zA) (b : zB) (h : ∀ q j, 125 ≤ q → a q j = 0) (hb : ∀ q j, 125 ≤ q → b q j = 0) : zr zM zprm 37 31 (157, [.ref 35, .retAddr 0, .retAddr 0, .retAddr 0, .retAddr 0, .int 76], [.ref 124, .int 76, .ref 40], zs_98, a, b) = some (none, zs_17, a, b, 46, 0, 92) := by
  refine (ct_9_s158 a b).trans ?_
  rw [ct_9_g159 a b (fun q j hq => h q j (by omega)) (fun q j hq => hb q j (by omega))]
  all_goals rfl
set_option maxRecDepth 100000 in
theorem ct_9_s157 (a : zA) (b : zB) : zr zM zprm 37 31 (137, [.ref 35, .retAddr 0, .retAddr 0, .retAddr 0, .retAddr 0, .int 76], [], zs_191, a, b) = zCNT 2 (zCA zM (zr zM zprm) 26 [.ref 124] zs_98 (zzA a 124) (zzB b 124) (fun sh a b => zr zM zprm 37 31 (157, [.ref 35, .retAddr 0, .retAddr 0, .retAddr 0, .retAddr 0, .int 76], [.ref 124, .int 76, .ref 40], sh, a, b))) := (zr_run (mi := zm_37) rfl 400 _).trans rfl
set_option maxRecDepth 100000 in
theorem ct_9_g157 (a : zA) (b : zB) (h : ∀ q j, 124 ≤ q → a q j = 0) (hb : ∀ q j, 124 ≤ q → b q j = 0) : zr zM zprm 37 31 (137, [.ref 35, .retAddr 0, .retAddr 0, .retAddr 0, .retAddr 0, .int 76], [], zs_191, a, b) = some (none, zs_17, a, b, 47, 0, 94) := by
  refine (ct_9_s157 a b).trans ?_
  rw [zzA_z h 124 (by decide), zzB_z hb 124 (by decide)]
  have h1 : ∀ q j, 124 ≤ q → a q j = 0 := fun q j hq => h q j (by omega)
  have hb1 : ∀ q j, 124 ≤ q → b q j = 0 := fun q j hq => hb q j (by omega)
  rw [zCA_ok (ct_90 a b h1 hb1) rfl, ct_9_g158 _ b (fun q j hq => h q j (by omega)) (fun q j hq => hb q j (by omega))]
  all_goals rfl
set_option maxRecDepth 100000 in
theorem ct_9_s156 (a : zA) (b : zB) : zr zM zprm 37 31 (157, [.ref 35, .retAddr 0, .retAddr 0, .retAddr 0, .retAddr 0, .int 75], [.ref 123, .int 75, .ref 40], zs_97, a, b) = zr zM zprm 37 31 (137, [.ref 35, .retAddr 0, .retAddr 0, .retAddr 0, .retAddr 0, .int 76], [], zs_191, a, b) := (zr_run (mi := zm_37) rfl 400 _).trans rfl
set_option maxRecDepth 100000 in
theorem ct_9_g156 (a : zA) (b : zB) (h : ∀ q j, 124 ≤ q → a q j = 0) (hb : ∀ q j, 124 ≤ q → b q j = 0) : zr zM zprm 37 31 (157, [.ref 35, .retAddr 0, .retAddr 0, .retAddr 0, .retAddr 0, .int 75], [.ref 123, .int 75, .ref 40], zs_97, a, b) = some (none, zs_17, a, b, 47, 0, 94) := by
  refine (ct_9_s156 a b).trans ?_
  rw [ct_9_g157 a b (fun q j hq => h q j (by omega)) (fun q j hq => hb q j (by omega))]
  all_goals rfl
set_option maxRecDepth 100000 in
theorem ct_9_s155 (a : zA) (b : zB) : zr zM zprm 37 31 (137, [.ref 35, .retAddr 0, .retAddr 0, .retAddr 0, .retAddr 0, .int 75], [], zs_192, a, b) = zCNT 2 (zCA zM (zr zM zprm) 26 [.ref 123] zs_97 (zzA a 123) (zzB b 123) (fun sh a b => zr zM zprm 37 31 (157, [.ref 35, .retAddr 0, .retAddr 0, .retAddr 0, .retAddr 0, .int 75], [.ref 123, .int 75, .ref 40], sh, a, b))) := (zr_run (mi := zm_37) rfl 400 _).trans rfl
set_option maxRecDepth 100000 in
theorem ct_9_g155 (a : zA) (b : zB) (h : ∀ q j, 123 ≤ q → a q j = 0) (hb : ∀ q j, 123 ≤ q → b q j = 0) : zr zM zprm 37 31 (137, [.ref 35, .retAddr 0, .retAddr 0, .retAddr 0, .retAddr 0, .int 75], [], zs_192, a, b) = some (none, zs_17, a, b, 48, 0, 96) := by
  refine (ct_9_s155 a b).trans ?_
  rw [zzA_z h 123 (by decide), zzB_z hb 123 (by decide)]
  have h1 : ∀ q j, 123 ≤ q → a q j = 0 := fun q j hq => h q j (by omega)
  have hb1 : ∀ q j, 123 ≤ q → b q j = 0 := fun q j hq => hb q j (by omega)
  rw [zCA_ok (ct_89 a b h1 hb1) rfl, ct_9_g156 _ b (fun q j hq => h q j (by omega)) (fun q j hq => hb q j (by omega))]
  all_goals rfl
set_option maxRecDepth 100000 in
theorem ct_9_s154 (a : zA) (b : zB) : zr zM zprm 37 31 (157, [.ref 35, .retAddr 0, .retAddr 0, .retAddr 0, .retAddr 0, .int 74], [.ref 122, .int 74, .ref 40], zs_96, a, b) = zr zM zprm 37 31 (137, [.ref 35, .retAddr 0, .retAddr 0, .retAddr 0, .retAddr 0, .int 75], [], zs_192, a, b) := (zr_run (mi := zm_37) rfl 400 _).trans rfl
set_option maxRecDepth 100000 in
theorem ct_9_g154 (a : zA) (b : zB) (h : ∀ q j, 123 ≤ q → a q j = 0) (hb : ∀ q j, 123 ≤ q → b q j = 0) : zr zM zprm 37 31 (157, [.ref 35, .retAddr 0, .retAddr 0, .retAddr 0, .retAddr 0, .int 74], [.ref 122, .int 74, .ref 40], zs_96, a, b) = some (none, zs_17, a, b, 48, 0, 96) := by
  refine (ct_9_s154 a b).trans ?_
  rw [ct_9_g155 a b (fun q j hq => h q j (by omega)) (fun q j hq => hb q j (by omega))]
  all_goals rfl
set_option maxRecDepth 100000 in
theorem ct_9_s153 (a : zA) (b : zB) : zr zM zprm 37 31 (137, [.ref 35, .retAddr 0, .retAddr 0, .retAddr 0, .retAddr 0, .int 74], [], zs_193, a, b) = zCNT 2 (zCA zM (zr zM zprm) 26 [.ref 122] zs_96 (zzA a 122) (zzB b 122) (fun sh a b => zr zM zprm 37 31 (157, [.ref 35, .retAddr 0, .retAddr 0, .retAddr 0, .retAddr 0, .int 74], [.ref 122, .int 74, .ref 40], sh, a, b))) := (zr_run (mi := zm_37) rfl 400 _).trans rfl
set_option maxRecDepth 100000 in
theorem ct_9_g153 (a : zA) (b : zB) (h : ∀ q j, 122 ≤ q → a q j = 0) (hb : ∀ q j, 122 ≤ q → b q j = 0) : zr zM zprm 37 31 (137, [.ref 35, .retAddr 0, .retAddr 0, .retAddr 0, .retAddr 0, .int 74], [], zs_193, a, b) = some (none, zs_17, a, b, 49, 0, 98) := by
  refine (ct_9_s153 a b).trans ?_
  rw [zzA_z h 122 (by decide), zzB_z hb 122 (by decide)]
  have h1 : ∀ q j, 122 ≤ q → a q j = 0 := fun q j hq => h q j (by omega)
  have hb1 : ∀ q j, 122 ≤ q → b q j = 0 := fun q j hq => hb q j (by omega)
  rw [zCA_ok (ct_88 a b h1 hb1) rfl, ct_9_g154 _ b (fun q j hq => h q j (by omega)) (fun q j hq => hb q j (by omega))]
  all_goals rfl
set_option maxRecDepth 100000 in
theorem ct_9_s152 (a : zA) (b : zB) : zr zM zprm 37 31 (157, [.ref 35, .retAddr 0, .retAddr 0, .retAddr 0, .retAddr 0, .int 73], [.ref 121, .int 73, .ref 40], zs_95, a, b) = zr zM zprm 37 31 (137, [.ref 35, .retAddr 0, .retAddr 0, .retAddr 0, .retAddr 0, .int 74], [], zs_193, a, b) := (zr_run (mi := zm_37) rfl 400 _).trans rfl
set_option maxRecDepth 100000 in
theorem ct_9_g152 (a : zA) (b : zB) (h : ∀ q j, 122 ≤ q → a q j = 0) (hb : ∀ q j, 122 ≤ q → b q j = 0) : zr zM zprm 37 31 (157, [.ref 35, .retAddr 0, .retAddr 0, .retAddr 0, .retAddr 0, .int 73], [.ref 121, .int 73, .ref 40], zs_95, a, b) = some (none, zs_17, a, b, 49, 0, 98) := by
  refine (ct_9_s152 a b).trans ?_
  rw [ct_9_g153 a b (fun q j hq => h q j (by omega)) (fun q j hq => hb q j (by omega))]
  all_goals rfl
set_option maxRecDepth 100000 in
theorem ct_9_s151 (a : zA) (b : zB) : zr zM zprm 37 31 (137, [.ref 35, .retAddr 0, .retAddr 0, .retAddr 0, .retAddr 0, .int 73], [], zs_194, a, b) = zCNT 2 (zCA zM (zr zM zprm) 26 [.ref 121] zs_95 (zzA a 121) (zzB b 121) (fun sh a b => zr zM zprm 37 31 (157, [.ref 35, .retAddr 0, .retAddr 0, .retAddr 0, .retAddr 0, .int 73], [.ref 121, .int 73, .ref 40], sh, a, b))) := (zr_run (mi := zm_37) rfl 400 _).trans rfl
set_option maxRecDepth 100000 in
theorem ct_9_g151 (a : zA) (b : zB) (h : ∀ q j, 121 ≤ q → a q j = 0) (hb : ∀ q j, 121 ≤ q → b q j = 0) : zr zM zprm 37 31 (137, [.ref 35, .retAddr 0, .retAddr 0, .retAddr 0, .retAddr 0, .int 73], [], zs_194, a, b) = some (none, zs_17, a, b, 50, 0, 100) := by
  refine (ct_9_s151 a b).trans ?_
  rw [zzA_z h 121 (by decide), zzB_z hb 121 (by decide)]
  have h1 : ∀ q j, 121 ≤ q → a q j = 0 := fun q j hq => h q j (by omega)
  have hb1 : ∀ q j, 121 ≤ q → b q j = 0 := fun q j hq => hb q j (by omega)
  rw [zCA_ok (ct_87 a b h1 hb1) rfl, ct_9_g152 _ b (fun q j hq => h q j (by omega)) (fun q j hq => hb q j (by omega))]
  all_goals rfl
set_option maxRecDepth 100000 in
theorem ct_9_s150 (a : zA) (b : zB) : zr zM zprm 37 31 (157, [.ref 35, .retAddr 0, .retAddr 0, .retAddr 0, .retAddr 0, .int 72], [.ref 120, .int 72, .ref 40], zs_94, a, b) = zr zM zprm 37 31 (137, [.ref 35, .retAddr 0, .retAddr 0, .retAddr 0, .retAddr 0, .int 73], [], zs_194, a, b) := (zr_run (mi := zm_37) rfl 400 _).trans rfl
set_option maxRecDepth 100000 in
theorem ct_9_g150 (a : zA) (b : zB) (h : ∀ q j, 121 ≤ q → a q j = 0) (hb : ∀ q j, 121 ≤ q → b q j = 0) : zr zM zprm 37 31 (157, [.ref 35, .retAddr 0, .retAddr 0, .retAddr 0, .retAddr 0, .int 72], [.ref 120, .int 72, .ref 40], zs_94, a, b) = some (none, zs_17, a, b, 50, 0, 100) := by
  refine (ct_9_s150 a b).trans ?_
  rw [ct_9_g151 a b (fun q j hq => h q j (by omega)) (fun q j hq => hb q j (by omega))]
  all_goals rfl
set_option maxRecDepth 100000 in
theorem ct_9_s149 (a : zA) (b : zB) : zr zM zprm 37 31 (137, [.ref 35, .retAddr 0, .retAddr 0, .retAddr 0, .retAddr 0, .int 72], [], zs_195, a, b) = zCNT 2 (zCA zM (zr zM zprm) 26 [.ref 120] zs_94 (zzA a 120) (zzB b 120) (fun sh a b => zr zM zprm 37 31 (157, [.ref 35, .retAddr 0, .retAddr 0, .retAddr 0, .retAddr 0, .int 72], [.ref 120, .int 72, .ref 40], sh, a, b))) := (zr_run (mi := zm_37) rfl 400 _).trans rfl
set_option maxRecDepth 100000 in
theorem ct_9_g149 (a : zA) (b : zB) (h : ∀ q j, 120 ≤ q → a q j = 0) (hb : ∀ q j, 120 ≤ q → b q j = 0) : zr zM zprm 37 31 (137, [.ref 35, .retAddr 0, .retAddr 0, .retAddr 0, .retAddr 0, .int 72], [], zs_195, a, b) = some (none, zs_17, a, b, 51, 0, 102) := by
  refine (ct_9_s149 a b).trans ?_
  rw [zzA_z h 120 (by decide), zzB_z hb 120 (by decide)]
  have h1 : ∀ q j, 120 ≤ q → a q j = 0 := fun q j hq => h q j (by omega)
  have hb1 : ∀ q j, 120 ≤ q → b q j = 0 := fun q j hq => hb q j (by omega)
  rw [zCA_ok (ct_86 a b h1 hb1) rfl, ct_9_g150 _ b (fun q j hq => h q j (by omega)) (fun q j hq => hb q j (by omega))]
  all_goals rfl
set_option maxRecDepth 100000 in
theorem ct_9_s148 (a : zA) (b : zB) : zr zM zprm 37 31 (157, [.ref 35, .retAddr 0, .retAddr 0, .retAddr 0, .retAddr 0, .int 71], [.ref 119, .int 71, .ref 40], zs_93, a, b) = zr zM zprm 37 31 (137, [.ref 35, .retAddr 0, .retAddr 0, .retAddr 0, .retAddr 0, .int 72], [], zs_195, a, b) := (zr_run (mi := zm_37) rfl 400 _).trans rfl
set_option maxRecDepth 100000 in
theorem ct_9_g148 (a : zA) (b : zB) (h : ∀ q j, 120 ≤ q → a q j = 0) (hb : ∀ q j, 120 ≤ q → b q j = 0) : zr zM zprm 37 31 (157, [.ref 35, .retAddr 0, .retAddr 0, .retAddr 0, .retAddr 0, .int 71], [.ref 119, .int 71, .ref 40], zs_93, a, b) = some (none, zs_17, a, b, 51, 0, 102) := by
  refine (ct_9_s148 a b).trans ?_
  rw [ct_9_g149 a b (fun q j hq => h q j (by omega)) (fun q j hq => hb q j (by omega))]
  all_goals rfl
set_option maxRecDepth 100000 in
theorem ct_9_s147 (a : zA) (b : zB) : zr zM zprm 37 31 (137, [.ref 35, .retAddr 0, .retAddr 0, .retAddr 0, .retAddr 0, .int 71], [], zs_196, a, b) = zCNT 2 (zCA zM (zr zM zprm) 26 [.ref 119] zs_93 (zzA a 119) (zzB b 119) (fun sh a b => zr zM zprm 37 31 (157, [.ref 35, .retAddr 0, .retAddr 0, .retAddr 0, .retAddr 0, .int 71], [.ref 119, .int 71, .ref 40], sh, a, b))) := (zr_run (mi := zm_37) rfl 400 _).trans rfl
set_option maxRecDepth 100000 in
theorem ct_9_g147 (a : zA) (b : zB) (h : ∀ q j, 119 ≤ q → a q j = 0) (hb : ∀ q j, 119 ≤ q → b q j = 0) : zr zM zprm 37 31 (137, [.ref 35, .retAddr 0, .retAddr 0, .retAddr 0, .retAddr 0, .int 71], [], zs_196, a, b) = some (none, zs_17, a, b, 52, 0, 104) := by
  refine (ct_9_s147 a b).trans ?_
  rw [zzA_z h 119 (by decide), zzB_z hb 119 (by decide)]
  have h1 : ∀ q j, 119 ≤ q → a q j = 0 := fun q j hq => h q j (by omega)
  have hb1 : ∀ q j, 119 ≤ q → b q j = 0 := fun q j hq => hb q j (by omega)
  rw [zCA_ok (ct_85 a b h1 hb1) rfl, ct_9_g148 _ b (fun q j hq => h q j (by omega)) (fun q j hq => hb q j (by omega))]
  all_goals rfl
set_option maxRecDepth 100000 in
theorem ct_9_s146 (a : zA) (b : zB) : zr zM zprm 37 31 (157, [.ref 35, .retAddr 0, .retAddr 0, .retAddr 0, .retAddr 0, .int 70], [.ref 118, .int 70, .ref 40], zs_92, a, b) = zr zM zprm 37 31 (137, [.ref 35, .retAddr 0, .retAddr 0, .retAddr 0, .retAddr 0, .int 71], [], zs_196, a, b) := (zr_run (mi := zm_37) rfl 400 _).trans rfl
set_option maxRecDepth 100000 in
theorem ct_9_g146 (a : zA) (b : zB) (h : ∀ q j, 119 ≤ q → a q j = 0) (hb : ∀ q j, 119 ≤ q → b q j = 0) : zr zM zprm 37 31 (157, [.ref 35, .retAddr 0, .retAddr 0, .retAddr 0, .retAddr 0, .int 70], [.ref 118, .int 70, .ref 40], zs_92, a, b) = some (none, zs_17, a, b, 52, 0, 104) := by
  refine (ct_9_s146 a b).trans ?_
  rw [ct_9_g147 a b (fun q j hq => h q j (by omega)) (fun q j hq => hb q j (by omega))]
  all_goals rfl
set_option maxRecDepth 100000 in
theorem ct_9_s145 (a : zA) (b : zB) : zr zM zprm 37 31 (137, [.ref 35, .retAddr 0, .retAddr 0, .retAddr 0, .retAddr 0, .int 70], [], zs_197, a, b) = zCNT 2 (zCA zM (zr zM zprm) 26 [.ref 118] zs_92 (zzA a 118) (zzB b 118) (fun sh a b => zr zM zprm 37 31 (157, [.ref 35, .retAddr 0, .retAddr 0, .retAddr 0, .retAddr 0, .int 70], [.ref 118, .int 70, .ref 40], sh, a, b))) := (zr_run (mi := zm_37) rfl 400 _).trans rfl
set_option maxRecDepth 100000 in
theorem ct_9_g145 (a : zA) (b : zB) (h : ∀ q j, 118 ≤ q → a q j = 0) (hb : ∀ q j, 118 ≤ q → b q j = 0) : zr zM zprm 37 31 (137, [.ref 35, .retAddr 0, .retAddr 0, .retAddr 0, .retAddr 0, .int 70], [], zs_197, a, b) = some (none, zs_17, a, b, 53, 0, 106) := by
  refine (ct_9_s145 a b).trans ?_
  rw [zzA_z h 118 (by decide), zzB_z hb 118 (by decide)]
  have h1 : ∀ q j, 118 ≤ q → a q j = 0 := fun q j hq => h q j (by omega)
  have hb1 : ∀ q j, 118 ≤ q → b q j = 0 := fun q j hq => hb q j (by omega)
  rw [zCA_ok (ct_84 a b h1 hb1) rfl, ct_9_g146 _ b (fun q j hq => h q j (by omega)) (fun q j hq => hb q j (by omega))]
  all_goals rfl
set_option maxRecDepth 100000 in
theorem ct_9_s144 (a : zA) (b : zB) : zr zM zprm 37 31 (157, [.ref 35, .retAddr 0, .retAddr 0, .retAddr 0, .retAddr 0, .int 69], [.ref 117, .int 69, .ref 40], zs_91, a, b) = zr zM zprm 37 31 (137, [.ref 35, .retAddr 0, .retAddr 0, .retAddr 0, .retAddr 0, .int 70], [], zs_197, a, b) := (zr_run (mi := zm_37) rfl 400 _).trans rfl
set_option maxRecDepth 100000 in
theorem ct_9_g144 (a : zA) (b : zB) (h : ∀ q j, 118 ≤ q → a q j = 0) (hb : ∀ q j, 118 ≤ q → b q j = 0) : zr zM zprm 37 31 (157, [.ref 35, .retAddr 0, .retAddr 0, .retAddr 0, .retAddr 0, .int 69], [.ref 117, .int 69, .ref 40], zs_91, a, b) = some (none, zs_17, a, b, 53, 0, 106) := by
  refine (ct_9_s144 a b).trans ?_
  rw [ct_9_g145 a b (fun q j hq => h q j (by omega)) (fun q j hq => hb q j (by omega))]
  all_goals rfl
set_option maxRecDepth 100000 in
theorem ct_9_s143 (a : zA) (b : zB) : zr zM zprm 37 31 (137, [.ref 35, .retAddr 0, .retAddr 0, .retAddr 0, .retAddr 0, .int 69], [], zs_198, a, b) = zCNT 2 (zCA zM (zr zM zprm) 26 [.ref 117] zs_91 (zzA a 117) (zzB b 117) (fun sh a b => zr zM zprm 37 31 (157, [.ref 35, .retAddr 0, .retAddr 0, .retAddr 0, .retAddr 0, .int 69], [.ref 117, .int 69, .ref 40], sh, a, b))) := (zr_run (mi := zm_37) rfl 400 _).trans rfl
set_option maxRecDepth 100000 in
theorem ct_9_g143 (a : zA) (b : zB) (h : ∀ q j, 117 ≤ q → a q j = 0) (hb : ∀ q j, 117 ≤ q → b q j = 0) : zr zM zprm 37 31 (137, [.ref 35, .retAddr 0, .retAddr 0, .retAddr 0, .retAddr 0, .int 69], [], zs_198, a, b) = some (none, zs_17, a, b, 54, 0, 108) := by
  refine (ct_9_s143 a b).trans ?_
  rw [zzA_z h 117 (by decide), zzB_z hb 117 (by decide)]
  have h1 : ∀ q j, 117 ≤ q → a q j = 0 := fun q j hq => h q j (by omega)
  have hb1 : ∀ q j, 117 ≤ q → b q j = 0 := fun q j hq => hb q j (by omega)
  rw [zCA_ok (ct_83 a b h1 hb1) rfl, ct_9_g144 _ b (fun q j hq => h q j (by omega)) (fun q j hq => hb q j (by omega))]
  all_goals rfl
set_option maxRecDepth 100000 in
theorem ct_9_s142 (a : zA) (b : zB) : zr zM zprm 37 31 (157, [.ref 35, .retAddr 0, .retAddr 0, .retAddr 0, .retAddr 0, .int 68], [.ref 116, .int 68, .ref 40], zs_90, a, b) = zr zM zprm 37 31 (137, [.ref 35, .retAddr 0, .retAddr 0, .retAddr 0, .retAddr 0, .int 69], [], zs_198, a, b) := (zr_run (mi := zm_37) rfl 400 _).trans rfl
set_option maxRecDepth 100000 in
theorem ct_9_g142 (a : zA) (b : zB) (h : ∀ q j, 117 ≤ q → a q j = 0) (hb : ∀ q j, 117 ≤ q → b q j = 0) : zr zM zprm 37 31 (157, [.ref 35, .retAddr 0, .retAddr 0, .retAddr 0, .retAddr 0, .int 68], [.ref 116, .int 68, .ref 40], zs_90, a, b) = some (none, zs_17, a, b, 54, 0, 108) := by
  refine (ct_9_s142 a b).trans ?_
  rw [ct_9_g143 a b (fun q j hq => h q j (by omega)) (fun q j hq => hb q j (by omega))]
  all_goals rfl
set_option maxRecDepth 100000 in
theorem ct_9_s141 (a : zA) (b : zB) : zr zM zprm 37 31 (137, [.ref 35, .retAddr 0, .retAddr 0, .retAddr 0, .retAddr 0, .int 68], [], zs_199, a, b) = zCNT 2 (zCA zM (zr zM zprm) 26 [.ref 116] zs_90 (zzA a 116) (zzB b 116) (fun sh a b => zr zM zprm 37 31 (157, [.ref 35, .retAddr 0, .retAddr 0, .retAddr 0, .retAddr 0, .int 68], [.ref 116, .int 68, .ref 40], sh, a, b))) := (zr_run (mi := zm_37) rfl 400 _).trans rfl
set_option maxRecDepth 100000 in
theorem ct_9_g141 (a : zA) (b : zB) (h : ∀ q j, 116 ≤ q → a q j = 0) (hb : ∀ q j, 116 ≤ q → b q j = 0) : zr zM zprm 37 31 (137, [.ref 35, .retAddr 0, .retAddr 0, .retAddr 0, .retAddr 0, .int 68], [], zs_199, a, b) = some (none, zs_17, a, b, 55, 0, 110) := by
  refine (ct_9_s141 a b).trans ?_
  rw [zzA_z h 116 (by decide), zzB_z hb 116 (by decide)]
  have h1 : ∀ q j, 116 ≤ q → a q j = 0 := fun q j hq => h q j (by omega)
  have hb1 : ∀ q j, 116 ≤ q → b q j = 0 := fun q j hq => hb q j (by omega)
  rw [zCA_ok (ct_82 a b h1 hb1) rfl, ct_9_g142 _ b (fun q j hq => h q j (by omega)) (fun q j hq => hb q j (by omega))]
  all_goals rfl
set_option maxRecDepth 100000 in
theorem ct_9_s140 (a : zA) (b : zB) : zr zM zprm 37 31 (157, [.ref 35, .retAddr 0, .retAddr 0, .retAddr 0, .retAddr 0, .int 67], [.ref 115, .int 67, .ref 40], zs_89, a, b) = zr zM zprm 37 31 (137, [.ref 35, .retAddr 0, .retAddr 0, .retAddr 0, .retAddr 0, .int 68], [], zs_199, a, b) := (zr_run (mi := zm_37) rfl 400 _).trans rfl
set_option maxRecDepth 100000 in
theorem ct_9_g140 (a : zA) (b : zB) (h : ∀ q j, 116 ≤ q → a q j = 0) (hb : ∀ q j, 116 ≤ q → b q j = 0) : zr zM zprm 37 31 (157, [.ref 35, .retAddr 0, .retAddr 0, .retAddr 0, .retAddr 0, .int 67], [.ref 115, .int 67, .ref 40], zs_89, a, b) = some (none, zs_17, a, b, 55, 0, 110) := by
  refine (ct_9_s140 a b).trans ?_
  rw [ct_9_g141 a b (fun q j hq => h q j (by omega)) (fun q j hq => hb q j (by omega))]
  all_goals rfl
set_option maxRecDepth 100000 in
theorem ct_9_s139 (a : zA) (b : zB) : zr zM zprm 37 31 (137, [.ref 35, .retAddr 0, .retAddr 0, .retAddr 0, .retAddr 0, .int 67], [], zs_200, a, b) = zCNT 2 (zCA zM (zr zM zprm) 26 [.ref 115] zs_89 (zzA a 115) (zzB b 115) (fun sh a b => zr zM zprm 37 31 (157, [.ref 35, .retAddr 0, .retAddr 0, .retAddr 0, .retAddr 0, .int 67], [.ref 115, .int 67, .ref 40], sh, a, b))) := (zr_run (mi := zm_37) rfl 400 _).trans rfl
set_option maxRecDepth 100000 in
theorem ct_9_g139 (a : zA) (b : zB) (h : ∀ q j, 115 ≤ q → a q j = 0) (hb : ∀ q j, 115 ≤ q → b q j = 0) : zr zM zprm 37 31 (137, [.ref 35, .retAddr 0, .retAddr 0, .retAddr 0, .retAddr 0, .int 67], [], zs_200, a, b) = some (none, zs_17, a, b, 56, 0, 112) := by
  refine (ct_9_s139 a b).trans ?_
  rw [zzA_z h 115 (by decide), zzB_z hb 115 (by decide)]
  have h1 : ∀ q j, 115 ≤ q → a q j = 0 := fun q j hq => h q j (by omega)
  have hb1 : ∀ q j, 115 ≤ q → b q j = 0 := fun q j hq => hb q j (by omega)
  rw [zCA_ok (ct_81 a b h1 hb1) rfl, ct_9_g140 _ b (fun q j hq => h q j (by omega)) (fun q j hq => hb q j (by omega))]
  all_goals rfl
set_option maxRecDepth 100000 in
theorem ct_9_s138 (a : zA) (b : zB) : zr zM zprm 37 31 (157, [.ref 35, .retAddr 0, .retAddr 0, .retAddr 0, .retAddr 0, .int 66], [.ref 114, .int 66, .ref 40], zs_88, a, b) = zr zM zprm 37 31 (137, [.ref 35, .retAddr 0, .retAddr 0, .retAddr 0, .retAddr 0, .int 67], [], zs_200, a, b) := (zr_run (mi := zm_37) rfl 400 _).trans rfl
set_option maxRecDepth 100000 in
theorem ct_9_g138 (a : zA) (b : zB) (h : ∀ q j, 115 ≤ q → a q j = 0) (hb : ∀ q j, 115 ≤ q → b q j = 0) : zr zM zprm 37 31 (157, [.ref 35, .retAddr 0, .retAddr 0, .retAddr 0, .retAddr 0, .int 66], [.ref 114, .int 66, .ref 40], zs_88, a, b) = some (none, zs_17, a, b, 56, 0, 112) := by
  refine (ct_9_s138 a b).trans ?_
  rw [ct_9_g139 a b (fun q j hq => h q j (by omega)) (fun q j hq => hb q j (by omega))]
  all_goals rfl
set_option maxRecDepth 100000 in
theorem ct_9_s137 (a : zA) (b : zB) : zr zM zprm 37 31 (137, [.ref 35, .retAddr 0, .retAddr 0, .retAddr 0, .retAddr 0, .int 66], [], zs_201, a, b) = zCNT 2 (zCA zM (zr zM zprm) 26 [.ref 114] zs_88 (zzA a 114) (zzB b 114) (fun sh a b => zr zM zprm 37 31 (157, [.ref 35, .retAddr 0, .retAddr 0, .retAddr 0, .retAddr 0, .int 66], [.ref 114, .int 66, .ref 40], sh, a, b))) := (zr_run (mi := zm_37) rfl 400 _).trans rfl
set_option maxRecDepth 100000 in
theorem ct_9_g137 (a : zA) (b : zB) (h : ∀ q j, 114 ≤ q → a q j = 0) (hb : ∀ q j, 114 ≤ q → b q j = 0) : zr zM zprm 37 31 (137, [.ref 35, .retAddr 0, .retAddr 0, .retAddr 0, .retAddr 0, .int 66], [], zs_201, a, b) = some (none, zs_17, a, b, 57, 0, 114) := by
  refine (ct_9_s137 a b).trans ?_
  rw [zzA_z h 114 (by decide), zzB_z hb 114 (by decide)]
  have h1 : ∀ q j, 114 ≤ q → a q j = 0 := fun q j hq => h q j (by omega)
  have hb1 : ∀ q j, 114 ≤ q → b q j = 0 := fun q j hq => hb q j (by omega)
  rw [zCA_ok (ct_80 a b h1 hb1) rfl, ct_9_g138 _ b (fun q j hq => h q j (by omega)) (fun q j hq => hb q j (by omega))]
  all_goals rfl
set_option maxRecDepth 100000 in
theorem ct_9_s136 (a : zA) (b : zB) : zr zM zprm 37 31 (157, [.ref 35, .retAddr 0, .retAddr 0, .retAddr 0, .retAddr 0, .int 65], [.ref 113, .int 65, .ref 40], zs_87, a, b) = zr zM zprm 37 31 (137, [.ref 35, .retAddr 0, .retAddr 0, .retAddr 0, .retAddr 0, .int 66], [], zs_201, a, b) := (zr_run (mi := zm_37) rfl 400 _).trans rfl
set_option maxRecDepth 100000 in
theorem ct_9_g136 (a : zA) (b : zB) (h : ∀ q j, 114 ≤ q → a q j = 0) (hb : ∀ q j, 114 ≤ q → b q j = 0) : zr zM zprm 37 31 (157, [.ref 35, .retAddr 0, .retAddr 0, .retAddr 0, .retAddr 0, .int 65], [.ref 113, .int 65, .ref 40], zs_87, a, b) = some (none, zs_17, a, b, 57, 0, 114) := by
  refine (ct_9_s136 a b).trans ?_
  rw [ct_9_g137 a b (fun q j hq => h q j (by omega)) (fun q j hq => hb q j (by omega))]
  all_goals rfl
set_option maxRecDepth 100000 in
theorem ct_9_s135 (a : zA) (b : zB) : zr zM zprm 37 31 (137, [.ref 35, .retAddr 0, .retAddr 0, .retAddr 0, .retAddr 0, .int 65], [], zs_202, a, b) = zCNT 2 (zCA zM (zr zM zprm) 26 [.ref 113] zs_87 (zzA a 113) (zzB b 113) (fun sh a b => zr zM zprm 37 31 (157, [.ref 35, .retAddr 0, .retAddr 0, .retAddr 0, .retAddr 0, .int 65], [.ref 113, .int 65, .ref 40], sh, a, b))) := (zr_run (mi := zm_37) rfl 400 _).trans rfl
set_option maxRecDepth 100000 in
theorem ct_9_g135 (a : zA) (b : zB) (h : ∀ q j, 113 ≤ q → a q j = 0) (hb : ∀ q j, 113 ≤ q → b q j = 0) : zr zM zprm 37 31 (137, [.ref 35, .retAddr 0, .retAddr 0, .retAddr 0, .retAddr 0, .int 65], [], zs_202, a, b) = some (none, zs_17, a, b, 58, 0, 116) := by
  refine (ct_9_s135 a b).trans ?_
  rw [zzA_z h 113 (by decide), zzB_z hb 113 (by decide)]
  have h1 : ∀ q j, 113 ≤ q → a q j = 0 := fun q j hq => h q j (by omega)
  have hb1 : ∀ q j, 113 ≤ q → b q j = 0 := fun q j hq => hb q j (by omega)
  rw [zCA_ok (ct_79 a b h1 hb1) rfl, ct_9_g136 _ b (fun q j hq => h q j (by omega)) (fun q j hq => hb q j (by omega))]
  all_goals rfl
set_option maxRecDepth 100000 in
theorem ct_9_s134 (a : zA) (b : zB) : zr zM zprm 37 31 (157, [.ref 35, .retAddr 0, .retAddr 0, .retAddr 0, .retAddr 0, .int 64], [.ref 112, .int 64, .ref 40], zs_86, a, b) = zr zM zprm 37 31 (137, [.ref 35, .retAddr 0, .retAddr 0, .retAddr 0, .retAddr 0, .int 65], [], zs_202, a, b) := (zr_run (mi := zm_37) rfl 400 _).trans rfl
set_option maxRecDepth 100000 in
theorem ct_9_g134 (a : zA) (b : zB) (h : ∀ q j, 113 ≤ q → a q j = 0) (hb : ∀ q j, 113 ≤ q → b q j = 0) : zr zM zprm 37 31 (157, [.ref 35, .retAddr 0, .retAddr 0, .retAddr 0, .retAddr 0, .int 64], [.ref 112, .int 64, .ref 40], zs_86, a, b) = some (none, zs_17, a, b, 58, 0, 116) := by
  refine (ct_9_s134 a b).trans ?_
  rw [ct_9_g135 a b (fun q j hq => h q j (by omega)) (fun q j hq => hb q j (by omega))]
  all_goals rfl
set_option maxRecDepth 100000 in
theorem ct_9_s133 (a : zA) (b : zB) : zr zM zprm 37 31 (137, [.ref 35, .retAddr 0, .retAddr 0, .retAddr 0, .retAddr 0, .int 64], [], zs_203, a, b) = zCNT 2 (zCA zM (zr zM zprm) 26 [.ref 112] zs_86 (zzA a 112) (zzB b 112) (fun sh a b => zr zM zprm 37 31 (157, [.ref 35, .retAddr 0, .retAddr 0, .retAddr 0, .retAddr 0, .int 64], [.ref 112, .int 64, .ref 40], sh, a, b))) := (zr_run (mi := zm_37) rfl 400 _).trans rfl
set_option maxRecDepth 100000 in
theorem ct_9_g133 (a : zA) (b : zB) (h : ∀ q j, 112 ≤ q → a q j = 0) (hb : ∀ q j, 112 ≤ q → b q j = 0) : zr zM zprm 37 31 (137, [.ref 35, .retAddr 0, .retAddr 0, .retAddr 0, .retAddr 0, .int 64], [], zs_203, a, b) = some (none, zs_17, a, b, 59, 0, 118) := by
  refine (ct_9_s133 a b).trans ?_
  rw [zzA_z h 112 (by decide), zzB_z hb 112 (by decide)]
  have h1 : ∀ q j, 112 ≤ q → a q j = 0 := fun q j hq => h q j (by omega)
  have hb1 : ∀ q j, 112 ≤ q → b q j = 0 := fun q j hq => hb q j (by omega)
  rw [zCA_ok (ct_78 a b h1 hb1) rfl, ct_9_g134 _ b (fun q j hq => h q j (by omega)) (fun q j hq => hb q j (by omega))]
  all_goals rfl
set_option maxRecDepth 100000 in
theorem ct_9_s132 (a : zA) (b : zB) : zr zM zprm 37 31 (157, [.ref 35, .retAddr 0, .retAddr 0, .retAddr 0, .retAddr 0, .int 63], [.ref 111, .int 63, .ref 40], zs_85, a, b) = zr zM zprm 37 31 (137, [.ref 35, .retAddr 0, .retAddr 0, .retAddr 0, .retAddr 0, .int 64], [], zs_203, a, b) := (zr_run (mi := zm_37) rfl 400 _).trans rfl
set_option maxRecDepth 100000 in
theorem ct_9_g132 (a : zA) (b : zB) (h : ∀ q j, 112 ≤ q → a q j = 0) (hb : ∀ q j, 112 ≤ q → b q j = 0) : zr zM zprm 37 31 (157, [.ref 35, .retAddr 0, .retAddr 0, .retAddr 0, .retAddr 0, .int 63], [.ref 111, .int 63, .ref 40], zs_85, a, b) = some (none, zs_17, a, b, 59, 0, 118) := by
  refine (ct_9_s132 a b).trans ?_
  rw [ct_9_g133 a b (fun q j hq => h q j (by omega)) (fun q j hq => hb q j (by omega))]
  all_goals rfl
set_option maxRecDepth 100000 in
theorem ct_9_s131 (a : zA) (b : zB) : zr zM zprm 37 31 (137, [.ref 35, .retAddr 0, .retAddr 0, .retAddr 0, .retAddr 0, .int 63], [], zs_204, a, b) = zCNT 2 (zCA zM (zr zM zprm) 26 [.ref 111] zs_85 (zzA a 111) (zzB b 111) (fun sh a b => zr zM zprm 37 31 (157, [.ref 35, .retAddr 0, .retAddr 0, .retAddr 0, .retAddr 0, .int 63], [.ref 111, .int 63, .ref 40], sh, a, b))) := (zr_run (mi := zm_37) rfl 400 _).trans rfl
set_option maxRecDepth 100000 in
theorem ct_9_g131 (a : zA) (b : zB) (h : ∀ q j, 111 ≤ q → a q j = 0) (hb : ∀ q j, 111 ≤ q → b q j = 0) : zr zM zprm 37 31 (137, [.ref 35, .retAddr 0, .retAddr 0, .retAddr 0, .retAddr 0, .int 63], [], zs_204, a, b) = some (none, zs_17, a, b, 60, 0, 120) := by
  refine (ct_9_s131 a b).trans ?_
  rw [zzA_z h 111 (by decide), zzB_z hb 111 (by decide)]
  have h1 : ∀ q j, 111 ≤ q → a q j = 0 := fun q j hq => h q j (by omega)
  have hb1 : ∀ q j, 111 ≤ q → b q j = 0 := fun q j hq => hb q j (by omega)
  rw [zCA_ok (ct_77 a b h1 hb1) rfl, ct_9_g132 _ b (fun q j hq => h q j (by omega)) (fun q j hq => hb q j (by omega))]
  all_goals rfl
set_option maxRecDepth 100000 in
theorem ct_9_s130 (a : zA) (b : zB) : zr zM zprm 37 31 (157, [.ref 35, .retAddr 0, .retAddr 0, .retAddr 0, .retAddr 0, .int 62], [.ref 110, .int 62, .ref 40], zs_84, a, b) = zr zM zprm 37 31 (137, [.ref 35, .retAddr 0, .retAddr 0, .retAddr 0, .retAddr 0, .int 63], [], zs_204, a, b) := (zr_run (mi := zm_37) rfl 400 _).trans rfl
set_option maxRecDepth 100000 in
theorem ct_9_g130 (a : zA) (b : zB) (h : ∀ q j, 111 ≤ q → a q j = 0) (hb : ∀ q j, 111 ≤ q → b q j = 0) : zr zM zprm 37 31 (157, [.ref 35, .retAddr 0, .retAddr 0, .retAddr 0, .retAddr 0, .int 62], [.ref 110, .int 62, .ref 40], zs_84, a, b) = some (none, zs_17, a, b, 60, 0, 120) := by
  refine (ct_9_s130 a b).trans ?_
  rw [ct_9_g131 a b (fun q j hq => h q j (by omega)) (fun q j hq => hb q j (by omega))]
  all_goals rfl
set_option maxRecDepth 100000 in
theorem ct_9_s129 (a : zA) (b : zB) : zr zM zprm 37 31 (137, [.ref 35, .retAddr 0, .retAddr 0, .retAddr 0, .retAddr 0, .int 62], [], zs_205, a, b) = zCNT 2 (zCA zM (zr zM zprm) 26 [.ref 110] zs_84 (zzA a 110) (zzB b 110) (fun sh a b => zr zM zprm 37 31 (157, [.ref 35, .retAddr 0, .retAddr 0, .retAddr 0, .retAddr 0, .int 62], [.ref 110, .int 62, .ref 40], sh, a, b))) := (zr_run (mi := zm_37) rfl 400 _).trans rfl
set_option maxRecDepth 100000 in
theorem ct_9_g129 (a : zA) (b : zB) (h : ∀ q j, 110 ≤ q → a q j = 0) (hb : ∀ q j, 110 ≤ q → b q j = 0) : zr zM zprm 37 31 (137, [.ref 35, .retAddr 0, .retAddr 0, .retAddr 0, .retAddr 0, .int 62], [], zs_205, a, b) = some (none, zs_17, a, b, 61, 0, 122) := by
  refine (ct_9_s129 a b).trans ?_
  rw [zzA_z h 110 (by decide), zzB_z hb 110 (by decide)]
  have h1 : ∀ q j, 110 ≤ q → a q j = 0 := fun q j hq => h q j (by omega)
  have hb1 : ∀ q j, 110 ≤ q → b q j = 0 := fun q j hq => hb q j (by omega)
  rw [zCA_ok (ct_76 a b h1 hb1) rfl, ct_9_g130 _ b (fun q j hq => h q j (by omega)) (fun q j hq => hb q j (by omega))]
  all_goals rfl
set_option maxRecDepth 100000 in
theorem ct_9_s128 (a : zA) (b : zB) : zr zM zprm 37 31 (157, [.ref 35, .retAddr 0, .retAddr 0, .retAddr 0, .retAddr 0, .int 61], [.ref 109, .int 61, .ref 40], zs_83, a, b) = zr zM zprm 37 31 (137, [.ref 35, .retAddr 0, .retAddr 0, .retAddr 0, .retAddr 0, .int 62], [], zs_205, a, b) := (zr_run (mi := zm_37) rfl 400 _).trans rfl
set_option maxRecDepth 100000 in
theorem ct_9_g128 (a : zA) (b : zB) (h : ∀ q j, 110 ≤ q → a q j = 0) (hb : ∀ q j, 110 ≤ q → b q j = 0) : zr zM zprm 37 31 (157, [.ref 35, .retAddr 0, .retAddr 0, .retAddr 0, .retAddr 0, .int 61], [.ref 109, .int 61, .ref 40], zs_83, a, b) = some (none, zs_17, a, b, 61, 0, 122) := by
  refine (ct_9_s128 a b).trans ?_
  rw [ct_9_g129 a b (fun q j hq => h q j (by omega)) (fun q j hq => hb q j (by omega))]
  all_goals rfl
set_option maxRecDepth 100000 in
theorem ct_9_s127 (a : zA) (b : zB) : zr zM zprm 37 31 (137, [.ref 35, .retAddr 0, .retAddr 0, .retAddr 0, .retAddr 0, .int 61], [], zs_206, a, b) = zCNT 2 (zCA zM (zr zM zprm) 26 [.ref 109] zs_83 (zzA a 109) (zzB b 109) (fun sh a b => zr zM zprm 37 31 (157, [.ref 35, .retAddr 0, .retAddr 0, .retAddr 0, .retAddr 0, .int 61], [.ref 109, .int 61, .ref 40], sh, a, b))) := (zr_run (mi := zm_37) rfl 400 _).trans rfl
set_option maxRecDepth 100000 in
theorem ct_9_g127 (a : zA) (b : zB) (h : ∀ q j, 109 ≤ q → a q j = 0) (hb : ∀ q j, 109 ≤ q → b q j = 0) : zr zM zprm 37 31 (137, [.ref 35, .retAddr 0, .retAddr 0, .retAddr 0, .retAddr 0, .int 61], [], zs_206, a, b) = some (none, zs_17, a, b, 62, 0, 124) := by
  refine (ct_9_s127 a b).trans ?_
  rw [zzA_z h 109 (by decide), zzB_z hb 109 (by decide)]
  have h1 : ∀ q j, 109 ≤ q → a q j = 0 := fun q j hq => h q j (by omega)
  have hb1 : ∀ q j, 109 ≤ q → b q j = 0 := fun q j hq => hb q j (by omega)
  rw [zCA_ok (ct_75 a b h1 hb1) rfl, ct_9_g128 _ b (fun q j hq => h q j (by omega)) (fun q j hq => hb q j (by omega))]
  all_goals rfl
set_option maxRecDepth 100000 in
theorem ct_9_s126 (a : zA) (b : zB) : zr zM zprm 37 31 (157, [.ref 35, .retAddr 0, .retAddr 0, .retAddr 0, .retAddr 0, .int 60], [.ref 108, .int 60, .ref 40], zs_82, a, b) = zr zM zprm 37 31 (137, [.ref 35, .retAddr 0, .retAddr 0, .retAddr 0, .retAddr 0, .int 61], [], zs_206, a, b) := (zr_run (mi := zm_37) rfl 400 _).trans rfl
set_option maxRecDepth 100000 in
theorem ct_9_g126 (a : zA) (b : zB) (h : ∀ q j, 109 ≤ q → a q j = 0) (hb : ∀ q j, 109 ≤ q → b q j = 0) : zr zM zprm 37 31 (157, [.ref 35, .retAddr 0, .retAddr 0, .retAddr 0, .retAddr 0, .int 60], [.ref 108, .int 60, .ref 40], zs_82, a, b) = some (none, zs_17, a, b, 62, 0, 124) := by
  refine (ct_9_s126 a b).trans ?_
  rw [ct_9_g127 a b (fun q j hq => h q j (by omega)) (fun q j hq => hb q j (by omega))]
  all_goals rfl
set_option maxRecDepth 100000 in
theorem ct_9_s125 (a : zA) (b : zB) : zr zM zprm 37 31 (137, [.ref 35, .retAddr 0, .retAddr 0, .retAddr 0, .retAddr 0, .int 60], [], zs_207, a, b) = zCNT 2 (zCA zM (zr zM zprm) 26 [.ref 108] zs_82 (zzA a 108) (zzB b 108) (fun sh a b => zr zM zprm 37 31 (157, [.ref 35, .retAddr 0, .retAddr 0, .retAddr 0, .retAddr 0, .int 60], [.ref 108, .int 60, .ref 40], sh, a, b))) := (zr_run (mi := zm_37) rfl 400 _).trans rfl
set_option maxRecDepth 100000 in
theorem ct_9_g125 (a : zA) (b : zB) (h : ∀ q j, 108 ≤ q → a q j = 0) (hb : ∀ q j, 108 ≤ q → b q j = 0) : zr zM zprm 37 31 (137, [.ref 35, .retAddr 0, .retAddr 0, .retAddr 0, .retAddr 0, .int 60], [], zs_207, a, b) = some (none, zs_17, a, b, 63, 0, 126) := by
  refine (ct_9_s125 a b).trans ?_
  rw [zzA_z h 108 (by decide), zzB_z hb 108 (by decide)]
  have h1 : ∀ q j, 108 ≤ q → a q j = 0 := fun q j hq => h q j (by omega)
  have hb1 : ∀ q j, 108 ≤ q → b q j = 0 := fun q j hq => hb q j (by omega)
  rw [zCA_ok (ct_74 a b h1 hb1) rfl, ct_9_g126 _ b (fun q j hq => h q j (by omega)) (fun q j hq => hb q j (by omega))]
  all_goals rfl
set_option maxRecDepth 100000 in
theorem ct_9_s124 (a : zA) (b : zB) : zr zM zprm 37 31 (157, [.ref 35, .retAddr 0, .retAddr 0, .retAddr 0, .retAddr 0, .int 59], [.ref 107, .int 59, .ref 40], zs_81, a, b) = zr zM zprm 37 31 (137, [.ref 35, .retAddr 0, .retAddr 0, .retAddr 0, .retAddr 0, .int 60], [], zs_207, a, b) := (zr_run (mi := zm_37) rfl 400 _).trans rfl
set_option maxRecDepth 100000 in
theorem ct_9_g124 (a : zA) (b : zB) (h : ∀ q j, 108 ≤ q → a q j = 0) (hb : ∀ q j, 108 ≤ q → b q j = 0) : zr zM zprm 37 31 (157, [.ref 35, .retAddr 0, .retAddr 0, .retAddr 0, .retAddr 0, .int 59], [.ref 107, .int 59, .ref 40], zs_81, a, b) = some (none, zs_17, a, b, 63, 0, 126) := by
  refine (ct_9_s124 a b).trans ?_
  rw [ct_9_g125 a b (fun q j hq => h q j (by omega)) (fun q j hq => hb q j (by omega))]
  all_goals rfl
set_option maxRecDepth 100000 in
theorem ct_9_s123 (a : zA) (b : zB) : zr zM zprm 37 31 (137, [.ref 35, .retAddr 0, .retAddr 0, .retAddr 0, .retAddr 0, .int 59], [], zs_208, a, b) = zCNT 2 (zCA zM (zr zM zprm) 26 [.ref 107] zs_81 (zzA a 107) (zzB b 107) (fun sh a b => zr zM zprm 37 31 (157, [.ref 35, .retAddr 0, .retAddr 0, .retAddr 0, .retAddr 0, .int 59], [.ref 107, .int 59, .ref 40], sh, a, b))) := (zr_run (mi := zm_37) rfl 400 _).trans rfl
set_option maxRecDepth 100000 in
theorem ct_9_g123 (a : zA) (b : zB) (h : ∀ q j, 107 ≤ q → a q j = 0) (hb : ∀ q j, 107 ≤ q → b q j = 0) : zr zM zprm 37 31 (137, [.ref 35, .retAddr 0, .retAddr 0, .retAddr 0, .retAddr 0, .int 59], [], zs_208, a, b) = some (none, zs_17, a, b, 64, 0, 128) := by
  refine (ct_9_s123 a b).trans ?_
  rw [zzA_z h 107 (by decide), zzB_z hb 107 (by decide)]
  have h1 : ∀ q j, 107 ≤ q → a q j = 0 := fun q j hq => h q j (by omega)
  have hb1 : ∀ q j, 107 ≤ q → b q j = 0 := fun q j hq => hb q j (by omega)
  rw [zCA_ok (ct_73 a b h1 hb1) rfl, ct_9_g124 _ b (fun q j hq => h q j (by omega)) (fun q j hq => hb q j (by omega))]
  all_goals rfl
set_option maxRecDepth 100000 in
theorem ct_9_s122 (a : zA) (b : zB) : zr zM zprm 37 31 (157, [.ref 35, .retAddr 0, .retAddr 0, .retAddr 0, .retAddr 0, .int 58], [.ref 106, .int 58, .ref 40], zs_80, a, b) = zr zM zprm 37 31 (137, [.ref 35, .retAddr 0, .retAddr 0, .retAddr 0, .retAddr 0, .int 59], [], zs_208, a, b) := (zr_run (mi := zm_37) rfl 400 _).trans rfl
set_option maxRecDepth 100000 in
theorem ct_9_g122 (a : zA) (b : zB) (h : ∀ q j, 107 ≤ q → a q j = 0) (hb : ∀ q j, 107 ≤ q → b q j = 0) : zr zM zprm 37 31 (157, [.ref 35, .retAddr 0, .retAddr 0, .retAddr 0, .retAddr 0, .int 58], [.ref 106, .int 58, .ref 40], zs_80, a, b) = some (none, zs_17, a, b, 64, 0, 128) := by
  refine (ct_9_s122 a b).trans ?_
  rw [ct_9_g123 a b (fun q j hq => h q j (by omega)) (fun q j hq => hb q j (by omega))]
  all_goals rfl
set_option maxRecDepth 100000 in
theorem ct_9_s121 (a : zA) (b : zB) : zr zM zprm 37 31 (137, [.ref 35, .retAddr 0, .retAddr 0, .retAddr 0, .retAddr 0, .int 58], [], zs_209, a, b) = zCNT 2 (zCA zM (zr zM zprm) 26 [.ref 106] zs_80 (zzA a 106) (zzB b 106) (fun sh a b => zr zM zprm 37 31 (157, [.ref 35, .retAddr 0, .retAddr 0, .retAddr 0, .retAddr 0, .int 58], [.ref 106, .int 58, .ref 40], sh, a, b))) := (zr_run (mi := zm_37) rfl 400 _).trans rfl
set_option maxRecDepth 100000 in
theorem ct_9_g121 (a : zA) (b : zB) (h : ∀ q j, 106 ≤ q → a q j = 0) (hb : ∀ q j, 106 ≤ q → b q j = 0) : zr zM zprm 37 31 (137, [.ref 35, .retAddr 0, .retAddr 0, .retAddr 0, .retAddr 0, .int 58], [], zs_209, a, b) = some (none, zs_17, a, b, 65, 0, 130) := by
  refine (ct_9_s121 a b).trans ?_
  rw [zzA_z h 106 (by decide), zzB_z hb 106 (by decide)]
  have h1 : ∀ q j, 106 ≤ q → a q j = 0 := fun q j hq => h q j (by omega)
  have hb1 : ∀ q j, 106 ≤ q → b q j = 0 := fun q j hq => hb q j (by omega)
  rw [zCA_ok (ct_72 a b h1 hb1) rfl, ct_9_g122 _ b (fun q j hq => h q j (by omega)) (fun q j hq => hb q j (by omega))]
  all_goals rfl
set_option maxRecDepth 100000 in
theorem ct_9_s120 (a : zA) (b : zB) : zr zM zprm 37 31 (157, [.ref 35, .retAddr 0, .retAddr 0, .retAddr 0, .retAddr 0, .int 57], [.ref 105, .int 57, .ref 40], zs_79, a, b) = zr zM zprm 37 31 (137, [.ref 35, .retAddr 0, .retAddr 0, .retAddr 0, .retAddr 0, .int 58], [], zs_209, a, b) := (zr_run (mi := zm_37) rfl 400 _).trans rfl
set_option maxRecDepth 100000 in
theorem ct_9_g120 (a : zA) (b : zB) (h : ∀ q j, 106 ≤ q → a q j = 0) (hb : ∀ q j, 106 ≤ q → b q j = 0) : zr zM zprm 37 31 (157, [.ref 35, .retAddr 0, .retAddr 0, .retAddr 0, .retAddr 0, .int 57], [.ref 105, .int 57, .ref 40], zs_79, a, b) = some (none, zs_17, a, b, 65, 0, 130) := by
  refine (ct_9_s120 a b).trans ?_
  rw [ct_9_g121 a b (fun q j hq => h q j (by omega)) (fun q j hq => hb q j (by omega))]
  all_goals rfl
set_option maxRecDepth 100000 in
theorem ct_9_s119 (a : zA) (b : zB) : zr zM zprm 37 31 (137, [.ref 35, .retAddr 0, .retAddr 0, .retAddr 0, .retAddr 0, .int 57], [], zs_210, a, b) = zCNT 2 (zCA zM (zr zM zprm) 26 [.ref 105] zs_79 (zzA a 105) (zzB b 105) (fun sh a b => zr zM zprm 37 31 (157, [.ref 35, .retAddr 0, .retAddr 0, .retAddr 0, .retAddr 0, .int 57], [.ref 105, .int 57, .ref 40], sh, a, b))) := (zr_run (mi := zm_37) rfl 400 _).trans rfl
set_option maxRecDepth 100000 in
theorem ct_9_g119 (a : zA) (b : zB) (h : ∀ q j, 105 ≤ q → a q j = 0) (hb : ∀ q j, 105 ≤ q → b q j = 0) : zr zM zprm 37 31 (137, [.ref 35, .retAddr 0, .retAddr 0, .retAddr 0, .retAddr 0, .int 57], [], zs_210, a, b) = some (none, zs_17, a, b, 66, 0, 132) := by
  refine (ct_9_s119 a b).trans ?_
  rw [zzA_z h 105 (by decide), zzB_z hb 105 (by decide)]
  have h1 : ∀ q j, 105 ≤ q → a q j = 0 := fun q j hq => h q j (by omega)
  have hb1 : ∀ q j, 105 ≤ q → b q j = 0 := fun q j hq => hb q j (by omega)
  rw [zCA_ok (ct_71 a b h1 hb1) rfl, ct_9_g120 _ b (fun q j hq => h q j (by omega)) (fun q j hq => hb q j (by omega))]
  all_goals rfl
set_option maxRecDepth 100000 in
theorem ct_9_s118 (a : zA) (b : zB) : zr zM zprm 37 31 (157, [.ref 35, .retAddr 0, .retAddr 0, .retAddr 0, .retAddr 0, .int 56], [.ref 104, .int 56, .ref 40], zs_78, a, b) = zr zM zprm 37 31 (137, [.ref 35, .retAddr 0, .retAddr 0, .retAddr 0, .retAddr 0, .int 57], [], zs_210, a, b) := (zr_run (mi := zm_37) rfl 400 _).trans rfl
set_option maxRecDepth 100000 in
theorem ct_9_g118 (a : zA) (b : zB) (h : ∀ q j, 105 ≤ q → a q j = 0) (hb : ∀ q j, 105 ≤ q → b q j = 0) : zr zM zprm 37 31 (157, [.ref 35, .retAddr 0, .retAddr 0, .retAddr 0, .retAddr 0, .int 56], [.ref 104, .int 56, .ref 40], zs_78, a, b) = some (none, zs_17, a, b, 66, 0, 132) := by
  refine (ct_9_s118 a b).trans ?_
  rw [ct_9_g119 a b (fun q j hq => h q j (by omega)) (fun q j hq => hb q j (by omega))]
  all_goals rfl
set_option maxRecDepth 100000 in
theorem ct_9_s117 (a : zA) (b : zB) : zr zM zprm 37 31 (137, [.ref 35, .retAddr 0, .retAddr 0, .retAddr 0, .retAddr 0, .int 56], [], zs_211, a, b) = zCNT 2 (zCA zM (zr zM zprm) 26 [.ref 104] zs_78 (zzA a 104) (zzB b 104) (fun sh a b => zr zM zprm 37 31 (157, [.ref 35, .retAddr 0, .retAddr 0, .retAddr 0, .retAddr 0, .int 56], [.ref 104, .int 56, .ref 40], sh, a, b))) := (zr_run (mi := zm_37) rfl 400 _).trans rfl
set_option maxRecDepth 100000 in
theorem ct_9_g117 (a : zA) (b : zB) (h : ∀ q j, 104 ≤ q → a q j = 0) (hb : ∀ q j, 104 ≤ q → b q j = 0) : zr zM zprm 37 31 (137, [.ref 35, .retAddr 0, .retAddr 0, .retAddr 0, .retAddr 0, .int 56], [], zs_211, a, b) = some (none, zs_17, a, b, 67, 0, 134) := by
  refine (ct_9_s117 a b).trans ?_
  rw [zzA_z h 104 (by decide), zzB_z hb 104 (by decide)]
  have h1 : ∀ q j, 104 ≤ q → a q j = 0 := fun q j hq => h q j (by omega)
  have hb1 : ∀ q j, 104 ≤ q → b q j = 0 := fun q j hq => hb q j (by omega)
  rw [zCA_ok (ct_70 a b h1 hb1) rfl, ct_9_g118 _ b (fun q j hq => h q j (by omega)) (fun q j hq => hb q j (by omega))]
  all_goals rfl
set_option maxRecDepth 100000 in
theorem ct_9_s116 (a : zA) (b : zB) : zr zM zprm 37 31 (157, [.ref 35, .retAddr 0, .retAddr 0, .retAddr 0, .retAddr 0, .int 55], [.ref 103, .int 55, .ref 40], zs_77, a, b) = zr zM zprm 37 31 (137, [.ref 35, .retAddr 0, .retAddr 0, .retAddr 0, .retAddr 0, .int 56], [], zs_211, a, b) := (zr_run (mi := zm_37) rfl 400 _).trans rfl
set_option maxRecDepth 100000 in
theorem ct_9_g116 (a : zA) (b : zB) (h : ∀ q j, 104 ≤ q → a q j = 0) (hb : ∀ q j, 104 ≤ q → b q j = 0) : zr zM zprm 37 31 (157, [.ref 35, .retAddr 0, .retAddr 0, .retAddr 0, .retAddr 0, .int 55], [.ref 103, .int 55, .ref 40], zs_77, a, b) = some (none, zs_17, a, b, 67, 0, 134) := by
  refine (ct_9_s116 a b).trans ?_
  rw [ct_9_g117 a b (fun q j hq => h q j (by omega)) (fun q j hq => hb q j (by omega))]
  all_goals rfl
set_option maxRecDepth 100000 in
theorem ct_9_s115 (a : zA) (b : zB) : zr zM zprm 37 31 (137, [.ref 35, .retAddr 0, .retAddr 0, .retAddr 0, .retAddr 0, .int 55], [], zs_212, a, b) = zCNT 2 (zCA zM (zr zM zprm) 26 [.ref 103] zs_77 (zzA a 103) (zzB b 103) (fun sh a b => zr zM zprm 37 31 (157, [.ref 35, .retAddr 0, .retAddr 0, .retAddr 0, .retAddr 0, .int 55], [.ref 103, .int 55, .ref 40], sh, a, b))) := (zr_run (mi := zm_37) rfl 400 _).trans rfl
set_option maxRecDepth 100000 in
theorem ct_9_g115 (a : zA) (b : zB) (h : ∀ q j, 103 ≤ q → a q j = 0) (hb : ∀ q j, 103 ≤ q → b q j = 0) : zr zM zprm 37 31 (137, [.ref 35, .retAddr 0, .retAddr 0, .retAddr 0, .retAddr 0, .int 55], [], zs_212, a, b) = some (none, zs_17, a, b, 68, 0, 136) := by
  refine (ct_9_s115 a b).trans ?_
  rw [zzA_z h 103 (by decide), zzB_z hb 103 (by decide)]
  have h1 : ∀ q j, 103 ≤ q → a q j = 0 := fun q j hq => h q j (by omega)
  have hb1 : ∀ q j, 103 ≤ q → b q j = 0 := fun q j hq => hb q j (by omega)
  rw [zCA_ok (ct_69 a b h1 hb1) rfl, ct_9_g116 _ b (fun q j hq => h q j (by omega)) (fun q j hq => hb q j (by omega))]
  all_goals rfl
set_option maxRecDepth 100000 in
theorem ct_9_s114 (a : zA) (b : zB) : zr zM zprm 37 31 (157, [.ref 35, .retAddr 0, .retAddr 0, .retAddr 0, .retAddr 0, .int 54], [.ref 102, .int 54, .ref 40], zs_76, a, b) = zr zM zprm 37 31 (137, [.ref 35, .retAddr 0, .retAddr 0, .retAddr 0, .retAddr 0, .int 55], [], zs_212, a, b) := (zr_run (mi := zm_37) rfl 400 _).trans rfl
set_option maxRecDepth 100000 in
theorem ct_9_g114 (a : zA) (b : zB) (h : ∀ q j, 103 ≤ q → a q j = 0) (hb : ∀ q j, 103 ≤ q → b q j = 0) : zr zM zprm 37 31 (157, [.ref 35, .retAddr 0, .retAddr 0, .retAddr 0, .retAddr 0, .int 54], [.ref 102, .int 54, .ref 40], zs_76, a, b) = some (none, zs_17, a, b, 68, 0, 136) := by
  refine (ct_9_s114 a b).trans ?_
  rw [ct_9_g115 a b (fun q j hq => h q j (by omega)) (fun q j hq => hb q j (by omega))]
  all_goals rfl
set_option maxRecDepth 100000 in
theorem ct_9_s113 (a : zA) (b : zB) : zr zM zprm 37 31 (137, [.ref 35, .retAddr 0, .retAddr 0, .retAddr 0, .retAddr 0, .int 54], [], zs_213, a, b) = zCNT 2 (zCA zM (zr zM zprm) 26 [.ref 102] zs_76 (zzA a 102) (zzB b 102) (fun sh a b => zr zM zprm 37 31 (157, [.ref 35, .retAddr 0, .retAddr 0, .retAddr 0, .retAddr 0, .int 54], [.ref 102, .int 54, .ref 40], sh, a, b))) := (zr_run (mi := zm_37) rfl 400 _).trans rfl
set_option maxRecDepth 100000 in
theorem ct_9_g113 (a : zA) (b : zB) (h : ∀ q j, 102 ≤ q → a q j = 0) (hb : ∀ q j, 102 ≤ q → b q j = 0) : zr zM zprm 37 31 (137, [.ref 35, .retAddr 0, .retAddr 0, .retAddr 0, .retAddr 0, .int 54], [], zs_213, a, b) = some (none, zs_17, a, b, 69, 0, 138) := by
  refine (ct_9_s113 a b).trans ?_
  rw [zzA_z h 102 (by decide), zzB_z hb 102 (by decide)]
  have h1 : ∀ q j, 102 ≤ q → a q j = 0 := fun q j hq => h q j (by omega)
  have hb1 : ∀ q j, 102 ≤ q → b q j = 0 := fun q j hq => hb q j (by omega)
  rw [zCA_ok (ct_68 a b h1 hb1) rfl, ct_9_g114 _ b (fun q j hq => h q j (by omega)) (fun q j hq => hb q j (by omega))]
  all_goals rfl
set_option maxRecDepth 100000 in
theorem ct_9_s112 (a : zA) (b : zB) : zr zM zprm 37 31 (157, [.ref 35, .retAddr 0, .retAddr 0, .retAddr 0, .retAddr 0, .int 53], [.ref 101, .int 53, .ref 40], zs_75, a, b) = zr zM zprm 37 31 (137, [.ref 35, .retAddr 0, .retAddr 0, .retAddr 0, .retAddr 0, .int 54], [], zs_213, a, b) := (zr_run (mi := zm_37) rfl 400 _).trans rfl
set_option maxRecDepth 100000 in
theorem ct_9_g112 (a : zA) (b : zB) (h : ∀ q j, 102 ≤ q → a q j = 0) (hb : ∀ q j, 102 ≤ q → b q j = 0) : zr zM zprm 37 31 (157, [.ref 35, .retAddr 0, .retAddr 0, .retAddr 0, .retAddr 0, .int 53], [.ref 101, .int 53, .ref 40], zs_75, a, b) = some (none, zs_17, a, b, 69, 0, 138) := by
  refine (ct_9_s112 a b).trans ?_
  rw [ct_9_g113 a b (fun q j hq => h q j (by omega)) (fun q j hq => hb q j (by omega))]
  all_goals rfl
set_option maxRecDepth 100000 in
theorem ct_9_s111 (a : zA) (b : zB) : zr zM zprm 37 31 (137, [.ref 35, .retAddr 0, .retAddr 0, .retAddr 0, .retAddr 0, .int 53], [], zs_214, a, b) = zCNT 2 (zCA zM (zr zM zprm) 26 [.ref 101] zs_75 (zzA a 101) (zzB b 101) (fun sh a b => zr zM zprm 37 31 (157, [.ref 35, .retAddr 0, .retAddr 0, .retAddr 0, .retAddr 0, .int 53], [.ref 101, .int 53, .ref 40], sh, a, b))) := (zr_run (mi := zm_37) rfl 400 _).trans rfl
set_option maxRecDepth 100000 in
theorem ct_9_g111 (a : zA) (b : zB) (h : ∀ q j, 101 ≤ q → a q j = 0) (hb : ∀ q j, 101 ≤ q → b q j = 0) : zr zM zprm 37 31 (137, [.ref 35, .retAddr 0, .retAddr 0, .retAddr 0, .retAddr 0, .int 53], [], zs_214, a, b) = some (none, zs_17, a, b, 70, 0, 140) := by
  refine (ct_9_s111 a b).trans ?_
  rw [zzA_z h 101 (by decide), zzB_z hb 101 (by decide)]
  have h1 : ∀ q j, 101 ≤ q → a q j = 0 := fun q j hq => h q j (by omega)
  have hb1 : ∀ q j, 101 ≤ q → b q j = 0 := fun q j hq => hb q j (by omega)
  rw [zCA_ok (ct_67 a b h1 hb1) rfl, ct_9_g112 _ b (fun q j hq => h q j (by omega)) (fun q j hq => hb q j (by omega))]
  all_goals rfl
set_option maxRecDepth 100000 in
theorem ct_9_s110 (a : zA) (b : zB) : zr zM zprm 37 31 (157, [.ref 35, .retAddr 0, .retAddr 0, .retAddr 0, .retAddr 0, .int 52], [.ref 100, .int 52, .ref 40], zs_74, a, b) = zr zM zprm 37 31 (137, [.ref 35, .retAddr 0, .retAddr 0, .retAddr 0, .retAddr 0, .int 53], [], zs_214, a, b) := (zr_run (mi := zm_37) rfl 400 _).trans rfl
set_option maxRecDepth 100000 in
theorem ct_9_g110 (a : zA) (b : zB) (h : ∀ q j, 101 ≤ q → a q j = 0) (hb : ∀ q j, 101 ≤ q → b q j = 0) : zr zM zprm 37 31 (157, [.ref 35, .retAddr 0, .retAddr 0, .retAddr 0, .retAddr 0, .int 52], [.ref 100, .int 52, .ref 40], zs_74, a, b) = some (none, zs_17, a, b, 70, 0, 140) := by
  refine (ct_9_s110 a b).trans ?_
  rw [ct_9_g111 a b (fun q j hq => h q j (by omega)) (fun q j hq => hb q j (by omega))]
  all_goals rfl
set_option maxRecDepth 100000 in
theorem ct_9_s109 (a : zA) (b : zB) : zr zM zprm 37 31 (137, [.ref 35, .retAddr 0, .retAddr 0, .retAddr 0, .retAddr 0, .int 52], [], zs_215, a, b) = zCNT 2 (zCA zM (zr zM zprm) 26 [.ref 100] zs_74 (zzA a 100) (zzB b 100) (fun sh a b => zr zM zprm 37 31 (157, [.ref 35, .retAddr 0, .retAddr 0, .retAddr 0, .retAddr 0, .int 52], [.ref 100, .int 52, .ref 40], sh, a, b))) := (zr_run (mi := zm_37) rfl 400 _).trans rfl
set_option maxRecDepth 100000 in
theorem ct_9_g109 (a : zA) (b : zB) (h : ∀ q j, 100 ≤ q → a q j = 0) (hb : ∀ q j, 100 ≤ q → b q j = 0) : zr zM zprm 37 31 (137, [.ref 35, .retAddr 0, .retAddr 0, .retAddr 0, .retAddr 0, .int 52], [], zs_215, a, b) = some (none, zs_17, a, b, 71, 0, 142) := by
  refine (ct_9_s109 a b).trans ?_
  rw [zzA_z h 100 (by decide), zzB_z hb 100 (by decide)]
  have h1 : ∀ q j, 100 ≤ q → a q j = 0 := fun q j hq => h q j (by omega)
  have hb1 : ∀ q j, 100 ≤ q → b q j = 0 := fun q j hq => hb q j (by omega)
  rw [zCA_ok (ct_66 a b h1 hb1) rfl, ct_9_g110 _ b (fun q j hq => h q j (by omega)) (fun q j hq => hb q j (by omega))]
  all_goals rfl
set_option maxRecDepth 100000 in
theorem ct_9_s108 (a : zA) (b : zB) : zr zM zprm 37 31 (157, [.ref 35, .retAddr 0, .retAddr 0, .retAddr 0, .retAddr 0, .int 51], [.ref 99, .int 51, .ref 40], zs_73, a, b) = zr zM zprm 37 31 (137, [.ref 35, .retAddr 0, .retAddr 0, .retAddr 0, .retAddr 0, .int 52], [], zs_215, a, b) := (zr_run (mi := zm_37) rfl 400 _).trans rfl
set_option maxRecDepth 100000 in
theorem ct_9_g108 (a : zA) (b : zB) (h : ∀ q j, 100 ≤ q → a q j = 0) (hb : ∀ q j, 100 ≤ q → b q j = 0) : zr zM zprm 37 31 (157, [.ref 35, .retAddr 0, .retAddr 0, .retAddr 0, .retAddr 0, .int 51], [.ref 99, .int 51, .ref 40], zs_73, a, b) = some (none, zs_17, a, b, 71, 0, 142) := by
  refine (ct_9_s108 a b).trans ?_
  rw [ct_9_g109 a b (fun q j hq => h q j (by omega)) (fun q j hq => hb q j (by omega))]
  all_goals rfl
set_option maxRecDepth 100000 in
theorem ct_9_s107 (a : zA) (b : zB) : zr zM zprm 37 31 (137, [.ref 35, .retAddr 0, .retAddr 0, .retAddr 0, .retAddr 0, .int 51], [], zs_216, a, b) = zCNT 2 (zCA zM (zr zM zprm) 26 [.ref 99] zs_73 (zzA a 99) (zzB b 99) (fun sh a b => zr zM zprm 37 31 (157, [.ref 35, .retAddr 0, .retAddr 0, .retAddr 0, .retAddr 0, .int 51], [.ref 99, .int 51, .ref 40], sh, a, b))) := (zr_run (mi := zm_37) rfl 400 _).trans rfl
set_option maxRecDepth 100000 in
theorem ct_9_g107 (a : zA) (b : zB) (h : ∀ q j, 99 ≤ q → a q j = 0) (hb : ∀ q j, 99 ≤ q → b q j = 0) : zr zM zprm 37 31 (137, [.ref 35, .retAddr 0, .retAddr 0, .retAddr 0, .retAddr 0, .int 51], [], zs_216, a, b) = some (none, zs_17, a, b, 72, 0, 144) := by
  refine (ct_9_s107 a b).trans ?_
  rw [zzA_z h 99 (by decide), zzB_z hb 99 (by decide)]
  have h1 : ∀ q j, 99 ≤ q → a q j = 0 := fun q j hq => h q j (by omega)
  have hb1 : ∀ q j, 99 ≤ q → b q j = 0 := fun q j hq => hb q j (by omega)
  rw [zCA_ok (ct_65 a b h1 hb1) rfl, ct_9_g108 _ b (fun q j hq => h q j (by omega)) (fun q j hq => hb q j (by omega))]
  all_goals rfl
set_option maxRecDepth 100000 in
theorem ct_9_s106 (a : zA) (b : zB) : zr zM zprm 37 31 (157, [.ref 35, .retAddr 0, .retAddr 0, .retAddr 0, .retAddr 0, .int 50], [.ref 98, .int 50, .ref 40], zs_72, a, b) = zr zM zprm 37 31 (137, [.ref 35, .retAddr 0, .retAddr 0, .retAddr 0, .retAddr 0, .int 51], [], zs_216, a, b) := (zr_run (mi := zm_37) rfl 400 _).trans rfl
set_option maxRecDepth 100000 in
theorem ct_9_g106 (a : zA) (b : zB) (h : ∀ q j, 99 ≤ q → a q j = 0) (hb : ∀ q j, 99 ≤ q → b q j = 0) : zr zM zprm 37 31 (157, [.ref 35, .retAddr 0, .retAddr 0, .retAddr 0, .retAddr 0, .int 50], [.ref 98, .int 50, .ref 40], zs_72, a, b) = some (none, zs_17, a, b, 72, 0, 144) := by
  refine (ct_9_s106 a b).trans ?_
  rw [ct_9_g107 a b (fun q j hq => h q j (by omega)) (fun q j hq => hb q j (by omega))]
  all_goals rfl
set_option maxRecDepth 100000 in
theorem ct_9_s105 (a : zA) (b : zB) : zr zM zprm 37 31 (137, [.ref 35, .retAddr 0, .retAddr 0, .retAddr 0, .retAddr 0, .int 50], [], zs_217, a, b) = zCNT 2 (zCA zM (zr zM zprm) 26 [.ref 98] zs_72 (zzA a 98) (zzB b 98) (fun sh a b => zr zM zprm 37 31 (157, [.ref 35, .retAddr 0, .retAddr 0, .retAddr 0, .retAddr 0, .int 50], [.ref 98, .int 50, .ref 40], sh, a, b))) := (zr_run (mi := zm_37) rfl 400 _).trans rfl
set_option maxRecDepth 100000 in
theorem ct_9_g105 (a : zA) (b : zB) (h : ∀ q j, 98 ≤ q → a q j = 0) (hb : ∀ q j, 98 ≤ q → b q j = 0) : zr zM zprm 37 31 (137, [.ref 35, .retAddr 0, .retAddr 0, .retAddr 0, .retAddr 0, .int 50], [], zs_217, a, b) = some (none, zs_17, a, b, 73, 0, 146) := by
  refine (ct_9_s105 a b).trans ?_
  rw [zzA_z h 98 (by decide), zzB_z hb 98 (by decide)]
  have h1 : ∀ q j, 98 ≤ q → a q j = 0 := fun q j hq => h q j (by omega)
  have hb1 : ∀ q j, 98 ≤ q → b q j = 0 := fun q j hq => hb q j (by omega)
  rw [zCA_ok (ct_64 a b h1 hb1) rfl, ct_9_g106 _ b (fun q j hq => h q j (by omega)) (fun q j hq => hb q j (by omega))]
  all_goals rfl
set_option maxRecDepth 100000 in
theorem ct_9_s104 (a : zA) (b : zB) : zr zM zprm 37 31 (157, [.ref 35, .retAddr 0, .retAddr 0, .retAddr 0, .retAddr 0, .int 49], [.ref 97, .int 49, .ref 40], zs_71, a, b) = zr zM zprm 37 31 (137, [.ref 35, .retAddr 0, .retAddr 0, .retAddr 0, .retAddr 0, .int 50], [], zs_217, a, b) := (zr_run (mi := zm_37) rfl 400 _).trans rfl
set_option maxRecDepth 100000 in
theorem ct_9_g104 (a : zA) (b : zB) (h : ∀ q j, 98 ≤ q → a q j = 0) (hb : ∀ q j, 98 ≤ q → b q j = 0) : zr zM zprm 37 31 (157, [.ref 35, .retAddr 0, .retAddr 0, .retAddr 0, .retAddr 0, .int 49], [.ref 97, .int 49, .ref 40], zs_71, a, b) = some (none, zs_17, a, b, 73, 0, 146) := by
  refine (ct_9_s104 a b).trans ?_
  rw [ct_9_g105 a b (fun q j hq => h q j (by omega)) (fun q j hq => hb q j (by omega))]
  all_goals rfl
set_option maxRecDepth 100000 in
theorem ct_9_s103 (a : zA) (b : zB) : zr zM zprm 37 31 (137, [.ref 35, .retAddr 0, .retAddr 0, .retAddr 0, .retAddr 0, .int 49], [], zs_218, a, b) = zCNT 2 (zCA zM (zr zM zprm) 26 [.ref 97] zs_71 (zzA a 97) (zzB b 97) (fun sh a b => zr zM zprm 37 31 (157, [.ref 35, .retAddr 0, .retAddr 0, .retAddr 0, .retAddr 0, .int 49], [.ref 97, .int 49, .ref 40], sh, a, b))) := (zr_run (mi := zm_37) rfl 400 _).trans rfl
set_option maxRecDepth 100000 in
theorem ct_9_g103 (a : zA) (b : zB) (h : ∀ q j, 97 ≤ q → a q j = 0) (hb : ∀ q j, 97 ≤ q → b q j = 0) : zr zM zprm 37 31 (137, [.ref 35, .retAddr 0, .retAddr 0, .retAddr 0, .retAddr 0, .int 49], [], zs_218, a, b) = some (none, zs_17, a, b, 74, 0, 148) := by
  refine (ct_9_s103 a b).trans ?_
  rw [zzA_z h 97 (by decide), zzB_z hb 97 (by decide)]
  have h1 : ∀ q j, 97 ≤ q → a q j = 0 := fun q j hq => h q j (by omega)
  have hb1 : ∀ q j, 97 ≤ q → b q j = 0 := fun q j hq => hb q j (by omega)
  rw [zCA_ok (ct_63 a b h1 hb1) rfl, ct_9_g104 _ b (fun q j hq => h q j (by omega)) (fun q j hq => hb q j (by omega))]
  all_goals rfl
set_option maxRecDepth 100000 in
theorem ct_9_s102 (a : zA) (b : zB) : zr zM zprm 37 31 (157, [.ref 35, .retAddr 0, .retAddr 0, .retAddr 0, .retAddr 0, .int 48], [.ref 96, .int 48, .ref 40], zs_70, a, b) = zr zM zprm 37 31 (137, [.ref 35, .retAddr 0, .retAddr 0, .retAddr 0, .retAddr 0, .int 49], [], zs_218, a, b) := (zr_run (mi := zm_37) rfl 400 _).trans rfl
set_option maxRecDepth 100000 in
theorem ct_9_g102 (a : zA) (b : zB) (h : ∀ q j, 97 ≤ q → a q j = 0) (hb : ∀ q j, 97 ≤ q → b q j = 0) : zr zM zprm 37 31 (157, [.ref 35, .retAddr 0, .retAddr 0, .retAddr 0, .retAddr 0, .int 48], [.ref 96, .int 48, .ref 40], zs_70, a, b) = some (none, zs_17, a, b, 74, 0, 148) := by
  refine (ct_9_s102 a b).trans ?_
  rw [ct_9_g103 a b (fun q j hq => h q j (by omega)) (fun q j hq => hb q j (by omega))]
  all_goals rfl
set_option maxRecDepth 100000 in
theorem ct_9_s101 (a : zA) (b : zB) : zr zM zprm 37 31 (137, [.ref 35, .retAddr 0, .retAddr 0, .retAddr 0, .retAddr 0, .int 48], [], zs_219, a, b) = zCNT 2 (zCA zM (zr zM zprm) 26 [.ref 96] zs_70 (zzA a 96) (zzB b 96) (fun sh a b => zr zM zprm 37 31 (157, [.ref 35, .retAddr 0, .retAddr 0, .retAddr 0, .retAddr 0, .int 48], [.ref 96, .int 48, .ref 40], sh, a, b))) := (zr_run (mi := zm_37) rfl 400 _).trans rfl
set_option maxRecDepth 100000 in
theorem ct_9_g101 (a : zA) (b : zB) (h : ∀ q j, 96 ≤ q → a q j = 0) (hb : ∀ q j, 96 ≤ q → b q j = 0) : zr zM zprm 37 31 (137, [.ref 35, .retAddr 0, .retAddr 0, .retAddr 0, .retAddr 0, .int 48], [], zs_219, a, b) = some (none, zs_17, a, b, 75, 0, 150) := by
  refine (ct_9_s101 a b).trans ?_
  rw [zzA_z h 96 (by decide), zzB_z hb 96 (by decide)]
  have h1 : ∀ q j, 96 ≤ q → a q j = 0 := fun q j hq => h q j (by omega)
  have hb1 : ∀ q j, 96 ≤ q → b q j = 0 := fun q j hq => hb q j (by omega)
  rw [zCA_ok (ct_62 a b h1 hb1) rfl, ct_9_g102 _ b (fun q j hq => h q j (by omega)) (fun q j hq => hb q j (by omega))]
  all_goals rfl
set_option maxRecDepth 100000 in
theorem ct_9_s100 (a : zA) (b : zB) : zr zM zprm 37 31 (157, [.ref 35, .retAddr 0, .retAddr 0, .retAddr 0, .retAddr 0, .int 47], [.ref 95, .int 47, .ref 40], zs_69, a, b) = zr zM zprm 37 31 (137, [.ref 35, .retAddr 0, .retAddr 0, .retAddr 0, .retAddr 0, .int 48], [], zs_219, a, b) := (zr_run (mi := zm_37) rfl 400 _).trans rfl
set_option maxRecDepth 100000 in
theorem ct_9_g100 (a : zA) (b : zB) (h : ∀ q j, 96 ≤ q → a q j = 0) (hb : ∀ q j, 96 ≤ q → b q j = 0) : zr zM zprm 37 31 (157, [.ref 35, .retAddr 0, .retAddr 0, .retAddr 0, .retAddr 0, .int 47], [.ref 95, .int 47, .ref 40], zs_69, a, b) = some (none, zs_17, a, b, 75, 0, 150) := by
  refine (ct_9_s100 a b).trans ?_
  rw [ct_9_g101 a b (fun q j hq => h q j (by omega)) (fun q j hq => hb q j (by omega))]
  all_goals rfl
set_option maxRecDepth 100000 in
theorem ct_9_s99 (a : zA) (b : zB) : zr zM zprm 37 31 (137, [.ref 35, .retAddr 0, .retAddr 0, .retAddr 0, .retAddr 0, .int 47], [], zs_220, a, b) = zCNT 2 (zCA zM (zr zM zprm) 26 [.ref 95] zs_69 (zzA a 95) (zzB b 95) (fun sh a b => zr zM zprm 37 31 (157, [.ref 35, .retAddr 0, .retAddr 0, .retAddr 0, .retAddr 0, .int 47], [.ref 95, .int 47, .ref 40], sh, a, b))) := (zr_run (mi := zm_37) rfl 400 _).trans rfl
set_option maxRecDepth 100000 in
theorem ct_9_g99 (a : zA) (b : zB) (h : ∀ q j, 95 ≤ q → a q j = 0) (hb : ∀ q j, 95 ≤ q → b q j = 0) : zr zM zprm 37 31 (137, [.ref 35, .retAddr 0, .retAddr 0, .retAddr 0, .retAddr 0, .int 47], [], zs_220, a, b) = some (none, zs_17, a, b, 76, 0, 152) := by
  refine (ct_9_s99 a b).trans ?_
  rw [zzA_z h 95 (by decide), zzB_z hb 95 (by decide)]
  have h1 : ∀ q j, 95 ≤ q → a q j = 0 := fun q j hq => h q j (by omega)
  have hb1 : ∀ q j, 95 ≤ q → b q j = 0 := fun q j hq => hb q j (by omega)
  rw [zCA_ok (ct_61 a b h1 hb1) rfl, ct_9_g100 _ b (fun q j hq => h q j (by omega)) (fun q j hq => hb q j (by omega))]
  all_goals rfl
set_option maxRecDepth 100000 in
theorem ct_9_s98 (a : zA) (b : zB) : zr zM zprm 37 31 (157, [.ref 35, .retAddr 0, .retAddr 0, .retAddr 0, .retAddr 0, .int 46], [.ref 94, .int 46, .ref 40], zs_68, a, b) = zr zM zprm 37 31 (137, [.ref 35, .retAddr 0, .retAddr 0, .retAddr 0, .retAddr 0, .int 47], [], zs_220, a, b) := (zr_run (mi := zm_37) rfl 400 _).trans rfl
set_option maxRecDepth 100000 in
theorem ct_9_g98 (a : zA) (b : zB) (h : ∀ q j, 95 ≤ q → a q j = 0) (hb : ∀ q j, 95 ≤ q → b q j = 0) : zr zM zprm 37 31 (157, [.ref 35, .retAddr 0, .retAddr 0, .retAddr 0, .retAddr 0, .int 46], [.ref 94, .int 46, .ref 40], zs_68, a, b) = some (none, zs_17, a, b, 76, 0, 152) := by
  refine (ct_9_s98 a b).trans ?_
  rw [ct_9_g99 a b (fun q j hq => h q j (by omega)) (fun q j hq => hb q j (by omega))]
  all_goals rfl
set_option maxRecDepth 100000 in
theorem ct_9_s97 (a : zA) (b : zB) : zr zM zprm 37 31 (137, [.ref 35, .retAddr 0, .retAddr 0, .retAddr 0, .retAddr 0, .int 46], [], zs_221, a, b) = zCNT 2 (zCA zM (zr zM zprm) 26 [.ref 94] zs_68 (zzA a 94) (zzB b 94) (fun sh a b => zr zM zprm 37 31 (157, [.ref 35, .retAddr 0, .retAddr 0, .retAddr 0, .retAddr 0, .int 46], [.ref 94, .int 46, .ref 40], sh, a, b))) := (zr_run (mi := zm_37) rfl 400 _).trans rfl
set_option maxRecDepth 100000 in
theorem ct_9_g97 (a : zA) (b : zB) (h : ∀ q j, 94 ≤ q → a q j = 0) (hb : ∀ q j, 94 ≤ q → b q j = 0) : zr zM zprm 37 31 (137, [.ref 35, .retAddr 0, .retAddr 0, .retAddr 0, .retAddr 0, .int 46], [], zs_221, a, b) = some (none, zs_17, a, b, 77, 0, 154) := by
  refine (ct_9_s97 a b).trans ?_
  rw [zzA_z h 94 (by decide), zzB_z hb 94 (by decide)]
  have h1 : ∀ q j, 94 ≤ q → a q j = 0 := fun q j hq => h q j (by omega)
  have hb1 : ∀ q j, 94 ≤ q → b q j = 0 := fun q j hq => hb q j (by omega)
  rw [zCA_ok (ct_60 a b h1 hb1) rfl, ct_9_g98 _ b (fun q j hq => h q j (by omega)) (fun q j hq => hb q j (by omega))]
  all_goals rfl
set_option maxRecDepth 100000 in
theorem ct_9_s96 (a : zA) (b : zB) : zr zM zprm 37 31 (157, [.ref 35, .retAddr 0, .retAddr 0, .retAddr 0, .retAddr 0, .int 45], [.ref 93, .int 45, .ref 40], zs_67, a, b) = zr zM zprm 37 31 (137, [.ref 35, .retAddr 0, .retAddr 0, .retAddr 0, .retAddr 0, .int 46], [], zs_221, a, b) := (zr_run (mi := zm_37) rfl 400 _).trans rfl
set_option maxRecDepth 100000 in
theorem ct_9_g96 (a : zA) (b : zB) (h : ∀ q j, 94 ≤ q → a q j = 0) (hb : ∀ q j, 94 ≤ q → b q j = 0) : zr zM zprm 37 31 (157, [.ref 35, .retAddr 0, .retAddr 0, .retAddr 0, .retAddr 0, .int 45], [.ref 93, .int 45, .ref 40], zs_67, a, b) = some (none, zs_17, a, b, 77, 0, 154) := by
  refine (ct_9_s96 a b).trans ?_
  rw [ct_9_g97 a b (fun q j hq => h q j (by omega)) (fun q j hq => hb q j (by omega))]
  all_goals rfl
set_option maxRecDepth 100000 in
theorem ct_9_s95 (a : zA) (b : zB) : zr zM zprm 37 31 (137, [.ref 35, .retAddr 0, .retAddr 0, .retAddr 0, .retAddr 0, .int 45], [], zs_222, a, b) = zCNT 2 (zCA zM (zr zM zprm) 26 [.ref 93] zs_67 (zzA a 93) (zzB b 93) (fun sh a b => zr zM zprm 37 31 (157, [.ref 35, .retAddr 0, .retAddr 0, .retAddr 0, .retAddr 0, .int 45], [.ref 93, .int 45, .ref 40], sh, a, b))) := (zr_run (mi := zm_37) rfl 400 _).trans rfl
set_option maxRecDepth 100000 in
theorem ct_9_g95 (a : zA) (b : zB) (h : ∀ q j, 93 ≤ q → a q j = 0) (hb : ∀ q j, 93 ≤ q → b q j = 0) : zr zM zprm 37 31 (137, [.ref 35, .retAddr 0, .retAddr 0, .retAddr 0, .retAddr 0, .int 45], [], zs_222, a, b) = some (none, zs_17, a, b, 78, 0, 156) := by
  refine (ct_9_s95 a b).trans ?_
  rw [zzA_z h 93 (by decide), zzB_z hb 93 (by decide)]
  have h1 : ∀ q j, 93 ≤ q → a q j = 0 := fun q j hq => h q j (by omega)
  have hb1 : ∀ q j, 93 ≤ q → b q j = 0 := fun q j hq => hb q j (by omega)
  rw [zCA_ok (ct_59 a b h1 hb1) rfl, ct_9_g96 _ b (fun q j hq => h q j (by omega)) (fun q j hq => hb q j (by omega))]
  all_goals rfl
set_option maxRecDepth 100000 in
theorem ct_9_s94 (a : zA) (b : zB) : zr zM zprm 37 31 (157, [.ref 35, .retAddr 0, .retAddr 0, .retAddr 0, .retAddr 0, .int 44], [.ref 92, .int 44, .ref 40], zs_66, a, b) = zr zM zprm 37 31 (137, [.ref 35, .retAddr 0, .retAddr 0, .retAddr 0, .retAddr 0, .int 45], [], zs_222, a, b) := (zr_run (mi := zm_37) rfl 400 _).trans rfl
set_option maxRecDepth 100000 in
theorem ct_9_g94 (a : zA) (b : zB) (h : ∀ q j, 93 ≤ q → a q j = 0) (hb : ∀ q j, 93 ≤ q → b q j = 0) : zr zM zprm 37 31 (157, [.ref 35, .retAddr 0, .retAddr 0, .retAddr 0, .retAddr 0, .int 44], [.ref 92, .int 44, .ref 40], zs_66, a, b) = some (none, zs_17, a, b, 78, 0, 156) := by
  refine (ct_9_s94 a b).trans ?_
  rw [ct_9_g95 a b (fun q j hq => h q j (by omega)) (fun q j hq => hb q j (by omega))]
  all_goals rfl
set_option maxRecDepth 100000 in
theorem ct_9_s93 (a : zA) (b : zB) : zr zM zprm 37 31 (137, [.ref 35, .retAddr 0, .retAddr 0, .retAddr 0, .retAddr 0, .int 44], [], zs_223, a, b) = zCNT 2 (zCA zM (zr zM zprm) 26 [.ref 92] zs_66 (zzA a 92) (zzB b 92) (fun sh a b => zr zM zprm 37 31 (157, [.ref 35, .retAddr 0, .retAddr 0, .retAddr 0, .retAddr 0, .int 44], [.ref 92, .int 44, .ref 40], sh, a, b))) := (zr_run (mi := zm_37) rfl 400 _).trans rfl
set_option maxRecDepth 100000 in
theorem ct_9_g93 (a : zA) (b : zB) (h : ∀ q j, 92 ≤ q → a q j = 0) (hb : ∀ q j, 92 ≤ q → b q j = 0) : zr zM zprm 37 31 (137, [.ref 35, .retAddr 0, .retAddr 0, .retAddr 0, .retAddr 0, .int 44], [], zs_223, a, b) = some (none, zs_17, a, b, 79, 0, 158) := by
  refine (ct_9_s93 a b).trans ?_
  rw [zzA_z h 92 (by decide), zzB_z hb 92 (by decide)]
  have h1 : ∀ q j, 92 ≤ q → a q j = 0 := fun q j hq => h q j (by omega)
  have hb1 : ∀ q j, 92 ≤ q → b q j = 0 := fun q j hq => hb q j (by omega)
  rw [zCA_ok (ct_58 a b h1 hb1) rfl, ct_9_g94 _ b (fun q j hq => h q j (by omega)) (fun q j hq => hb q j (by omega))]
  all_goals rfl
set_option maxRecDepth 100000 in
theorem ct_9_s92 (a : zA) (b : zB) : zr zM zprm 37 31 (157, [.ref 35, .retAddr 0, .retAddr 0, .retAddr 0, .retAddr 0, .int 43], [.ref 91, .int 43, .ref 40], zs_65, a, b) = zr zM zprm 37 31 (137, [.ref 35, .retAddr 0, .retAddr 0, .retAddr 0, .retAddr 0, .int 44], [], zs_223, a, b) := (zr_run (mi := zm_37) rfl 400 _).trans rfl
set_option maxRecDepth 100000 in
theorem ct_9_g92 (a : zA) (b : zB) (h : ∀ q j, 92 ≤ q → a q j = 0) (hb : ∀ q j, 92 ≤ q → b q j = 0) : zr zM zprm 37 31 (157, [.ref 35, .retAddr 0, .retAddr 0, .retAddr 0, .retAddr 0, .int 43], [.ref 91, .int 43, .ref 40], zs_65, a, b) = some (none, zs_17, a, b, 79, 0, 158) := by
  refine (ct_9_s92 a b).trans ?_
  rw [ct_9_g93 a b (fun q j hq => h q j (by omega)) (fun q j hq => hb q j (by omega))]
  all_goals rfl
set_option maxRecDepth 100000 in
theorem ct_9_s91 (a : zA) (b : zB) : zr zM zprm 37 31 (137, [.ref 35, .retAddr 0, .retAddr 0, .retAddr 0, .retAddr 0, .int 43], [], zs_224, a, b) = zCNT 2 (zCA zM (zr zM zprm) 26 [.ref 91] zs_65 (zzA a 91) (zzB b 91) (fun sh a b => zr zM zprm 37 31 (157, [.ref 35, .retAddr 0, .retAddr 0, .retAddr 0, .retAddr 0, .int 43], [.ref 91, .int 43, .ref 40], sh, a, b))) := (zr_run (mi := zm_37) rfl 400 _).trans rfl
set_option maxRecDepth 100000 in
theorem ct_9_g91 (a : zA) (b : zB) (h : ∀ q j, 91 ≤ q → a q j = 0) (hb : ∀ q j, 91 ≤ q → b q j = 0) : zr zM zprm 37 31 (137, [.ref 35, .retAddr 0, .retAddr 0, .retAddr 0, .retAddr 0, .int 43], [], zs_224, a, b) = some (none, zs_17, a, b, 80, 0, 160) := by
  refine (ct_9_s91 a b).trans ?_
  rw [zzA_z h 91 (by decide), zzB_z hb 91 (by decide)]
  have h1 : ∀ q j, 91 ≤ q → a q j = 0 := fun q j hq => h q j (by omega)
  have hb1 : ∀ q j, 91 ≤ q → b q j = 0 := fun q j hq => hb q j (by omega)
  rw [zCA_ok (ct_57 a b h1 hb1) rfl, ct_9_g92 _ b (fun q j hq => h q j (by omega)) (fun q j hq => hb q j (by omega))]
  all_goals rfl
set_option maxRecDepth 100000 in
theorem ct_9_s90 (a : zA) (b : zB) : zr zM zprm 37 31 (157, [.ref 35, .retAddr 0, .retAddr 0, .retAddr 0, .retAddr 0, .int 42], [.ref 90, .int 42, .ref 40], zs_64, a, b) = zr zM zprm 37 31 (137, [.ref 35, .retAddr 0, .retAddr 0, .retAddr 0, .retAddr 0, .int 43], [], zs_224, a, b) := (zr_run (mi := zm_37) rfl 400 _).trans rfl
set_option maxRecDepth 100000 in
theorem ct_9_g90 (a : zA) (b : zB) (h : ∀ q j, 91 ≤ q → a q j = 0) (hb : ∀ q j, 91 ≤ q → b q j = 0) : zr zM zprm 37 31 (157, [.ref 35, .retAddr 0, .retAddr 0, .retAddr 0, .retAddr 0, .int 42], [.ref 90, .int 42, .ref 40], zs_64, a, b) = some (none, zs_17, a, b, 80, 0, 160) := by
  refine (ct_9_s90 a b).trans ?_
  rw [ct_9_g91 a b (fun q j hq => h q j (by omega)) (fun q j hq => hb q j (by omega))]
  all_goals rfl
set_option maxRecDepth 100000 in
theorem ct_9_s89 (a : zA) (b : zB) : zr zM zprm 37 31 (137, [.ref 35, .retAddr 0, .retAddr 0, .retAddr 0, .retAddr 0, .int 42], [], zs_225, a, b) = zCNT 2 (zCA zM (zr zM zprm) 26 [.ref 90] zs_64 (zzA a 90) (zzB b 90) (fun sh a b => zr zM zprm 37 31 (157, [.ref 35, .retAddr 0, .retAddr 0, .retAddr 0, .retAddr 0, .int 42], [.ref 90, .int 42, .ref 40], sh, a, b))) := (zr_run (mi := zm_37) rfl 400 _).trans rfl
set_option maxRecDepth 100000 in
theorem ct_9_g89 (a : zA) (b : zB) (h : ∀ q j, 90 ≤ q → a q j = 0) (hb : ∀ q j, 90 ≤ q → b q j = 0) : zr zM zprm 37 31 (137, [.ref 35, .retAddr 0, .retAddr 0, .retAddr 0, .retAddr 0, .int 42], [], zs_225, a, b) = some (none, zs_17, a, b, 81, 0, 162) := by
  refine (ct_9_s89 a b).trans ?_
  rw [zzA_z h 90 (by decide), zzB_z hb 90 (by decide)]
  have h1 : ∀ q j, 90 ≤ q → a q j = 0 := fun q j hq => h q j (by omega)
  have hb1 : ∀ q j, 90 ≤ q → b q j = 0 := fun q j hq => hb q j (by omega)
  rw [zCA_ok (ct_56 a b h1 hb1) rfl, ct_9_g90 _ b (fun q j hq => h q j (by omega)) (fun q j hq => hb q j (by omega))]
  all_goals rfl
set_option maxRecDepth 100000 in
theorem ct_9_s88 (a : zA) (b : zB) : zr zM zprm 37 31 (157, [.ref 35, .retAddr 0, .retAddr 0, .retAddr 0, .retAddr 0, .int 41], [.ref 89, .int 41, .ref 40], zs_63, a, b) = zr zM zprm 37 31 (137, [.ref 35, .retAddr 0, .retAddr 0, .retAddr 0, .retAddr 0, .int 42], [], zs_225, a, b) := (zr_run (mi := zm_37) rfl 400 _).trans rfl
set_option maxRecDepth 100000 in
theorem ct_9_g88 (a : zA) (b : zB) (h : ∀ q j, 90 ≤ q → a q j = 0) (hb : ∀ q j, 90 ≤ q → b q j = 0) : zr zM zprm 37 31 (157, [.ref 35, .retAddr 0, .retAddr 0, .retAddr 0, .retAddr 0, .int 41], [.ref 89, .int 41, .ref 40], zs_63, a, b) = some (none, zs_17, a, b, 81, 0, 162) := by
  refine (ct_9_s88 a b).trans ?_
  rw [ct_9_g89 a b (fun q j hq => h q j (by omega)) (fun q j hq => hb q j (by omega))]
  all_goals rfl
set_option maxRecDepth 100000 in
theorem ct_9_s87 (a : zA) (b : zB) : zr zM zprm 37 31 (137, [.ref 35, .retAddr 0, .retAddr 0, .retAddr 0, .retAddr 0, .int 41], [], zs_226, a, b) = zCNT 2 (zCA zM (zr zM zprm) 26 [.ref 89] zs_63 (zzA a 89) (zzB b 89) (fun sh a b => zr zM zprm 37 31 (157, [.ref 35, .retAddr 0, .retAddr 0, .retAddr 0, .retAddr 0, .int 41], [.ref 89, .int 41, .ref 40], sh, a, b))) := (zr_run (mi := zm_37) rfl 400 _).trans rfl
set_option maxRecDepth 100000 in
theorem ct_9_g87 (a : zA) (b : zB) (h : ∀ q j, 89 ≤ q → a q j = 0) (hb : ∀ q j, 89 ≤ q → b q j = 0) : zr zM zprm 37 31 (137, [.ref 35, .retAddr 0, .retAddr 0, .retAddr 0, .retAddr 0, .int 41], [], zs_226, a, b) = some (none, zs_17, a, b, 82, 0, 164) := by
  refine (ct_9_s87 a b).trans ?_
  rw [zzA_z h 89 (by decide), zzB_z hb 89 (by decide)]
  have h1 : ∀ q j, 89 ≤ q → a q j = 0 := fun q j hq => h q j (by omega)
  have hb1 : ∀ q j, 89 ≤ q → b q j = 0 := fun q j hq => hb q j (by omega)
  rw [zCA_ok (ct_55 a b h1 hb1) rfl, ct_9_g88 _ b (fun q j hq => h q j (by omega)) (fun q j hq => hb q j (by omega))]
  all_goals rfl
set_option maxRecDepth 100000 in
theorem ct_9_s86 (a : zA) (b : zB) : zr zM zprm 37 31 (157, [.ref 35, .retAddr 0, .retAddr 0, .retAddr 0, .retAddr 0, .int 40], [.ref 88, .int 40, .ref 40], zs_62, a, b) = zr zM zprm 37 31 (137, [.ref 35, .retAddr 0, .retAddr 0, .retAddr 0, .retAddr 0, .int 41], [], zs_226, a, b) := (zr_run (mi := zm_37) rfl 400 _).trans rfl
set_option maxRecDepth 100000 in
theorem ct_9_g86 (a : zA) (b : zB) (h : ∀ q j, 89 ≤ q → a q j = 0) (hb : ∀ q j, 89 ≤ q → b q j = 0) : zr zM zprm 37 31 (157, [.ref 35, .retAddr 0, .retAddr 0, .retAddr 0, .retAddr 0, .int 40], [.ref 88, .int 40, .ref 40], zs_62, a, b) = some (none, zs_17, a, b, 82, 0, 164) := by
  refine (ct_9_s86 a b).trans ?_
  rw [ct_9_g87 a b (fun q j hq => h q j (by omega)) (fun q j hq => hb q j (by omega))]
  all_goals rfl
set_option maxRecDepth 100000 in
theorem ct_9_s85 (a : zA) (b : zB) : zr zM zprm 37 31 (137, [.ref 35, .retAddr 0, .retAddr 0, .retAddr 0, .retAddr 0, .int 40], [], zs_227, a, b) = zCNT 2 (zCA zM (zr zM zprm) 26 [.ref 88] zs_62 (zzA a 88) (zzB b 88) (fun sh a b => zr zM zprm 37 31 (157, [.ref 35, .retAddr 0, .retAddr 0, .retAddr 0, .retAddr 0, .int 40], [.ref 88, .int 40, .ref 40], sh, a, b))) := (zr_run (mi := zm_37) rfl 400 _).trans rfl
set_option maxRecDepth 100000 in
theorem ct_9_g85 (a : zA) (b : zB) (h : ∀ q j, 88 ≤ q → a q j = 0) (hb : ∀ q j, 88 ≤ q → b q j = 0) : zr zM zprm 37 31 (137, [.ref 35, .retAddr 0, .retAddr 0, .retAddr 0, .retAddr 0, .int 40], [], zs_227, a, b) = some (none, zs_17, a, b, 83, 0, 166) := by
  refine (ct_9_s85 a b).trans ?_
  rw [zzA_z h 88 (by decide), zzB_z hb 88 (by decide)]
  have h1 : ∀ q j, 88 ≤ q → a q j = 0 := fun q j hq => h q j (by omega)
  have hb1 : ∀ q j, 88 ≤ q → b q j = 0 := fun q j hq => hb q j (by omega)
  rw [zCA_ok (ct_54 a b h1 hb1) rfl, ct_9_g86 _ b (fun q j hq => h q j (by omega)) (fun q j hq => hb q j (by omega))]
  all_goals rfl
set_option maxRecDepth 100000 in
theorem ct_9_s84 (a : zA) (b : zB) : zr zM zprm 37 31 (157, [.ref 35, .retAddr 0, .retAddr 0, .retAddr 0, .retAddr 0, .int 39], [.ref 87, .int 39, .ref 40], zs_61, a, b) = zr zM zprm 37 31 (137, [.ref 35, .retAddr 0, .retAddr 0, .retAddr 0, .retAddr 0, .int 40], [], zs_227, a, b) := (zr_run (mi := zm_37) rfl 400 _).trans rfl
set_option maxRecDepth 100000 in
theorem ct_9_g84 (a : zA) (b : zB) (h : ∀ q j, 88 ≤ q → a q j = 0) (hb : ∀ q j, 88 ≤ q → b q j = 0) : zr zM zprm 37 31 (157, [.ref 35, .retAddr 0, .retAddr 0, .retAddr 0, .retAddr 0, .int 39], [.ref 87, .int 39, .ref 40], zs_61, a, b) = some (none, zs_17, a, b, 83, 0, 166) := by
  refine (ct_9_s84 a b).trans ?_
  rw [ct_9_g85 a b (fun q j hq => h q j (by omega)) (fun q j hq => hb q j (by omega))]
  all_goals rfl
set_option maxRecDepth 100000 in
theorem ct_9_s83 (a : zA) (b : zB) : zr zM zprm 37 31 (137, [.ref 35, .retAddr 0, .retAddr 0, .retAddr 0, .retAddr 0, .int 39], [], zs_228, a, b) = zCNT 2 (zCA zM (zr zM zprm) 26 [.ref 87] zs_61 (zzA a 87) (zzB b 87) (fun sh a b => zr zM zprm 37 31 (157, [.ref 35, .retAddr 0, .retAddr 0, .retAddr 0, .retAddr 0, .int 39], [.ref 87, .int 39, .ref 40], sh, a, b))) := (zr_run (mi := zm_37) rfl 400 _).trans rfl
set_option maxRecDepth 100000 in
theorem ct_9_g83 (a : zA) (b : zB) (h : ∀ q j, 87 ≤ q → a q j = 0) (hb : ∀ q j, 87 ≤ q → b q j = 0) : zr zM zprm 37 31 (137, [.ref 35, .retAddr 0, .retAddr 0, .retAddr 0, .retAddr 0, .int 39], [], zs_228, a, b) = some (none, zs_17, a, b, 84, 0, 168) := by
  refine (ct_9_s83 a b).trans ?_
  rw [zzA_z h 87 (by decide), zzB_z hb 87 (by decide)]
  have h1 : ∀ q j, 87 ≤ q → a q j = 0 := fun q j hq => h q j (by omega)
  have hb1 : ∀ q j, 87 ≤ q → b q j = 0 := fun q j hq => hb q j (by omega)
  rw [zCA_ok (ct_53 a b h1 hb1) rfl, ct_9_g84 _ b (fun q j hq => h q j (by omega)) (fun q j hq => hb q j (by omega))]
  all_goals rfl
set_option maxRecDepth 100000 in
theorem ct_9_s82 (a : zA) (b : zB) : zr zM zprm 37 31 (157, [.ref 35, .retAddr 0, .retAddr 0, .retAddr 0, .retAddr 0, .int 38], [.ref 86, .int 38, .ref 40], zs_60, a, b) = zr zM zprm 37 31 (137, [.ref 35, .retAddr 0, .retAddr 0, .retAddr 0, .retAddr 0, .int 39], [], zs_228, a, b) := (zr_run (mi := zm_37) rfl 400 _).trans rfl
set_option maxRecDepth 100000 in
theorem ct_9_g82 (a : zA) (b : zB) (h : ∀ q j, 87 ≤ q → a q j = 0) (hb : ∀ q j, 87 ≤ q → b q j = 0) : zr zM zprm 37 31 (157, [.ref 35, .retAddr 0, .retAddr 0, .retAddr 0, .retAddr 0, .int 38], [.ref 86, .int 38, .ref 40], zs_60, a, b) = some (none, zs_17, a, b, 84, 0, 168) := by
  refine (ct_9_s82 a b).trans ?_
  rw [ct_9_g83 a b (fun q j hq => h q j (by omega)) (fun q j hq => hb q j (by omega))]
  all_goals rfl
set_option maxRecDepth 100000 in
theorem ct_9_s81 (a : zA) (b : zB) : zr zM zprm 37 31 (137, [.ref 35, .retAddr 0, .retAddr 0, .retAddr 0, .retAddr 0, .int 38], [], zs_229, a, b) = zCNT 2 (zCA zM (zr zM zprm) 26 [.ref 86] zs_60 (zzA a 86) (zzB b 86) (fun sh a b => zr zM zprm 37 31 (157, [.ref 35, .retAddr 0, .retAddr 0, .retAddr 0, .retAddr 0, .int 38], [.ref 86, .int 38, .ref 40], sh, a, b))) := (zr_run (mi := zm_37) rfl 400 _).trans rfl
set_option maxRecDepth 100000 in
theorem ct_9_g81 (a : zA) (b : zB) (h : ∀ q j, 86 ≤ q → a q j = 0) (hb : ∀ q j, 86 ≤ q → b q j = 0) : zr zM zprm 37 31 (137, [.ref 35, .retAddr 0, .retAddr 0, .retAddr 0, .retAddr 0, .int 38], [], zs_229, a, b) = some (none, zs_17, a, b, 85, 0, 170) := by
  refine (ct_9_s81 a b).trans ?_
  rw [zzA_z h 86 (by decide), zzB_z hb 86 (by decide)]
  have h1 : ∀ q j, 86 ≤ q → a q j = 0 := fun q j hq => h q j (by omega)
  have hb1 : ∀ q j, 86 ≤ q → b q j = 0 := fun q j hq => hb q j (by omega)
  rw [zCA_ok (ct_52 a b h1 hb1) rfl, ct_9_g82 _ b (fun q j hq => h q j (by omega)) (fun q j hq => hb q j (by omega))]
  all_goals rfl
