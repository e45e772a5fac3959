/-! The tables keep to it: method 291, by pieces -/
set_option maxRecDepth 100000 in
theorem zk_291_8 : zt_291_8.all (zchk1 (decide (zm_291.1.1.name = "<init>")) 291 zm_291.1.2.1 zm_291.2.1.1 zm_291.2.1.2.2) = true := by decide +kernel
set_option maxRecDepth 100000 in
theorem zk_291_9 : zt_291_9.all (zchk1 (decide (zm_291.1.1.name = "<init>")) 291 zm_291.1.2.1 zm_291.2.1.1 zm_291.2.1.2.2) = true := by decide +kernel
set_option maxRecDepth 100000 in
theorem zk_291_10 : zt_291_10.all (zchk1 (decide (zm_291.1.1.name = "<init>")) 291 zm_291.1.2.1 zm_291.2.1.1 zm_291.2.1.2.2) = true := by decide +kernel
set_option maxRecDepth 100000 in
theorem zk_291_11 : zt_291_11.all (zchk1 (decide (zm_291.1.1.name = "<init>")) 291 zm_291.1.2.1 zm_291.2.1.1 zm_291.2.1.2.2) = true := by decide +kernel
set_option maxRecDepth 100000 in
theorem zk_291_12 : zt_291_12.all (zchk1 (decide (zm_291.1.1.name = "<init>")) 291 zm_291.1.2.1 zm_291.2.1.1 zm_291.2.1.2.2) = true := by decide +kernel
set_option maxRecDepth 100000 in
theorem zk_291_13 : zt_291_13.all (zchk1 (decide (zm_291.1.1.name = "<init>")) 291 zm_291.1.2.1 zm_291.2.1.1 zm_291.2.1.2.2) = true := by decide +kernel
set_option maxRecDepth 100000 in
theorem zk_291_14 : zt_291_14.all (zchk1 (decide (zm_291.1.1.name = "<init>")) 291 zm_291.1.2.1 zm_291.2.1.1 zm_291.2.1.2.2) = true := by decide +kernel
theorem zk_291 : zchk 291 zm_291 = true := by
  show zt_291.all _ = true
  unfold zt_291
  simp only [List.all_append, zk_291_0, zk_291_1, zk_291_2, zk_291_3, zk_291_4, zk_291_5, zk_291_6, zk_291_7, zk_291_8, zk_291_9, zk_291_10, zk_291_11, zk_291_12, zk_291_13, zk_291_14, Bool.and_self]
