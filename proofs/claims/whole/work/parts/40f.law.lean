/-! The tables keep to it: method 291, by pieces -/
set_option maxRecDepth 100000 in
theorem zk_291_0 : zt_291_0.all (zchk1 (decide (zm_291.1.1.name = "<init>")) 291 zm_291.1.2.1 zm_291.2.1.1 zm_291.2.1.2.2) = true := by decide +kernel
set_option maxRecDepth 100000 in
theorem zk_291_1 : zt_291_1.all (zchk1 (decide (zm_291.1.1.name = "<init>")) 291 zm_291.1.2.1 zm_291.2.1.1 zm_291.2.1.2.2) = true := by decide +kernel
set_option maxRecDepth 100000 in
theorem zk_291_2 : zt_291_2.all (zchk1 (decide (zm_291.1.1.name = "<init>")) 291 zm_291.1.2.1 zm_291.2.1.1 zm_291.2.1.2.2) = true := by decide +kernel
set_option maxRecDepth 100000 in
theorem zk_291_3 : zt_291_3.all (zchk1 (decide (zm_291.1.1.name = "<init>")) 291 zm_291.1.2.1 zm_291.2.1.1 zm_291.2.1.2.2) = true := by decide +kernel
set_option maxRecDepth 100000 in
theorem zk_291_4 : zt_291_4.all (zchk1 (decide (zm_291.1.1.name = "<init>")) 291 zm_291.1.2.1 zm_291.2.1.1 zm_291.2.1.2.2) = true := by decide +kernel
set_option maxRecDepth 100000 in
theorem zk_291_5 : zt_291_5.all (zchk1 (decide (zm_291.1.1.name = "<init>")) 291 zm_291.1.2.1 zm_291.2.1.1 zm_291.2.1.2.2) = true := by decide +kernel
set_option maxRecDepth 100000 in
theorem zk_291_6 : zt_291_6.all (zchk1 (decide (zm_291.1.1.name = "<init>")) 291 zm_291.1.2.1 zm_291.2.1.1 zm_291.2.1.2.2) = true := by decide +kernel
set_option maxRecDepth 100000 in
theorem zk_291_7 : zt_291_7.all (zchk1 (decide (zm_291.1.1.name = "<init>")) 291 zm_291.1.2.1 zm_291.2.1.1 zm_291.2.1.2.2) = true := by decide +kernel
