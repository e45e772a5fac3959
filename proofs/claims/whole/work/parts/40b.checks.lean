/-! The tables keep to it: methods 0 to 59 -/
set_option maxRecDepth 100000 in
theorem zk_0 : zchk 0 zm_0 = true := by decide +kernel
set_option maxRecDepth 100000 in
theorem zk_1 : zchk 1 zm_1 = true := by decide +kernel
set_option maxRecDepth 100000 in
theorem zk_2 : zchk 2 zm_2 = true := by decide +kernel
set_option maxRecDepth 100000 in
theorem zk_3 : zchk 3 zm_3 = true := by decide +kernel
set_option maxRecDepth 100000 in
theorem zk_4 : zchk 4 zm_4 = true := by decide +kernel
set_option maxRecDepth 100000 in
theorem zk_5 : zchk 5 zm_5 = true := by decide +kernel
set_option maxRecDepth 100000 in
theorem zk_6 : zchk 6 zm_6 = true := by decide +kernel
set_option maxRecDepth 100000 in
theorem zk_7 : zchk 7 zm_7 = true := by decide +kernel
set_option maxRecDepth 100000 in
theorem zk_8 : zchk 8 zm_8 = true := by decide +kernel
set_option maxRecDepth 100000 in
theorem zk_9 : zchk 9 zm_9 = true := by decide +kernel
set_option maxRecDepth 100000 in
theorem zk_10 : zchk 10 zm_10 = true := by decide +kernel
set_option maxRecDepth 100000 in
theorem zk_11 : zchk 11 zm_11 = true := by decide +kernel
set_option maxRecDepth 100000 in
theorem zk_12 : zchk 12 zm_12 = true := by decide +kernel
set_option maxRecDepth 100000 in
theorem zk_13 : zchk 13 zm_13 = true := by decide +kernel
set_option maxRecDepth 100000 in
theorem zk_14 : zchk 14 zm_14 = true := by decide +kernel
set_option maxRecDepth 100000 in
theorem zk_15 : zchk 15 zm_15 = true := by decide +kernel
set_option maxRecDepth 100000 in
theorem zk_16 : zchk 16 zm_16 = true := by decide +kernel
set_option maxRecDepth 100000 in
theorem zk_17 : zchk 17 zm_17 = true := by decide +kernel
set_option maxRecDepth 100000 in
theorem zk_18 : zchk 18 zm_18 = true := by decide +kernel
set_option maxRecDepth 100000 in
theorem zk_19 : zchk 19 zm_19 = true := by decide +kernel
set_option maxRecDepth 100000 in
theorem zk_20 : zchk 20 zm_20 = true := by decide +kernel
set_option maxRecDepth 100000 in
theorem zk_21 : zchk 21 zm_21 = true := by decide +kernel
set_option maxRecDepth 100000 in
theorem zk_22 : zchk 22 zm_22 = true := by decide +kernel
set_option maxRecDepth 100000 in
theorem zk_23 : zchk 23 zm_23 = true := by decide +kernel
set_option maxRecDepth 100000 in
theorem zk_24 : zchk 24 zm_24 = true := by decide +kernel
set_option maxRecDepth 100000 in
theorem zk_25 : zchk 25 zm_25 = true := by decide +kernel
set_option maxRecDepth 100000 in
theorem zk_26 : zchk 26 zm_26 = true := by decide +kernel
set_option maxRecDepth 100000 in
theorem zk_27 : zchk 27 zm_27 = true := by decide +kernel
set_option maxRecDepth 100000 in
theorem zk_28 : zchk 28 zm_28 = true := by decide +kernel
set_option maxRecDepth 100000 in
theorem zk_29 : zchk 29 zm_29 = true := by decide +kernel
set_option maxRecDepth 100000 in
theorem zk_30 : zchk 30 zm_30 = true := by decide +kernel
set_option maxRecDepth 100000 in
theorem zk_31 : zchk 31 zm_31 = true := by decide +kernel
set_option maxRecDepth 100000 in
theorem zk_32 : zchk 32 zm_32 = true := by decide +kernel
set_option maxRecDepth 100000 in
theorem zk_33 : zchk 33 zm_33 = true := by decide +kernel
set_option maxRecDepth 100000 in
theorem zk_34 : zchk 34 zm_34 = true := by decide +kernel
set_option maxRecDepth 100000 in
theorem zk_35 : zchk 35 zm_35 = true := by decide +kernel
set_option maxRecDepth 100000 in
theorem zk_36 : zchk 36 zm_36 = true := by decide +kernel
set_option maxRecDepth 100000 in
theorem zk_37 : zchk 37 zm_37 = true := by decide +kernel
set_option maxRecDepth 100000 in
theorem zk_38 : zchk 38 zm_38 = true := by decide +kernel
set_option maxRecDepth 100000 in
theorem zk_39 : zchk 39 zm_39 = true := by decide +kernel
set_option maxRecDepth 100000 in
theorem zk_40 : zchk 40 zm_40 = true := by decide +kernel
set_option maxRecDepth 100000 in
theorem zk_41 : zchk 41 zm_41 = true := by decide +kernel
set_option maxRecDepth 100000 in
theorem zk_42 : zchk 42 zm_42 = true := by decide +kernel
set_option maxRecDepth 100000 in
theorem zk_43 : zchk 43 zm_43 = true := by decide +kernel
set_option maxRecDepth 100000 in
theorem zk_44 : zchk 44 zm_44 = true := by decide +kernel
set_option maxRecDepth 100000 in
theorem zk_45 : zchk 45 zm_45 = true := by decide +kernel
set_option maxRecDepth 100000 in
theorem zk_46 : zchk 46 zm_46 = true := by decide +kernel
set_option maxRecDepth 100000 in
theorem zk_47 : zchk 47 zm_47 = true := by decide +kernel
set_option maxRecDepth 100000 in
theorem zk_48 : zchk 48 zm_48 = true := by decide +kernel
set_option maxRecDepth 100000 in
theorem zk_49 : zchk 49 zm_49 = true := by decide +kernel
set_option maxRecDepth 100000 in
theorem zk_50 : zchk 50 zm_50 = true := by decide +kernel
set_option maxRecDepth 100000 in
theorem zk_51 : zchk 51 zm_51 = true := by decide +kernel
set_option maxRecDepth 100000 in
theorem zk_52 : zchk 52 zm_52 = true := by decide +kernel
set_option maxRecDepth 100000 in
theorem zk_53 : zchk 53 zm_53 = true := by decide +kernel
set_option maxRecDepth 100000 in
theorem zk_54 : zchk 54 zm_54 = true := by decide +kernel
set_option maxRecDepth 100000 in
theorem zk_55 : zchk 55 zm_55 = true := by decide +kernel
set_option maxRecDepth 100000 in
theorem zk_56 : zchk 56 zm_56 = true := by decide +kernel
set_option maxRecDepth 100000 in
theorem zk_57 : zchk 57 zm_57 = true := by decide +kernel
set_option maxRecDepth 100000 in
theorem zk_58 : zchk 58 zm_58 = true := by decide +kernel
set_option maxRecDepth 100000 in
theorem zk_59 : zchk 59 zm_59 = true := by decide +kernel
