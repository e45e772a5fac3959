/-! The methods as tables, by gen.py out of the decode rows, and the words of the links. -/
def ze0 (p : Nat) (i : Instr) (l n : Nat) : Nat × zE := (p, ((i, l), n, (0, 0, 0), (0, 0), []))
def zex (p : Nat) (i : Instr) (l n x y z : Nat) : Nat × zE := (p, ((i, l), n, (x, y, z), (0, 0), []))
def zcal (p : Nat) (i : Instr) (l n x y z c : Nat) : Nat × zE := (p, ((i, l), n, (x, y, z), (0, 0), [c]))
def zev32 (p : Nat) (i : Instr) (l n : Nat) (v : Int32) : Nat × zE := (p, ((i, l), n, (0, 0, 0), (v, 0), []))
def zev64 (p : Nat) (i : Instr) (l n : Nat) (w : Int64) : Nat × zE := (p, ((i, l), n, (0, 0, 0), (0, w), []))
/-- NotWhereYesterday$Chooser.<init>(LNotWhereYesterday$House;LNotWhereYesterday$State;LNotWhereYesterday$Watch;)V -/
def zt_0 : zT := [ze0 0 (.aload_n 0) 1 1, zcal 1 (.invokespecial 3) 3 4 0 1 5 0, ze0 4 (.aload_n 0) 1 5, zev32 5 (.bipush 10) 2 7 10, zex 7 (.newarray .int) 2 9 20 0 0, zex 9 (.putfield 9) 3 12 0 0 2,
  ze0 12 (.aload_n 0) 1 13, zev32 13 (.bipush 100) 2 15 100, zex 15 (.newarray .int) 2 17 20 0 0, zex 17 (.putfield 15) 3 20 0 4 2, ze0 20 (.aload_n 0) 1 21, zev32 21 (.bipush 100) 2 23 100,
  zex 23 (.newarray .int) 2 25 20 0 0, zex 25 (.putfield 18) 3 28 0 5 2, ze0 28 (.aload_n 0) 1 29, zev32 29 (.bipush 10) 2 31 10, zex 31 (.newarray .int) 2 33 20 0 0, zex 33 (.putfield 21) 3 36 0 6 2,
  ze0 36 (.aload_n 0) 1 37, zev32 37 (.bipush 121) 2 39 121, zex 39 (.newarray .int) 2 41 20 0 0, zex 41 (.putfield 24) 3 44 0 7 2, ze0 44 (.aload_n 0) 1 45, zev32 45 (.ldc 27) 2 47 112640,
  zex 47 (.newarray .int) 2 49 20 0 0, zex 49 (.putfield 28) 3 52 0 8 2, ze0 52 (.aload_n 0) 1 53, zev32 53 (.bipush 10) 2 55 10, zex 55 (.newarray .int) 2 57 20 0 0, zex 57 (.putfield 31) 3 60 0 9 2,
  ze0 60 (.aload_n 0) 1 61, ze0 61 (.aload_n 1) 1 62, zex 62 (.putfield 34) 3 65 0 1 2, ze0 65 (.aload_n 0) 1 66, ze0 66 (.aload_n 2) 1 67, zex 67 (.putfield 38) 3 70 0 2 2,
  ze0 70 (.aload_n 0) 1 71, ze0 71 (.aload_n 3) 1 72, zex 72 (.putfield 42) 3 75 0 3 2, ze0 75 .return_ 1 76]
def zm_0 : zMi := ((yX0_init, cX0_init, 4, none), (0, 4, 1), zt_0, [])
/-- NotWhereYesterday$Chooser.load(II)V -/
def zt_1 : zT := [zev32 0 (.iconst 0) 1 1 0, ze0 1 (.istore_n 3) 1 2, ze0 2 (.iload_n 3) 1 3, ze0 3 (.aload_n 0) 1 4, zex 4 (.getfield 34) 3 7 0 1 2, zex 7 (.getfield 46) 3 10 1 1 0,
  zex 10 (.if_icmp .ge 58) 3 13 68 0 0, ze0 13 (.aload_n 0) 1 14, zex 14 (.getfield 21) 3 17 0 6 2, ze0 17 (.iload_n 3) 1 18, zev32 18 (.iconst 0) 1 19 0, ze0 19 .iastore 1 20,
  zev32 20 (.iconst 0) 1 21 0, ze0 21 (.istore 4) 2 23, ze0 23 (.iload 4) 2 25, ze0 25 (.aload_n 0) 1 26, zex 26 (.getfield 34) 3 29 0 1 2, zex 29 (.getfield 52) 3 32 1 0 0,
  zex 32 (.if_icmp .ge 30) 3 35 62 0 0, ze0 35 (.aload_n 0) 1 36, zex 36 (.getfield 15) 3 39 0 4 2, ze0 39 (.iload_n 3) 1 40, zev32 40 (.bipush 10) 2 42 10, ze0 42 .imul 1 43,
  ze0 43 (.iload 4) 2 45, ze0 45 .iadd 1 46, ze0 46 (.aload_n 0) 1 47, ze0 47 (.iload 4) 2 49, ze0 49 (.iload_n 3) 1 50, ze0 50 (.iload_n 1) 1 51,
  ze0 51 (.iload_n 2) 1 52, zcal 52 (.invokevirtual 55) 3 55 2 5 0 0, ze0 55 .iastore 1 56, zev32 56 (.iinc 4 1) 3 59 1, zex 59 (.goto (-36)) 3 62 23 0 0, zev32 62 (.iinc 3 1) 3 65 1,
  zex 65 (.goto (-63)) 3 68 2 0 0, zev32 68 (.iconst 0) 1 69 0, ze0 69 (.istore_n 3) 1 70, ze0 70 (.iload_n 3) 1 71, ze0 71 (.aload_n 0) 1 72, zex 72 (.getfield 34) 3 75 0 1 2,
  zex 75 (.getfield 52) 3 78 1 0 0, zex 78 (.if_icmp .ge 113) 3 81 191 0 0, ze0 81 (.aload_n 0) 1 82, zex 82 (.getfield 42) 3 85 0 3 2, ze0 85 (.iload_n 3) 1 86, ze0 86 (.aload_n 0) 1 87,
  zex 87 (.getfield 38) 3 90 0 2 2, zex 90 (.getfield 59) 3 93 6 6 0, zcal 93 (.invokevirtual 64) 3 96 94 3 0 7, ze0 96 (.istore 4) 2 98, zev32 98 (.iconst 0) 1 99 0, ze0 99 (.istore 5) 2 101,
  ze0 101 (.iload 5) 2 103, ze0 103 (.aload_n 0) 1 104, zex 104 (.getfield 34) 3 107 0 1 2, zex 107 (.getfield 52) 3 110 1 0 0, zex 110 (.if_icmp .ge 75) 3 113 185 0 0, ze0 113 (.iload 4) 2 115,
  ze0 115 (.iload 5) 2 117, ze0 117 .ishr 1 118, zev32 118 (.iconst 1) 1 119 1, ze0 119 .iand 1 120, zex 120 (.ifCond .eq 19) 3 123 139 0 0, ze0 123 (.iload_n 1) 1 124,
  zev32 124 (.iconst (-1)) 1 125 (-1), zex 125 (.if_icmp .eq 14) 3 128 139 0 0, ze0 128 (.iload_n 1) 1 129, ze0 129 (.iload_n 3) 1 130, zex 130 (.if_icmp .eq 9) 3 133 139 0 0, ze0 133 (.iload_n 1) 1 134,
  ze0 134 (.iload 5) 2 136, zex 136 (.if_icmp .ne 7) 3 139 143 0 0, zev32 139 (.iconst 1) 1 140 1, zex 140 (.goto 4) 3 143 144 0 0, zev32 143 (.iconst 0) 1 144 0, ze0 144 (.istore 6) 2 146,
  ze0 146 (.aload_n 0) 1 147, zex 147 (.getfield 18) 3 150 0 5 2, ze0 150 (.iload_n 3) 1 151, zev32 151 (.bipush 10) 2 153 10, ze0 153 .imul 1 154, ze0 154 (.iload 5) 2 156,
  ze0 156 .iadd 1 157, ze0 157 (.iload 6) 2 159, zex 159 (.ifCond .eq 7) 3 162 166 0 0, zev32 162 (.iconst 0) 1 163 0, zex 163 (.goto 15) 3 166 178 0 0, ze0 166 (.iload_n 2) 1 167,
  zev32 167 (.iconst (-1)) 1 168 (-1), zex 168 (.if_icmp .ne 8) 3 171 176 0 0, zev32 171 (.ldc 70) 2 173 (-1000000), zex 173 (.goto 5) 3 176 178 0 0, ze0 176 (.iload_n 2) 1 177, ze0 177 .ineg 1 178,
  ze0 178 .iastore 1 179, zev32 179 (.iinc 5 1) 3 182 1, zex 182 (.goto (-81)) 3 185 101 0 0, zev32 185 (.iinc 3 1) 3 188 1, zex 188 (.goto (-118)) 3 191 70 0 0, ze0 191 .return_ 1 192]
def zm_1 : zMi := ((yX0_load, cX0_load, 7, none), (0, 3, 4), zt_1, [(2, [0, 1, 2, 3]), (23, [0, 1, 2, 3, 4]), (70, [0, 1, 2, 3]), (101, [0, 1, 2, 3, 4, 5]), (139, [0, 1, 2, 3, 4, 5]), (144, [0, 1, 2, 3, 4, 5]), (178, [0, 1, 2, 3, 4, 5])])
/-- NotWhereYesterday$Chooser.scoreOf(IIII)I -/
def zt_2 : zT := [ze0 0 (.aload_n 0) 1 1, zex 1 (.getfield 42) 3 4 0 3 2, ze0 4 (.iload_n 1) 1 5, ze0 5 (.iload_n 2) 1 6, zcal 6 (.invokevirtual 71) 3 9 95 3 0 7, zex 9 (.ifCond .ne 6) 3 12 15 0 0,
  zev32 12 (.ldc 70) 2 14 (-1000000), ze0 14 .ireturn 1 15, ze0 15 (.aload_n 0) 1 16, zex 16 (.getfield 34) 3 19 0 1 2, ze0 19 (.iload_n 2) 1 20, zcal 20 (.invokevirtual 75) 3 23 16 2 0 1,
  ze0 23 (.istore 5) 2 25, ze0 25 (.aload_n 0) 1 26, zex 26 (.getfield 42) 3 29 0 3 2, ze0 29 (.iload_n 1) 1 30, ze0 30 (.iload_n 2) 1 31, ze0 31 (.aload_n 0) 1 32,
  zex 32 (.getfield 38) 3 35 0 2 2, zex 35 (.getfield 59) 3 38 6 6 0, zcal 38 (.invokevirtual 79) 3 41 92 4 0 7, ze0 41 (.istore 6) 2 43, ze0 43 (.iload 6) 2 45, zev32 45 (.iconst 1) 1 46 1,
  zex 46 (.if_icmp .ne 6) 3 49 52 0 0, zev32 49 (.ldc 70) 2 51 (-1000000), ze0 51 .ireturn 1 52, ze0 52 (.iload 6) 2 54, zex 54 (.ifCond .eq 13) 3 57 67 0 0, ze0 57 (.iload_n 3) 1 58,
  zev32 58 (.iconst (-1)) 1 59 (-1), zex 59 (.if_icmp .eq 8) 3 62 67 0 0, ze0 62 (.iload_n 3) 1 63, ze0 63 (.iload_n 1) 1 64, zex 64 (.if_icmp .ne 6) 3 67 70 0 0, ze0 67 (.iload 5) 2 69,
  ze0 69 .ireturn 1 70, ze0 70 (.iload 4) 2 72, zev32 72 (.iconst (-1)) 1 73 (-1), zex 73 (.if_icmp .ne 8) 3 76 81 0 0, zev32 76 (.ldc 70) 2 78 (-1000000), zex 78 (.goto 8) 3 81 86 0 0,
  ze0 81 (.iload 5) 2 83, ze0 83 (.iload 4) 2 85, ze0 85 .isub 1 86, ze0 86 .ireturn 1 87]
def zm_2 : zMi := ((yX0_scoreOf, cX0_scoreOf, 7, (some .int)), (0, 5, 3), zt_2, [(67, [5]), (86, [])])
/-- NotWhereYesterday$Chooser.preferDraft(I)V -/
def zt_3 : zT := [zev32 0 (.iconst 0) 1 1 0, ze0 1 (.istore_n 2) 1 2, ze0 2 (.iload_n 2) 1 3, ze0 3 (.aload_n 0) 1 4, zex 4 (.getfield 34) 3 7 0 1 2, zex 7 (.getfield 46) 3 10 1 1 0,
  zex 10 (.if_icmp .ge 130) 3 13 140 0 0, ze0 13 (.aload_n 0) 1 14, zex 14 (.getfield 38) 3 17 0 2 2, ze0 17 (.aload_n 0) 1 18, zex 18 (.getfield 38) 3 21 0 2 2, zex 21 (.getfield 59) 3 24 6 6 0,
  ze0 24 (.iload_n 2) 1 25, zcal 25 (.invokevirtual 83) 3 28 80 3 0 6, ze0 28 (.istore_n 3) 1 29, ze0 29 (.aload_n 0) 1 30, zex 30 (.getfield 21) 3 33 0 6 2, ze0 33 (.iload_n 2) 1 34,
  ze0 34 (.iload_n 3) 1 35, zev32 35 (.iconst (-1)) 1 36 (-1), zex 36 (.if_icmp .ne 7) 3 39 43 0 0, zev32 39 (.iconst 1) 1 40 1, zex 40 (.goto 4) 3 43 44 0 0, zev32 43 (.iconst 0) 1 44 0,
  ze0 44 .iastore 1 45, zev32 45 (.iconst 0) 1 46 0, ze0 46 (.istore 4) 2 48, ze0 48 (.iload 4) 2 50, ze0 50 (.aload_n 0) 1 51, zex 51 (.getfield 34) 3 54 0 1 2,
  zex 54 (.getfield 52) 3 57 1 0 0, zex 57 (.if_icmp .ge 77) 3 60 134 0 0, ze0 60 (.iload_n 2) 1 61, zev32 61 (.bipush 10) 2 63 10, ze0 63 .imul 1 64, ze0 64 (.iload 4) 2 66,
  ze0 66 .iadd 1 67, ze0 67 (.istore 5) 2 69, ze0 69 (.iload 4) 2 71, ze0 71 (.iload_n 1) 1 72, zex 72 (.if_icmp .ne 15) 3 75 87 0 0, ze0 75 (.aload_n 0) 1 76,
  zex 76 (.getfield 15) 3 79 0 4 2, ze0 79 (.iload 5) 2 81, zev32 81 (.ldc 70) 2 83 (-1000000), ze0 83 .iastore 1 84, zex 84 (.goto 44) 3 87 128 0 0, ze0 87 (.aload_n 0) 1 88,
  zex 88 (.getfield 15) 3 91 0 4 2, ze0 91 (.iload 5) 2 93, ze0 93 .iaload 1 94, zev32 94 (.ldc 70) 2 96 (-1000000), zex 96 (.if_icmp .eq 32) 3 99 128 0 0, ze0 99 (.aload_n 0) 1 100,
  zex 100 (.getfield 15) 3 103 0 4 2, ze0 103 (.iload 5) 2 105, ze0 105 (.aload_n 0) 1 106, zex 106 (.getfield 15) 3 109 0 4 2, ze0 109 (.iload 5) 2 111, ze0 111 .iaload 1 112,
  zev32 112 (.bipush 16) 2 114 16, ze0 114 .imul 1 115, ze0 115 (.iload_n 3) 1 116, ze0 116 (.iload 4) 2 118, zex 118 (.if_icmp .ne 7) 3 121 125 0 0, zev32 121 (.iconst 1) 1 122 1,
  zex 122 (.goto 4) 3 125 126 0 0, zev32 125 (.iconst 0) 1 126 0, ze0 126 .iadd 1 127, ze0 127 .iastore 1 128, zev32 128 (.iinc 4 1) 3 131 1, zex 131 (.goto (-83)) 3 134 48 0 0,
  zev32 134 (.iinc 2 1) 3 137 1, zex 137 (.goto (-135)) 3 140 2 0 0, ze0 140 .return_ 1 141]
def zm_3 : zMi := ((yX0_preferDraft, cX0_preferDraft, 6, none), (0, 2, 2), zt_3, [(2, [0, 1, 2]), (44, [0, 1, 2, 3]), (48, [0, 1, 2, 3, 4]), (126, [0, 1, 2, 3, 4]), (128, [0, 1, 2, 3, 4])])
/-- NotWhereYesterday$Chooser.greatest()I -/
def zt_4 : zT := [ze0 0 (.aload_n 0) 1 1, zcal 1 (.invokevirtual 86) 3 4 8 1 1 0, ze0 4 (.aload_n 0) 1 5, ze0 5 .dup 1 6, zex 6 (.getfield 89) 3 9 0 10 0, zev32 9 (.iconst 1) 1 10 1,
  ze0 10 .iadd 1 11, zex 11 (.putfield 89) 3 14 0 10 0, ze0 14 (.aload_n 0) 1 15, zex 15 (.getfield 89) 3 18 0 10 0, zev32 18 (.sipush 8191) 3 21 8191, zex 21 (.if_icmp .le 16) 3 24 37 0 0,
  ze0 24 (.aload_n 0) 1 25, zex 25 (.getfield 28) 3 28 0 8 2, zev32 28 (.iconst 0) 1 29 0, zcal 29 (.invokestatic 92) 3 32 290 2 1 14, ze0 32 (.aload_n 0) 1 33, zev32 33 (.iconst 1) 1 34 1,
  zex 34 (.putfield 89) 3 37 0 10 0, ze0 37 (.aload_n 0) 1 38, zev32 38 (.iconst 0) 1 39 0, zev32 39 (.iconst 0) 1 40 0, zev32 40 (.bipush 10) 2 42 10, zcal 42 (.invokevirtual 98) 3 45 9 4 0 0,
  ze0 45 .ireturn 1 46]
def zm_4 : zMi := ((yX0_greatest, cX0_greatest, 1, (some .int)), (0, 1, 3), zt_4, [(37, [0])])
/-- NotWhereYesterday$Chooser.choose()I -/
def zt_5 : zT := [ze0 0 (.aload_n 0) 1 1, zcal 1 (.invokevirtual 101) 3 4 4 1 0 0, ze0 4 (.istore_n 1) 1 5, ze0 5 (.iload_n 1) 1 6, ze0 6 (.istore_n 2) 1 7, zev32 7 (.iconst 0) 1 8 0,
  ze0 8 (.istore_n 3) 1 9, zev32 9 (.bipush 10) 2 11 10, ze0 11 (.istore 4) 2 13, zev32 13 (.iconst 0) 1 14 0, ze0 14 (.istore 5) 2 16, ze0 16 (.iload 5) 2 18,
  ze0 18 (.aload_n 0) 1 19, zex 19 (.getfield 34) 3 22 0 1 2, zex 22 (.getfield 46) 3 25 1 1 0, zex 25 (.if_icmp .ge 77) 3 28 102 0 0, ze0 28 (.aload_n 0) 1 29, ze0 29 (.iload 5) 2 31,
  ze0 31 (.iload_n 3) 1 32, ze0 32 (.iload 4) 2 34, ze0 34 (.iload_n 2) 1 35, zcal 35 (.invokevirtual 105) 3 38 6 5 0 0, ze0 38 (.istore 6) 2 40, ze0 40 (.aload_n 0) 1 41,
  zex 41 (.getfield 9) 3 44 0 0 2, ze0 44 (.iload 5) 2 46, ze0 46 (.iload 6) 2 48, ze0 48 .iastore 1 49, ze0 49 (.iload 6) 2 51, zev32 51 (.iconst (-1)) 1 52 (-1),
  zex 52 (.if_icmp .ne 20) 3 55 72 0 0, ze0 55 (.iload_n 2) 1 56, ze0 56 (.aload_n 0) 1 57, zex 57 (.getfield 21) 3 60 0 6 2, ze0 60 (.iload 5) 2 62, ze0 62 .iaload 1 63,
  ze0 63 .isub 1 64, ze0 64 (.istore_n 2) 1 65, zev32 65 (.bipush 10) 2 67 10, ze0 67 (.istore 4) 2 69, zex 69 (.goto 27) 3 72 96 0 0, ze0 72 (.iload_n 2) 1 73,
  ze0 73 (.aload_n 0) 1 74, ze0 74 (.iload 5) 2 76, ze0 76 (.iload 6) 2 78, ze0 78 (.iload 4) 2 80, zcal 80 (.invokevirtual 108) 3 83 7 4 0 0, ze0 83 .isub 1 84,
  ze0 84 (.istore_n 2) 1 85, ze0 85 (.iload_n 3) 1 86, zev32 86 (.iconst 1) 1 87 1, ze0 87 (.iload 6) 2 89, ze0 89 .ishl 1 90, ze0 90 .ior 1 91,
  ze0 91 (.istore_n 3) 1 92, ze0 92 (.iload 6) 2 94, ze0 94 (.istore 4) 2 96, zev32 96 (.iinc 5 1) 3 99 1, zex 99 (.goto (-83)) 3 102 16 0 0, ze0 102 (.iload_n 1) 1 103,
  ze0 103 .ireturn 1 104]
def zm_5 : zMi := ((yX0_choose, cX0_choose, 7, (some .int)), (0, 1, 4), zt_5, [(16, [0, 1, 2, 3, 4, 5]), (96, [0, 1, 2, 3, 4, 5])])
/-- NotWhereYesterday$Chooser.leastOne(IIII)I -/
def zt_6 : zT := [ze0 0 (.aload_n 0) 1 1, zex 1 (.getfield 21) 3 4 0 6 2, ze0 4 (.iload_n 1) 1 5, ze0 5 .iaload 1 6, ze0 6 (.aload_n 0) 1 7, ze0 7 (.iload_n 1) 1 8,
  zev32 8 (.iconst 1) 1 9 1, ze0 9 .iadd 1 10, ze0 10 (.iload_n 2) 1 11, zev32 11 (.bipush 10) 2 13 10, zcal 13 (.invokevirtual 98) 3 16 9 4 0 0, ze0 16 .iadd 1 17,
  ze0 17 (.iload 4) 2 19, zex 19 (.if_icmp .ne 5) 3 22 24 0 0, zev32 22 (.iconst (-1)) 1 23 (-1), ze0 23 .ireturn 1 24, zev32 24 (.iconst 0) 1 25 0, ze0 25 (.istore 5) 2 27,
  ze0 27 (.iload 5) 2 29, ze0 29 (.aload_n 0) 1 30, zex 30 (.getfield 34) 3 33 0 1 2, zex 33 (.getfield 52) 3 36 1 0 0, zex 36 (.if_icmp .ge 66) 3 39 102 0 0, ze0 39 (.iload_n 2) 1 40,
  ze0 40 (.iload 5) 2 42, ze0 42 .ishr 1 43, zev32 43 (.iconst 1) 1 44 1, ze0 44 .iand 1 45, zex 45 (.ifCond .eq 8) 3 48 53 0 0, zev32 48 (.ldc 70) 2 50 (-1000000),
  zex 50 (.goto 11) 3 53 61 0 0, ze0 53 (.aload_n 0) 1 54, ze0 54 (.iload_n 1) 1 55, ze0 55 (.iload 5) 2 57, ze0 57 (.iload_n 3) 1 58, zcal 58 (.invokevirtual 108) 3 61 7 4 0 0,
  ze0 61 (.istore 6) 2 63, ze0 63 (.iload 6) 2 65, zev32 65 (.ldc 70) 2 67 (-1000000), zex 67 (.if_icmp .eq 29) 3 70 96 0 0, ze0 70 (.iload 6) 2 72, ze0 72 (.aload_n 0) 1 73,
  ze0 73 (.iload_n 1) 1 74, zev32 74 (.iconst 1) 1 75 1, ze0 75 .iadd 1 76, ze0 76 (.iload_n 2) 1 77, zev32 77 (.iconst 1) 1 78 1, ze0 78 (.iload 5) 2 80,
  ze0 80 .ishl 1 81, ze0 81 .ior 1 82, ze0 82 (.iload 5) 2 84, zcal 84 (.invokevirtual 98) 3 87 9 4 0 0, ze0 87 .iadd 1 88, ze0 88 (.iload 4) 2 90,
  zex 90 (.if_icmp .ne 6) 3 93 96 0 0, ze0 93 (.iload 5) 2 95, ze0 95 .ireturn 1 96, zev32 96 (.iinc 5 1) 3 99 1, zex 99 (.goto (-72)) 3 102 27 0 0, zev32 102 (.iconst (-1)) 1 103 (-1),
  ze0 103 .ireturn 1 104]
def zm_6 : zMi := ((yX0_leastOne, cX0_leastOne, 7, (some .int)), (0, 5, 3), zt_6, [(27, [0, 1, 2, 3, 4, 5]), (61, [0, 1, 2, 3, 4, 5]), (96, [0, 1, 2, 3, 4, 5])])
/-- NotWhereYesterday$Chooser.gain(III)I -/
def zt_7 : zT := [ze0 0 (.aload_n 0) 1 1, zex 1 (.getfield 15) 3 4 0 4 2, ze0 4 (.iload_n 1) 1 5, zev32 5 (.bipush 10) 2 7 10, ze0 7 .imul 1 8, ze0 8 (.iload_n 2) 1 9,
  ze0 9 .iadd 1 10, ze0 10 .iaload 1 11, ze0 11 (.istore 4) 2 13, ze0 13 (.iload 4) 2 15, zev32 15 (.ldc 70) 2 17 (-1000000), zex 17 (.if_icmp .eq 13) 3 20 30 0 0,
  ze0 20 (.iload_n 3) 1 21, zex 21 (.ifCond .lt 9) 3 24 30 0 0, ze0 24 (.iload_n 3) 1 25, zev32 25 (.bipush 10) 2 27 10, zex 27 (.if_icmp .lt 6) 3 30 33 0 0, ze0 30 (.iload 4) 2 32,
  ze0 32 .ireturn 1 33, ze0 33 (.aload_n 0) 1 34, zex 34 (.getfield 18) 3 37 0 5 2, ze0 37 (.iload_n 3) 1 38, zev32 38 (.bipush 10) 2 40 10, ze0 40 .imul 1 41,
  ze0 41 (.iload_n 2) 1 42, ze0 42 .iadd 1 43, ze0 43 .iaload 1 44, ze0 44 (.istore 5) 2 46, ze0 46 (.iload 5) 2 48, zev32 48 (.ldc 70) 2 50 (-1000000),
  zex 50 (.if_icmp .ne 8) 3 53 58 0 0, zev32 53 (.ldc 70) 2 55 (-1000000), zex 55 (.goto 8) 3 58 63 0 0, ze0 58 (.iload 4) 2 60, ze0 60 (.iload 5) 2 62, ze0 62 .iadd 1 63,
  ze0 63 .ireturn 1 64]
def zm_7 : zMi := ((yX0_gain, cX0_gain, 6, (some .int)), (0, 4, 1), zt_7, [(30, [4]), (63, [])])
/-- NotWhereYesterday$Chooser.raiseCeiling()V -/
def zt_8 : zT := [zev32 0 (.iconst 0) 1 1 0, ze0 1 (.istore_n 1) 1 2, ze0 2 (.iload_n 1) 1 3, zev32 3 (.bipush 10) 2 5 10, zex 5 (.if_icmp .gt 27) 3 8 32 0 0, ze0 8 (.aload_n 0) 1 9,
  zex 9 (.getfield 24) 3 12 0 7 2, ze0 12 (.aload_n 0) 1 13, zex 13 (.getfield 34) 3 16 0 1 2, zex 16 (.getfield 46) 3 19 1 1 0, zev32 19 (.bipush 11) 2 21 11, ze0 21 .imul 1 22,
  ze0 22 (.iload_n 1) 1 23, ze0 23 .iadd 1 24, zev32 24 (.iconst 0) 1 25 0, ze0 25 .iastore 1 26, zev32 26 (.iinc 1 1) 3 29 1, zex 29 (.goto (-27)) 3 32 2 0 0,
  ze0 32 (.aload_n 0) 1 33, zex 33 (.getfield 34) 3 36 0 1 2, zex 36 (.getfield 46) 3 39 1 1 0, zev32 39 (.iconst 1) 1 40 1, ze0 40 .isub 1 41, ze0 41 (.istore_n 1) 1 42,
  ze0 42 (.iload_n 1) 1 43, zex 43 (.ifCond .lt 133) 3 46 176 0 0, ze0 46 (.aload_n 0) 1 47, zex 47 (.getfield 21) 3 50 0 6 2, ze0 50 (.iload_n 1) 1 51, ze0 51 .iaload 1 52,
  ze0 52 (.istore_n 2) 1 53, zev32 53 (.iconst 0) 1 54 0, ze0 54 (.istore_n 3) 1 55, ze0 55 (.iload_n 3) 1 56, ze0 56 (.aload_n 0) 1 57, zex 57 (.getfield 34) 3 60 0 1 2,
  zex 60 (.getfield 52) 3 63 1 0 0, zex 63 (.if_icmp .ge 25) 3 66 88 0 0, ze0 66 (.iload_n 2) 1 67, ze0 67 (.aload_n 0) 1 68, zex 68 (.getfield 15) 3 71 0 4 2, ze0 71 (.iload_n 1) 1 72,
  zev32 72 (.bipush 10) 2 74 10, ze0 74 .imul 1 75, ze0 75 (.iload_n 3) 1 76, ze0 76 .iadd 1 77, ze0 77 .iaload 1 78, zcal 78 (.invokestatic 111) 3 81 0 2 8 0,
  ze0 81 (.istore_n 2) 1 82, zev32 82 (.iinc 3 1) 3 85 1, zex 85 (.goto (-30)) 3 88 55 0 0, zev32 88 (.iconst 0) 1 89 0, ze0 89 (.istore_n 3) 1 90, ze0 90 (.iload_n 3) 1 91,
  zev32 91 (.bipush 10) 2 93 10, zex 93 (.if_icmp .gt 77) 3 96 170 0 0, ze0 96 (.aload_n 0) 1 97, zex 97 (.getfield 21) 3 100 0 6 2, ze0 100 (.iload_n 1) 1 101, ze0 101 .iaload 1 102,
  ze0 102 (.aload_n 0) 1 103, zex 103 (.getfield 24) 3 106 0 7 2, ze0 106 (.iload_n 1) 1 107, zev32 107 (.iconst 1) 1 108 1, ze0 108 .iadd 1 109, zev32 109 (.bipush 11) 2 111 11,
  ze0 111 .imul 1 112, ze0 112 (.iload_n 3) 1 113, ze0 113 .iadd 1 114, ze0 114 .iaload 1 115, ze0 115 .iadd 1 116, ze0 116 (.istore 4) 2 118,
  ze0 118 (.iload_n 3) 1 119, zex 119 (.ifCond .ne 8) 3 122 127 0 0, ze0 122 (.iload 4) 2 124, zex 124 (.goto 20) 3 127 144 0 0, ze0 127 (.iload_n 2) 1 128, ze0 128 (.aload_n 0) 1 129,
  zex 129 (.getfield 24) 3 132 0 7 2, ze0 132 (.iload_n 1) 1 133, zev32 133 (.iconst 1) 1 134 1, ze0 134 .iadd 1 135, zev32 135 (.bipush 11) 2 137 11, ze0 137 .imul 1 138,
  ze0 138 (.iload_n 3) 1 139, ze0 139 .iadd 1 140, zev32 140 (.iconst 1) 1 141 1, ze0 141 .isub 1 142, ze0 142 .iaload 1 143, ze0 143 .iadd 1 144,
  ze0 144 (.istore 5) 2 146, ze0 146 (.aload_n 0) 1 147, zex 147 (.getfield 24) 3 150 0 7 2, ze0 150 (.iload_n 1) 1 151, zev32 151 (.bipush 11) 2 153 11, ze0 153 .imul 1 154,
  ze0 154 (.iload_n 3) 1 155, ze0 155 .iadd 1 156, ze0 156 (.iload 4) 2 158, ze0 158 (.iload 5) 2 160, zcal 160 (.invokestatic 111) 3 163 0 2 8 0, ze0 163 .iastore 1 164,
  zev32 164 (.iinc 3 1) 3 167 1, zex 167 (.goto (-77)) 3 170 90 0 0, zev32 170 (.iinc 1 (-1)) 3 173 (-1), zex 173 (.goto (-131)) 3 176 42 0 0, ze0 176 .return_ 1 177]
def zm_8 : zMi := ((yX0_raiseCeiling, cX0_raiseCeiling, 6, none), (0, 1, 1), zt_8, [(2, [0, 1]), (42, [0, 1]), (55, [0, 1, 2, 3]), (90, [0, 1, 2, 3]), (144, [0, 1, 2, 3, 4])])
/-- NotWhereYesterday$Chooser.value(III)I -/
def zt_9 : zT := [ze0 0 (.iload_n 1) 1 1, zex 1 (.ifCond .lt 25) 3 4 26 0 0, ze0 4 (.iload_n 1) 1 5, ze0 5 (.aload_n 0) 1 6, zex 6 (.getfield 34) 3 9 0 1 2, zex 9 (.getfield 46) 3 12 1 1 0,
  zex 12 (.if_icmp .ge 14) 3 15 26 0 0, ze0 15 (.iload_n 2) 1 16, zex 16 (.ifCond .lt 10) 3 19 26 0 0, ze0 19 (.iload_n 2) 1 20, zev32 20 (.sipush 1024) 3 23 1024, zex 23 (.if_icmp .lt 5) 3 26 28 0 0,
  zev32 26 (.iconst 0) 1 27 0, ze0 27 .ireturn 1 28, ze0 28 (.iload_n 1) 1 29, zev32 29 (.sipush 1024) 3 32 1024, ze0 32 .imul 1 33, ze0 33 (.iload_n 2) 1 34,
  ze0 34 .iadd 1 35, zev32 35 (.bipush 11) 2 37 11, ze0 37 .imul 1 38, ze0 38 (.iload_n 3) 1 39, ze0 39 .iadd 1 40, ze0 40 (.istore 4) 2 42,
  ze0 42 (.iload 4) 2 44, zex 44 (.ifCond .lt 13) 3 47 57 0 0, ze0 47 (.iload 4) 2 49, ze0 49 (.aload_n 0) 1 50, zex 50 (.getfield 28) 3 53 0 8 2, ze0 53 .arraylength 1 54,
  zex 54 (.if_icmp .lt 5) 3 57 59 0 0, zev32 57 (.iconst 0) 1 58 0, ze0 58 .ireturn 1 59, ze0 59 (.aload_n 0) 1 60, zex 60 (.getfield 28) 3 63 0 8 2, ze0 63 (.iload 4) 2 65,
  ze0 65 .iaload 1 66, zev32 66 (.bipush 18) 2 68 18, ze0 68 .iushr 1 69, ze0 69 (.aload_n 0) 1 70, zex 70 (.getfield 89) 3 73 0 10 0, zex 73 (.if_icmp .ne 14) 3 76 87 0 0,
  ze0 76 (.aload_n 0) 1 77, zex 77 (.getfield 28) 3 80 0 8 2, ze0 80 (.iload 4) 2 82, ze0 82 .iaload 1 83, zev32 83 (.ldc 116) 2 85 262143, ze0 85 .iand 1 86,
  ze0 86 .ireturn 1 87, ze0 87 (.aload_n 0) 1 88, zex 88 (.getfield 34) 3 91 0 1 2, zex 91 (.getfield 52) 3 94 1 0 0, ze0 94 (.iload_n 2) 1 95, zcal 95 (.invokestatic 117) 3 98 288 1 0 11,
  ze0 98 .isub 1 99, ze0 99 (.istore 5) 2 101, zev32 101 (.iconst (-1)) 1 102 (-1), ze0 102 (.istore 6) 2 104, zev32 104 (.iconst 0) 1 105 0, ze0 105 (.istore 7) 2 107,
  ze0 107 (.iload 7) 2 109, ze0 109 (.aload_n 0) 1 110, zex 110 (.getfield 34) 3 113 0 1 2, zex 113 (.getfield 52) 3 116 1 0 0, zex 116 (.if_icmp .ge 94) 3 119 210 0 0, ze0 119 (.iload 5) 2 121,
  zex 121 (.ifCond .le 89) 3 124 210 0 0, ze0 124 (.iload_n 2) 1 125, ze0 125 (.iload 7) 2 127, ze0 127 .ishr 1 128, zev32 128 (.iconst 1) 1 129 1, ze0 129 .iand 1 130,
  zex 130 (.ifCond .eq 8) 3 133 138 0 0, zev32 133 (.ldc 70) 2 135 (-1000000), zex 135 (.goto 11) 3 138 146 0 0, ze0 138 (.aload_n 0) 1 139, ze0 139 (.iload_n 1) 1 140, ze0 140 (.iload 7) 2 142,
  ze0 142 (.iload_n 3) 1 143, zcal 143 (.invokevirtual 108) 3 146 7 4 0 0, ze0 146 (.istore 8) 2 148, ze0 148 (.iload 8) 2 150, zev32 150 (.ldc 70) 2 152 (-1000000), zex 152 (.if_icmp .eq 52) 3 155 204 0 0,
  ze0 155 (.iload 8) 2 157, ze0 157 (.aload_n 0) 1 158, zex 158 (.getfield 24) 3 161 0 7 2, ze0 161 (.iload_n 1) 1 162, zev32 162 (.iconst 1) 1 163 1, ze0 163 .iadd 1 164,
  zev32 164 (.bipush 11) 2 166 11, ze0 166 .imul 1 167, ze0 167 (.iload 5) 2 169, ze0 169 .iadd 1 170, zev32 170 (.iconst 1) 1 171 1, ze0 171 .isub 1 172,
  ze0 172 .iaload 1 173, ze0 173 .iadd 1 174, ze0 174 (.iload 6) 2 176, zex 176 (.if_icmp .le 28) 3 179 204 0 0, ze0 179 (.iload 6) 2 181, ze0 181 (.iload 8) 2 183,
  ze0 183 (.aload_n 0) 1 184, ze0 184 (.iload_n 1) 1 185, zev32 185 (.iconst 1) 1 186 1, ze0 186 .iadd 1 187, ze0 187 (.iload_n 2) 1 188, zev32 188 (.iconst 1) 1 189 1,
  ze0 189 (.iload 7) 2 191, ze0 191 .ishl 1 192, ze0 192 .ior 1 193, ze0 193 (.iload 7) 2 195, zcal 195 (.invokevirtual 98) 3 198 9 4 2 0, ze0 198 .iadd 1 199,
  zcal 199 (.invokestatic 111) 3 202 0 2 8 0, ze0 202 (.istore 6) 2 204, zev32 204 (.iinc 7 1) 3 207 1, zex 207 (.goto (-100)) 3 210 107 0 0, ze0 210 (.iload 5) 2 212, zex 212 (.ifCond .lt 53) 3 215 265 0 0,
  ze0 215 (.aload_n 0) 1 216, zex 216 (.getfield 21) 3 219 0 6 2, ze0 219 (.iload_n 1) 1 220, ze0 220 .iaload 1 221, ze0 221 (.aload_n 0) 1 222, zex 222 (.getfield 24) 3 225 0 7 2,
  ze0 225 (.iload_n 1) 1 226, zev32 226 (.iconst 1) 1 227 1, ze0 227 .iadd 1 228, zev32 228 (.bipush 11) 2 230 11, ze0 230 .imul 1 231, ze0 231 (.iload 5) 2 233,
  ze0 233 .iadd 1 234, ze0 234 .iaload 1 235, ze0 235 .iadd 1 236, ze0 236 (.iload 6) 2 238, zex 238 (.if_icmp .le 27) 3 241 265 0 0, ze0 241 (.iload 6) 2 243,
  ze0 243 (.aload_n 0) 1 244, zex 244 (.getfield 21) 3 247 0 6 2, ze0 247 (.iload_n 1) 1 248, ze0 248 .iaload 1 249, ze0 249 (.aload_n 0) 1 250, ze0 250 (.iload_n 1) 1 251,
  zev32 251 (.iconst 1) 1 252 1, ze0 252 .iadd 1 253, ze0 253 (.iload_n 2) 1 254, zev32 254 (.bipush 10) 2 256 10, zcal 256 (.invokevirtual 98) 3 259 9 4 2 0, ze0 259 .iadd 1 260,
  zcal 260 (.invokestatic 111) 3 263 0 2 8 0, ze0 263 (.istore 6) 2 265, ze0 265 (.aload_n 0) 1 266, zex 266 (.getfield 28) 3 269 0 8 2, ze0 269 (.iload 4) 2 271, ze0 271 (.aload_n 0) 1 272,
  zex 272 (.getfield 89) 3 275 0 10 0, zev32 275 (.bipush 18) 2 277 18, ze0 277 .ishl 1 278, ze0 278 (.iload 6) 2 280, ze0 280 .ior 1 281, ze0 281 .iastore 1 282,
  ze0 282 (.iload 6) 2 284, ze0 284 .ireturn 1 285]
def zm_9 : zMi := ((yX0_value, cX0_value, 9, (some .int)), (0, 4, 2), zt_9, [(26, []), (57, []), (107, [0, 1, 2, 3, 4, 5, 6, 7]), (146, [0, 1, 2, 3, 4, 5, 6, 7]), (204, [0, 1, 2, 3, 4, 5, 6, 7]), (210, [0, 1, 2, 4, 5, 6]), (265, [0, 4, 6])])
/-- NotWhereYesterday$Chooser.chooseUnlikeDays()I -/
def zt_10 : zT := [ze0 0 (.aload_n 0) 1 1, zcal 1 (.invokevirtual 86) 3 4 8 1 1 0, ze0 4 (.aload_n 0) 1 5, zev32 5 (.iconst (-1)) 1 6 (-1), zex 6 (.putfield 122) 3 9 0 11 0, ze0 9 (.aload_n 0) 1 10,
  zev32 10 (.iconst 0) 1 11 0, zev32 11 (.iconst 0) 1 12 0, zev32 12 (.bipush 10) 2 14 10, zev32 14 (.iconst 0) 1 15 0, zcal 15 (.invokevirtual 125) 3 18 11 5 1 0, ze0 18 (.aload_n 0) 1 19,
  zex 19 (.getfield 122) 3 22 0 11 0, ze0 22 .ireturn 1 23]
def zm_10 : zMi := ((yX0_chooseUnlikeDays, cX0_chooseUnlikeDays, 1, (some .int)), (0, 1, 4), zt_10, [])
/-- NotWhereYesterday$Chooser.tryFrom(IIII)V -/
def zt_11 : zT := [ze0 0 (.iload_n 1) 1 1, ze0 1 (.aload_n 0) 1 2, zex 2 (.getfield 34) 3 5 0 1 2, zex 5 (.getfield 46) 3 8 1 1 0, zex 8 (.if_icmp .ge 9) 3 11 17 0 0, ze0 11 (.iload_n 1) 1 12,
  zev32 12 (.bipush 10) 2 14 10, zex 14 (.if_icmp .lt 44) 3 17 58 0 0, ze0 17 (.iload 4) 2 19, ze0 19 (.aload_n 0) 1 20, zex 20 (.getfield 122) 3 23 0 11 0, zex 23 (.if_icmp .le 34) 3 26 57 0 0,
  ze0 26 (.aload_n 0) 1 27, zcal 27 (.invokevirtual 129) 3 30 12 1 0 0, zex 30 (.ifCond .eq 27) 3 33 57 0 0, ze0 33 (.aload_n 0) 1 34, ze0 34 (.iload 4) 2 36, zex 36 (.putfield 122) 3 39 0 11 0,
  ze0 39 (.aload_n 0) 1 40, zex 40 (.getfield 31) 3 43 0 9 2, zev32 43 (.iconst 0) 1 44 0, ze0 44 (.aload_n 0) 1 45, zex 45 (.getfield 9) 3 48 0 0 2, zev32 48 (.iconst 0) 1 49 0,
  ze0 49 (.aload_n 0) 1 50, zex 50 (.getfield 31) 3 53 0 9 2, ze0 53 .arraylength 1 54, zcal 54 (.invokestatic 133) 3 57 0 5 6 0, ze0 57 .return_ 1 58, ze0 58 (.aload_n 0) 1 59,
  zex 59 (.getfield 34) 3 62 0 1 2, zex 62 (.getfield 52) 3 65 1 0 0, ze0 65 (.iload_n 2) 1 66, zcal 66 (.invokestatic 117) 3 69 288 1 0 11, ze0 69 .isub 1 70, ze0 70 (.istore 5) 2 72,
  ze0 72 (.iload 5) 2 74, zex 74 (.ifCond .lt 25) 3 77 99 0 0, ze0 77 (.iload 4) 2 79, ze0 79 (.aload_n 0) 1 80, zex 80 (.getfield 24) 3 83 0 7 2, ze0 83 (.iload_n 1) 1 84,
  zev32 84 (.bipush 11) 2 86 11, ze0 86 .imul 1 87, ze0 87 (.iload 5) 2 89, ze0 89 .iadd 1 90, ze0 90 .iaload 1 91, ze0 91 .iadd 1 92,
  ze0 92 (.aload_n 0) 1 93, zex 93 (.getfield 122) 3 96 0 11 0, zex 96 (.if_icmp .gt 4) 3 99 100 0 0, ze0 99 .return_ 1 100, ze0 100 (.aload_n 0) 1 101, zex 101 (.getfield 31) 3 104 0 9 2,
  ze0 104 (.iload_n 1) 1 105, zev32 105 (.iconst (-1)) 1 106 (-1), ze0 106 .iastore 1 107, ze0 107 (.aload_n 0) 1 108, ze0 108 (.iload_n 1) 1 109, zev32 109 (.iconst 1) 1 110 1,
  ze0 110 .iadd 1 111, ze0 111 (.iload_n 2) 1 112, zev32 112 (.bipush 10) 2 114 10, ze0 114 (.iload 4) 2 116, zcal 116 (.invokevirtual 125) 3 119 11 5 3 0, zev32 119 (.iconst 0) 1 120 0,
  ze0 120 (.istore 6) 2 122, ze0 122 (.iload 6) 2 124, ze0 124 (.aload_n 0) 1 125, zex 125 (.getfield 34) 3 128 0 1 2, zex 128 (.getfield 52) 3 131 1 0 0, zex 131 (.if_icmp .ge 68) 3 134 199 0 0,
  ze0 134 (.iload_n 2) 1 135, ze0 135 (.iload 6) 2 137, ze0 137 .ishr 1 138, zev32 138 (.iconst 1) 1 139 1, ze0 139 .iand 1 140, zex 140 (.ifCond .eq 8) 3 143 148 0 0,
  zev32 143 (.ldc 70) 2 145 (-1000000), zex 145 (.goto 11) 3 148 156 0 0, ze0 148 (.aload_n 0) 1 149, ze0 149 (.iload_n 1) 1 150, ze0 150 (.iload 6) 2 152, ze0 152 (.iload_n 3) 1 153,
  zcal 153 (.invokevirtual 108) 3 156 7 4 0 0, ze0 156 (.istore 7) 2 158, ze0 158 (.iload 7) 2 160, zev32 160 (.ldc 70) 2 162 (-1000000), zex 162 (.if_icmp .eq 31) 3 165 193 0 0, ze0 165 (.aload_n 0) 1 166,
  zex 166 (.getfield 31) 3 169 0 9 2, ze0 169 (.iload_n 1) 1 170, ze0 170 (.iload 6) 2 172, ze0 172 .iastore 1 173, ze0 173 (.aload_n 0) 1 174, ze0 174 (.iload_n 1) 1 175,
  zev32 175 (.iconst 1) 1 176 1, ze0 176 .iadd 1 177, ze0 177 (.iload_n 2) 1 178, zev32 178 (.iconst 1) 1 179 1, ze0 179 (.iload 6) 2 181, ze0 181 .ishl 1 182,
  ze0 182 .ior 1 183, ze0 183 (.iload 6) 2 185, ze0 185 (.iload 4) 2 187, ze0 187 (.iload 7) 2 189, ze0 189 .iadd 1 190, zcal 190 (.invokevirtual 125) 3 193 11 5 3 0,
  zev32 193 (.iinc 6 1) 3 196 1, zex 196 (.goto (-74)) 3 199 122 0 0, ze0 199 .return_ 1 200]
def zm_11 : zMi := ((yX0_tryFrom, cX0_tryFrom, 8, none), (0, 5, 3), zt_11, [(17, [0, 4]), (57, []), (99, []), (122, [0, 1, 2, 3, 4, 6]), (156, [0, 1, 2, 3, 4, 6]), (193, [0, 1, 2, 3, 4, 6])])
/-- NotWhereYesterday$Chooser.wasOnNoDay()Z -/
def zt_12 : zT := [zev32 0 (.iconst 0) 1 1 0, ze0 1 (.istore_n 1) 1 2, ze0 2 (.iload_n 1) 1 3, ze0 3 (.aload_n 0) 1 4, zex 4 (.getfield 38) 3 7 0 2 2, zex 7 (.getfield 59) 3 10 6 6 0,
  zex 10 (.if_icmp .ge 64) 3 13 74 0 0, zev32 13 (.iconst 1) 1 14 1, ze0 14 (.istore_n 2) 1 15, zev32 15 (.iconst 0) 1 16 0, ze0 16 (.istore_n 3) 1 17, ze0 17 (.iload_n 3) 1 18,
  ze0 18 (.aload_n 0) 1 19, zex 19 (.getfield 34) 3 22 0 1 2, zex 22 (.getfield 46) 3 25 1 1 0, zex 25 (.if_icmp .ge 37) 3 28 62 0 0, ze0 28 (.iload_n 2) 1 29, zex 29 (.ifCond .eq 33) 3 32 62 0 0,
  ze0 32 (.aload_n 0) 1 33, zex 33 (.getfield 38) 3 36 0 2 2, ze0 36 (.iload_n 1) 1 37, ze0 37 (.iload_n 3) 1 38, zcal 38 (.invokevirtual 83) 3 41 80 3 0 6, ze0 41 (.aload_n 0) 1 42,
  zex 42 (.getfield 31) 3 45 0 9 2, ze0 45 (.iload_n 3) 1 46, ze0 46 .iaload 1 47, zex 47 (.if_icmp .ne 7) 3 50 54 0 0, zev32 50 (.iconst 1) 1 51 1, zex 51 (.goto 4) 3 54 55 0 0,
  zev32 54 (.iconst 0) 1 55 0, ze0 55 (.istore_n 2) 1 56, zev32 56 (.iinc 3 1) 3 59 1, zex 59 (.goto (-42)) 3 62 17 0 0, ze0 62 (.iload_n 2) 1 63, zex 63 (.ifCond .eq 5) 3 66 68 0 0,
  zev32 66 (.iconst 0) 1 67 0, ze0 67 .ireturn 1 68, zev32 68 (.iinc 1 1) 3 71 1, zex 71 (.goto (-69)) 3 74 2 0 0, zev32 74 (.iconst 1) 1 75 1, ze0 75 .ireturn 1 76]
def zm_12 : zMi := ((yX0_wasOnNoDay, cX0_wasOnNoDay, 4, (some .boolean)), (0, 1, 2), zt_12, [(2, [0, 1]), (17, [0, 1, 2, 3]), (55, [0, 1, 3]), (62, [0, 1, 2])])
/-- NotWhereYesterday$House.<init>()V -/
def zt_13 : zT := [ze0 0 (.aload_n 0) 1 1, zcal 1 (.invokespecial 3) 3 4 0 1 5 0, ze0 4 (.aload_n 0) 1 5, zev32 5 (.bipush 10) 2 7 10, zex 7 (.newarray .int) 2 9 20 0 0, zex 9 (.putfield 9) 3 12 1 2 2,
  ze0 12 (.aload_n 0) 1 13, zev32 13 (.bipush 10) 2 15 10, zex 15 (.newarray .int) 2 17 20 0 0, zex 17 (.putfield 15) 3 20 1 3 2, ze0 20 (.aload_n 0) 1 21, zev32 21 (.bipush 10) 2 23 10,
  zex 23 (.newarray .boolean) 2 25 21 0 0, zex 25 (.putfield 18) 3 28 1 4 2, ze0 28 (.aload_n 0) 1 29, zev32 29 (.bipush 10) 2 31 10, zex 31 (.newarray .int) 2 33 20 0 0, zex 33 (.putfield 22) 3 36 1 5 2,
  ze0 36 (.aload_n 0) 1 37, zev32 37 (.bipush 10) 2 39 10, zex 39 (.newarray .int) 2 41 20 0 0, zex 41 (.putfield 25) 3 44 1 6 2, ze0 44 .return_ 1 45]
def zm_13 : zMi := ((yX1_init, cX1_init, 1, none), (1, 1, 1), zt_13, [])
/-- NotWhereYesterday$House.hasPerson(I)Z -/
def zt_14 : zT := [ze0 0 (.iload_n 1) 1 1, zex 1 (.ifCond .lt 15) 3 4 16 0 0, ze0 4 (.iload_n 1) 1 5, ze0 5 (.aload_n 0) 1 6, zex 6 (.getfield 28) 3 9 1 0 0, zex 9 (.if_icmp .ge 7) 3 12 16 0 0,
  zev32 12 (.iconst 1) 1 13 1, zex 13 (.goto 4) 3 16 17 0 0, zev32 16 (.iconst 0) 1 17 0, ze0 17 .ireturn 1 18]
def zm_14 : zMi := ((yX1_hasPerson, cX1_hasPerson, 2, (some .boolean)), (1, 2, 1), zt_14, [(16, []), (17, [])])
/-- NotWhereYesterday$House.hasPost(I)Z -/
def zt_15 : zT := [ze0 0 (.iload_n 1) 1 1, zex 1 (.ifCond .lt 15) 3 4 16 0 0, ze0 4 (.iload_n 1) 1 5, ze0 5 (.aload_n 0) 1 6, zex 6 (.getfield 32) 3 9 1 1 0, zex 9 (.if_icmp .ge 7) 3 12 16 0 0,
  zev32 12 (.iconst 1) 1 13 1, zex 13 (.goto 4) 3 16 17 0 0, zev32 16 (.iconst 0) 1 17 0, ze0 17 .ireturn 1 18]
def zm_15 : zMi := ((yX1_hasPost, cX1_hasPost, 2, (some .boolean)), (1, 2, 1), zt_15, [(16, []), (17, [])])
/-- NotWhereYesterday$House.worthOfPost(I)I -/
def zt_16 : zT := [ze0 0 (.aload_n 0) 1 1, zex 1 (.getfield 18) 3 4 1 4 2, ze0 4 (.iload_n 1) 1 5, ze0 5 .baload 1 6, zex 6 (.ifCond .eq 9) 3 9 15 0 0, zev32 9 (.sipush 1010) 3 12 1010,
  zex 12 (.goto 5) 3 15 17 0 0, zev32 15 (.bipush 10) 2 17 10, ze0 17 .ireturn 1 18]
def zm_16 : zMi := ((yX1_worthOfPost, cX1_worthOfPost, 2, (some .int)), (1, 2, 1), zt_16, [(17, [])])
/-- NotWhereYesterday$Law.<init>()V -/
def zt_17 : zT := [ze0 0 (.aload_n 0) 1 1, zcal 1 (.invokespecial 3) 3 4 0 1 5 0, ze0 4 (.aload_n 0) 1 5, zev32 5 (.iconst 2) 1 6 2, zex 6 (.newarray .int) 2 8 20 0 0, zex 8 (.putfield 9) 3 11 2 0 2,
  ze0 11 (.aload_n 0) 1 12, zev32 12 (.bipush 10) 2 14 10, zex 14 (.newarray .int) 2 16 20 0 0, zex 16 (.putfield 15) 3 19 2 1 2, ze0 19 (.aload_n 0) 1 20, zev32 20 (.sipush 1000) 3 23 1000,
  zex 23 (.newarray .int) 2 25 20 0 0, zex 25 (.putfield 18) 3 28 2 2 2, ze0 28 .return_ 1 29]
def zm_17 : zMi := ((yX2_init, cX2_init, 1, none), (2, 1, 1), zt_17, [])
/-- NotWhereYesterday$Law.clear()V -/
def zt_18 : zT := [ze0 0 (.aload_n 0) 1 1, zex 1 (.getfield 9) 3 4 2 0 2, zev32 4 (.iconst 0) 1 5 0, zcal 5 (.invokestatic 21) 3 8 290 2 1 14, ze0 8 (.aload_n 0) 1 9, zex 9 (.getfield 15) 3 12 2 1 2,
  zev32 12 (.iconst 0) 1 13 0, zcal 13 (.invokestatic 21) 3 16 290 2 1 14, ze0 16 (.aload_n 0) 1 17, zex 17 (.getfield 18) 3 20 2 2 2, zev32 20 (.iconst 0) 1 21 0, zcal 21 (.invokestatic 21) 3 24 290 2 1 14,
  ze0 24 (.aload_n 0) 1 25, zev32 25 (.iconst 0) 1 26 0, zex 26 (.putfield 27) 3 29 2 3 0, ze0 29 .return_ 1 30]
def zm_18 : zMi := ((yX2_clear, cX2_clear, 1, none), (2, 1, 2), zt_18, [])
/-- NotWhereYesterday$Law.become(LNotWhereYesterday$Law;)V -/
def zt_19 : zT := [ze0 0 (.aload_n 1) 1 1, zex 1 (.getfield 9) 3 4 2 0 2, zev32 4 (.iconst 0) 1 5 0, ze0 5 (.aload_n 0) 1 6, zex 6 (.getfield 9) 3 9 2 0 2, zev32 9 (.iconst 0) 1 10 0,
  ze0 10 (.aload_n 0) 1 11, zex 11 (.getfield 9) 3 14 2 0 2, ze0 14 .arraylength 1 15, zcal 15 (.invokestatic 31) 3 18 0 5 6 0, ze0 18 (.aload_n 1) 1 19, zex 19 (.getfield 15) 3 22 2 1 2,
  zev32 22 (.iconst 0) 1 23 0, ze0 23 (.aload_n 0) 1 24, zex 24 (.getfield 15) 3 27 2 1 2, zev32 27 (.iconst 0) 1 28 0, ze0 28 (.aload_n 0) 1 29, zex 29 (.getfield 15) 3 32 2 1 2,
  ze0 32 .arraylength 1 33, zcal 33 (.invokestatic 31) 3 36 0 5 6 0, ze0 36 (.aload_n 1) 1 37, zex 37 (.getfield 18) 3 40 2 2 2, zev32 40 (.iconst 0) 1 41 0, ze0 41 (.aload_n 0) 1 42,
  zex 42 (.getfield 18) 3 45 2 2 2, zev32 45 (.iconst 0) 1 46 0, ze0 46 (.aload_n 0) 1 47, zex 47 (.getfield 18) 3 50 2 2 2, ze0 50 .arraylength 1 51, zcal 51 (.invokestatic 31) 3 54 0 5 6 0,
  ze0 54 (.aload_n 0) 1 55, ze0 55 (.aload_n 1) 1 56, zex 56 (.getfield 27) 3 59 2 3 0, zex 59 (.putfield 27) 3 62 2 3 0, ze0 62 .return_ 1 63]
def zm_19 : zMi := ((yX2_become, cX2_become, 2, none), (2, 2, 1), zt_19, [])
/-- NotWhereYesterday$Law.setFree(I)V -/
def zt_20 : zT := [ze0 0 (.aload_n 0) 1 1, ze0 1 .dup 1 2, zex 2 (.getfield 27) 3 5 2 3 0, zev32 5 (.iconst 1) 1 6 1, ze0 6 (.iload_n 1) 1 7, ze0 7 .ishl 1 8,
  ze0 8 .ior 1 9, zex 9 (.putfield 27) 3 12 2 3 0, ze0 12 .return_ 1 13]
def zm_20 : zMi := ((yX2_setFree, cX2_setFree, 2, none), (2, 2, 1), zt_20, [])
/-- NotWhereYesterday$Law.bar(II)V -/
def zt_21 : zT := [ze0 0 (.iload_n 1) 1 1, zex 1 (.ifCond .lt 21) 3 4 22 0 0, ze0 4 (.iload_n 1) 1 5, zev32 5 (.bipush 10) 2 7 10, zex 7 (.if_icmp .ge 15) 3 10 22 0 0, ze0 10 (.aload_n 0) 1 11,
  zex 11 (.getfield 15) 3 14 2 1 2, ze0 14 (.iload_n 1) 1 15, ze0 15 .dup2 1 16, ze0 16 .iaload 1 17, zev32 17 (.iconst 1) 1 18 1, ze0 18 (.iload_n 2) 1 19,
  ze0 19 .ishl 1 20, ze0 20 .ior 1 21, ze0 21 .iastore 1 22, ze0 22 .return_ 1 23]
def zm_21 : zMi := ((yX2_bar, cX2_bar, 3, none), (2, 3, 1), zt_21, [(22, [])])
/-- NotWhereYesterday$Law.sendAway(III)V -/
def zt_22 : zT := [ze0 0 (.iload_n 2) 1 1, ze0 1 (.istore 4) 2 3, ze0 3 (.iload 4) 2 5, ze0 5 (.iload_n 3) 1 6, zex 6 (.if_icmp .gt 44) 3 9 50 0 0, ze0 9 (.iload 4) 2 11,
  zev32 11 (.bipush 100) 2 13 100, zex 13 (.if_icmp .ge 37) 3 16 50 0 0, ze0 16 (.iload 4) 2 18, zex 18 (.ifCond .lt 26) 3 21 44 0 0, ze0 21 (.iload_n 1) 1 22, zex 22 (.ifCond .lt 22) 3 25 44 0 0,
  ze0 25 (.iload_n 1) 1 26, zev32 26 (.bipush 10) 2 28 10, zex 28 (.if_icmp .ge 16) 3 31 44 0 0, ze0 31 (.aload_n 0) 1 32, zex 32 (.getfield 18) 3 35 2 2 2, ze0 35 (.iload_n 1) 1 36,
  zev32 36 (.bipush 100) 2 38 100, ze0 38 .imul 1 39, ze0 39 (.iload 4) 2 41, ze0 41 .iadd 1 42, zev32 42 (.iconst 1) 1 43 1, ze0 43 .iastore 1 44,
  zev32 44 (.iinc 4 1) 3 47 1, zex 47 (.goto (-44)) 3 50 3 0 0, ze0 50 .return_ 1 51]
def zm_22 : zMi := ((yX2_sendAway, cX2_sendAway, 5, none), (2, 4, 1), zt_22, [(3, [0, 1, 3, 4]), (44, [0, 1, 3, 4]), (50, [])])
/-- NotWhereYesterday$Law.isFree(I)Z -/
def zt_23 : zT := [ze0 0 (.aload_n 0) 1 1, zex 1 (.getfield 27) 3 4 2 3 0, ze0 4 (.iload_n 1) 1 5, ze0 5 .ishr 1 6, zev32 6 (.iconst 1) 1 7 1, ze0 7 .iand 1 8,
  zex 8 (.ifCond .eq 7) 3 11 15 0 0, zev32 11 (.iconst 1) 1 12 1, zex 12 (.goto 4) 3 15 16 0 0, zev32 15 (.iconst 0) 1 16 0, ze0 16 .ireturn 1 17]
def zm_23 : zMi := ((yX2_isFree, cX2_isFree, 2, (some .boolean)), (2, 2, 1), zt_23, [(16, [])])
/-- NotWhereYesterday$Law.bars(II)Z -/
def zt_24 : zT := [ze0 0 (.iload_n 1) 1 1, zex 1 (.ifCond .lt 26) 3 4 27 0 0, ze0 4 (.iload_n 1) 1 5, zev32 5 (.bipush 10) 2 7 10, zex 7 (.if_icmp .ge 20) 3 10 27 0 0, ze0 10 (.aload_n 0) 1 11,
  zex 11 (.getfield 15) 3 14 2 1 2, ze0 14 (.iload_n 1) 1 15, ze0 15 .iaload 1 16, ze0 16 (.iload_n 2) 1 17, ze0 17 .ishr 1 18, zev32 18 (.iconst 1) 1 19 1,
  ze0 19 .iand 1 20, zex 20 (.ifCond .eq 7) 3 23 27 0 0, zev32 23 (.iconst 1) 1 24 1, zex 24 (.goto 4) 3 27 28 0 0, zev32 27 (.iconst 0) 1 28 0, ze0 28 .ireturn 1 29]
def zm_24 : zMi := ((yX2_bars, cX2_bars, 3, (some .boolean)), (2, 3, 1), zt_24, [(27, []), (28, [])])
/-- NotWhereYesterday$Law.isAway(II)Z -/
def zt_25 : zT := [ze0 0 (.iload_n 1) 1 1, zex 1 (.ifCond .lt 19) 3 4 20 0 0, ze0 4 (.iload_n 1) 1 5, zev32 5 (.bipush 10) 2 7 10, zex 7 (.if_icmp .ge 13) 3 10 20 0 0, ze0 10 (.iload_n 2) 1 11,
  zex 11 (.ifCond .lt 9) 3 14 20 0 0, ze0 14 (.iload_n 2) 1 15, zev32 15 (.bipush 100) 2 17 100, zex 17 (.if_icmp .lt 5) 3 20 22 0 0, zev32 20 (.iconst 0) 1 21 0, ze0 21 .ireturn 1 22,
  ze0 22 (.aload_n 0) 1 23, zex 23 (.getfield 18) 3 26 2 2 2, ze0 26 (.iload_n 1) 1 27, zev32 27 (.bipush 100) 2 29 100, ze0 29 .imul 1 30, ze0 30 (.iload_n 2) 1 31,
  ze0 31 .iadd 1 32, ze0 32 .iaload 1 33, zex 33 (.ifCond .eq 7) 3 36 40 0 0, zev32 36 (.iconst 1) 1 37 1, zex 37 (.goto 4) 3 40 41 0 0, zev32 40 (.iconst 0) 1 41 0,
  ze0 41 .ireturn 1 42]
def zm_25 : zMi := ((yX2_isAway, cX2_isAway, 3, (some .boolean)), (2, 3, 1), zt_25, [(20, []), (41, [])])
/-- NotWhereYesterday$Marks.<init>()V -/
def zt_26 : zT := [ze0 0 (.aload_n 0) 1 1, zcal 1 (.invokespecial 1) 3 4 0 1 5 0, ze0 4 .return_ 1 5]
def zm_26 : zMi := ((yX3_init, cX3_init, 1, none), (3, 1, 1), zt_26, [])
/-- NotWhereYesterday$Marks.clear()V -/
def zt_27 : zT := [ze0 0 (.aload_n 0) 1 1, zev64 1 (.lconst 0) 1 2 0, zex 2 (.putfield 7) 3 5 3 0 1, ze0 5 (.aload_n 0) 1 6, zev64 6 (.lconst 0) 1 7 0, zex 7 (.putfield 13) 3 10 3 1 1,
  ze0 10 .return_ 1 11]
def zm_27 : zMi := ((yX3_clear, cX3_clear, 1, none), (3, 1, 1), zt_27, [])
/-- NotWhereYesterday$Marks.become(LNotWhereYesterday$Marks;)V -/
def zt_28 : zT := [ze0 0 (.aload_n 0) 1 1, ze0 1 (.aload_n 1) 1 2, zex 2 (.getfield 7) 3 5 3 0 1, zex 5 (.putfield 7) 3 8 3 0 1, ze0 8 (.aload_n 0) 1 9, ze0 9 (.aload_n 1) 1 10,
  zex 10 (.getfield 13) 3 13 3 1 1, zex 13 (.putfield 13) 3 16 3 1 1, ze0 16 .return_ 1 17]
def zm_28 : zMi := ((yX3_become, cX3_become, 2, none), (3, 2, 1), zt_28, [])
/-- NotWhereYesterday$Marks.add(I)V -/
def zt_29 : zT := [ze0 0 (.iload_n 1) 1 1, zev32 1 (.bipush 64) 2 3 64, zex 3 (.if_icmp .ge 18) 3 6 21 0 0, ze0 6 (.aload_n 0) 1 7, ze0 7 .dup 1 8, zex 8 (.getfield 7) 3 11 3 0 1,
  zev64 11 (.lconst 1) 1 12 1, ze0 12 (.iload_n 1) 1 13, ze0 13 .lshl 1 14, ze0 14 .lor 1 15, zex 15 (.putfield 7) 3 18 3 0 1, zex 18 (.goto 18) 3 21 36 0 0,
  ze0 21 (.aload_n 0) 1 22, ze0 22 .dup 1 23, zex 23 (.getfield 13) 3 26 3 1 1, zev64 26 (.lconst 1) 1 27 1, ze0 27 (.iload_n 1) 1 28, zev32 28 (.bipush 64) 2 30 64,
  ze0 30 .isub 1 31, ze0 31 .lshl 1 32, ze0 32 .lor 1 33, zex 33 (.putfield 13) 3 36 3 1 1, ze0 36 .return_ 1 37]
def zm_29 : zMi := ((yX3_add, cX3_add, 2, none), (3, 2, 1), zt_29, [(36, [])])
/-- NotWhereYesterday$Marks.remove(I)V -/
def zt_30 : zT := [ze0 0 (.iload_n 1) 1 1, zev32 1 (.bipush 64) 2 3 64, zex 3 (.if_icmp .ge 22) 3 6 25 0 0, ze0 6 (.aload_n 0) 1 7, ze0 7 .dup 1 8, zex 8 (.getfield 7) 3 11 3 0 1,
  zev64 11 (.lconst 1) 1 12 1, ze0 12 (.iload_n 1) 1 13, ze0 13 .lshl 1 14, zev64 14 (.ldc2_w 16) 3 17 (-1), ze0 17 .lxor 1 18, ze0 18 .land 1 19,
  zex 19 (.putfield 7) 3 22 3 0 1, zex 22 (.goto 22) 3 25 44 0 0, ze0 25 (.aload_n 0) 1 26, ze0 26 .dup 1 27, zex 27 (.getfield 13) 3 30 3 1 1, zev64 30 (.lconst 1) 1 31 1,
  ze0 31 (.iload_n 1) 1 32, zev32 32 (.bipush 64) 2 34 64, ze0 34 .isub 1 35, ze0 35 .lshl 1 36, zev64 36 (.ldc2_w 16) 3 39 (-1), ze0 39 .lxor 1 40,
  ze0 40 .land 1 41, zex 41 (.putfield 13) 3 44 3 1 1, ze0 44 .return_ 1 45]
def zm_30 : zMi := ((yX3_remove, cX3_remove, 2, none), (3, 2, 1), zt_30, [(44, [])])
/-- NotWhereYesterday$Marks.has(I)Z -/
def zt_31 : zT := [ze0 0 (.iload_n 1) 1 1, zev32 1 (.bipush 64) 2 3 64, zex 3 (.if_icmp .ge 24) 3 6 27 0 0, ze0 6 (.aload_n 0) 1 7, zex 7 (.getfield 7) 3 10 3 0 1, ze0 10 (.iload_n 1) 1 11,
  ze0 11 .lushr 1 12, zev64 12 (.lconst 1) 1 13 1, ze0 13 .land 1 14, zev64 14 (.lconst 0) 1 15 0, ze0 15 .lcmp 1 16, zex 16 (.ifCond .eq 7) 3 19 23 0 0,
  zev32 19 (.iconst 1) 1 20 1, zex 20 (.goto 28) 3 23 48 0 0, zev32 23 (.iconst 0) 1 24 0, zex 24 (.goto 24) 3 27 48 0 0, ze0 27 (.aload_n 0) 1 28, zex 28 (.getfield 13) 3 31 3 1 1,
  ze0 31 (.iload_n 1) 1 32, zev32 32 (.bipush 64) 2 34 64, ze0 34 .isub 1 35, ze0 35 .lushr 1 36, zev64 36 (.lconst 1) 1 37 1, ze0 37 .land 1 38,
  zev64 38 (.lconst 0) 1 39 0, ze0 39 .lcmp 1 40, zex 40 (.ifCond .eq 7) 3 43 47 0 0, zev32 43 (.iconst 1) 1 44 1, zex 44 (.goto 4) 3 47 48 0 0, zev32 47 (.iconst 0) 1 48 0,
  ze0 48 .ireturn 1 49]
def zm_31 : zMi := ((yX3_has, cX3_has, 2, (some .boolean)), (3, 2, 1), zt_31, [(48, [])])
/-- NotWhereYesterday$Marks.meets(LNotWhereYesterday$Marks;)Z -/
def zt_32 : zT := [ze0 0 (.aload_n 0) 1 1, zex 1 (.getfield 7) 3 4 3 0 1, ze0 4 (.aload_n 1) 1 5, zex 5 (.getfield 7) 3 8 3 0 1, ze0 8 .land 1 9, zev64 9 (.lconst 0) 1 10 0,
  ze0 10 .lcmp 1 11, zex 11 (.ifCond .ne 17) 3 14 28 0 0, ze0 14 (.aload_n 0) 1 15, zex 15 (.getfield 13) 3 18 3 1 1, ze0 18 (.aload_n 1) 1 19, zex 19 (.getfield 13) 3 22 3 1 1,
  ze0 22 .land 1 23, zev64 23 (.lconst 0) 1 24 0, ze0 24 .lcmp 1 25, zex 25 (.ifCond .eq 7) 3 28 32 0 0, zev32 28 (.iconst 1) 1 29 1, zex 29 (.goto 4) 3 32 33 0 0,
  zev32 32 (.iconst 0) 1 33 0, ze0 33 .ireturn 1 34]
def zm_32 : zMi := ((yX3_meets, cX3_meets, 2, (some .boolean)), (3, 2, 1), zt_32, [(28, []), (33, [])])
/-- NotWhereYesterday$Marks.addAll(LNotWhereYesterday$Marks;)V -/
def zt_33 : zT := [ze0 0 (.aload_n 0) 1 1, ze0 1 .dup 1 2, zex 2 (.getfield 7) 3 5 3 0 1, ze0 5 (.aload_n 1) 1 6, zex 6 (.getfield 7) 3 9 3 0 1, ze0 9 .lor 1 10,
  zex 10 (.putfield 7) 3 13 3 0 1, ze0 13 (.aload_n 0) 1 14, ze0 14 .dup 1 15, zex 15 (.getfield 13) 3 18 3 1 1, ze0 18 (.aload_n 1) 1 19, zex 19 (.getfield 13) 3 22 3 1 1,
  ze0 22 .lor 1 23, zex 23 (.putfield 13) 3 26 3 1 1, ze0 26 .return_ 1 27]
def zm_33 : zMi := ((yX3_addAll, cX3_addAll, 2, none), (3, 2, 1), zt_33, [])
/-- NotWhereYesterday$Marks.keepOnly(LNotWhereYesterday$Marks;)V -/
def zt_34 : zT := [ze0 0 (.aload_n 0) 1 1, ze0 1 .dup 1 2, zex 2 (.getfield 7) 3 5 3 0 1, ze0 5 (.aload_n 1) 1 6, zex 6 (.getfield 7) 3 9 3 0 1, ze0 9 .land 1 10,
  zex 10 (.putfield 7) 3 13 3 0 1, ze0 13 (.aload_n 0) 1 14, ze0 14 .dup 1 15, zex 15 (.getfield 13) 3 18 3 1 1, ze0 18 (.aload_n 1) 1 19, zex 19 (.getfield 13) 3 22 3 1 1,
  ze0 22 .land 1 23, zex 23 (.putfield 13) 3 26 3 1 1, ze0 26 .return_ 1 27]
def zm_34 : zMi := ((yX3_keepOnly, cX3_keepOnly, 2, none), (3, 2, 1), zt_34, [])
/-- NotWhereYesterday$Marks.dropAll(LNotWhereYesterday$Marks;)V -/
def zt_35 : zT := [ze0 0 (.aload_n 0) 1 1, ze0 1 (.aload_n 0) 1 2, zex 2 (.getfield 7) 3 5 3 0 1, ze0 5 (.aload_n 1) 1 6, zex 6 (.getfield 7) 3 9 3 0 1, zev64 9 (.ldc2_w 16) 3 12 (-1),
  ze0 12 .lxor 1 13, ze0 13 .land 1 14, zex 14 (.putfield 7) 3 17 3 0 1, ze0 17 (.aload_n 0) 1 18, ze0 18 (.aload_n 0) 1 19, zex 19 (.getfield 13) 3 22 3 1 1,
  ze0 22 (.aload_n 1) 1 23, zex 23 (.getfield 13) 3 26 3 1 1, zev64 26 (.ldc2_w 16) 3 29 (-1), ze0 29 .lxor 1 30, ze0 30 .land 1 31, zex 31 (.putfield 13) 3 34 3 1 1,
  ze0 34 .return_ 1 35]
def zm_35 : zMi := ((yX3_dropAll, cX3_dropAll, 2, none), (3, 2, 1), zt_35, [])
/-- NotWhereYesterday$Marks.size()I -/
def zt_36 : zT := [ze0 0 (.aload_n 0) 1 1, zex 1 (.getfield 7) 3 4 3 0 1, zcal 4 (.invokestatic 18) 3 7 289 1 0 12, ze0 7 (.aload_n 0) 1 8, zex 8 (.getfield 13) 3 11 3 1 1, zcal 11 (.invokestatic 18) 3 14 289 1 0 12,
  ze0 14 .iadd 1 15, ze0 15 .ireturn 1 16]
def zm_36 : zMi := ((yX3_size, cX3_size, 1, (some .int)), (3, 1, 2), zt_36, [])
/-- NotWhereYesterday$Rounds.<init>(LNotWhereYesterday$House;LNotWhereYesterday$Law;LNotWhereYesterday$State;LNotWhereYesterday$Watch;)V -/
def zt_37 : zT := [ze0 0 (.aload_n 0) 1 1, zcal 1 (.invokespecial 3) 3 4 0 1 5 0, ze0 4 (.aload_n 0) 1 5, zev32 5 (.iconst 3) 1 6 3, zex 6 (.newarray .int) 2 8 20 0 0, zex 8 (.putfield 11) 3 11 4 2 2,
  ze0 11 (.aload_n 0) 1 12, zev32 12 (.sipush 600) 3 15 600, zex 15 (.newarray .int) 2 17 20 0 0, zex 17 (.putfield 15) 3 20 4 7 2, ze0 20 (.aload_n 0) 1 21, zev32 21 (.bipush 120) 2 23 120,
  zex 23 (.newarray .int) 2 25 20 0 0, zex 25 (.putfield 18) 3 28 4 8 2, ze0 28 (.aload_n 0) 1 29, zev32 29 (.bipush 120) 2 31 120, zex 31 (.newarray .int) 2 33 20 0 0, zex 33 (.putfield 21) 3 36 4 9 2,
  ze0 36 (.aload_n 0) 1 37, zev32 37 (.bipush 120) 2 39 120, zex 39 (.anewarray 24) 3 42 23 0 0, zex 42 (.putfield 26) 3 45 4 10 2, ze0 45 (.aload_n 0) 1 46, zex 46 (.new 24) 3 49 3 2 0,
  ze0 49 .dup 1 50, zcal 50 (.invokespecial 30) 3 53 26 1 4 3, zex 53 (.putfield 31) 3 56 4 11 2, ze0 56 (.aload_n 0) 1 57, zex 57 (.new 24) 3 60 3 2 0, ze0 60 .dup 1 61,
  zcal 61 (.invokespecial 30) 3 64 26 1 4 3, zex 64 (.putfield 35) 3 67 4 12 2, ze0 67 (.aload_n 0) 1 68, zex 68 (.new 24) 3 71 3 2 0, ze0 71 .dup 1 72, zcal 72 (.invokespecial 30) 3 75 26 1 4 3,
  zex 75 (.putfield 38) 3 78 4 13 2, ze0 78 (.aload_n 0) 1 79, zex 79 (.new 24) 3 82 3 2 0, ze0 82 .dup 1 83, zcal 83 (.invokespecial 30) 3 86 26 1 4 3, zex 86 (.putfield 41) 3 89 4 14 2,
  ze0 89 (.aload_n 0) 1 90, zev32 90 (.iconst 3) 1 91 3, zex 91 (.anewarray 24) 3 94 23 0 0, zex 94 (.putfield 44) 3 97 4 15 2, ze0 97 (.aload_n 0) 1 98, zev32 98 (.sipush 360) 3 101 360,
  zex 101 (.newarray .int) 2 103 20 0 0, zex 103 (.putfield 47) 3 106 4 16 2, ze0 106 (.aload_n 0) 1 107, zev32 107 (.iconst 3) 1 108 3, zex 108 (.newarray .int) 2 110 20 0 0, zex 110 (.putfield 50) 3 113 4 17 2,
  ze0 113 (.aload_n 0) 1 114, ze0 114 (.aload_n 1) 1 115, zex 115 (.putfield 53) 3 118 4 3 2, ze0 118 (.aload_n 0) 1 119, ze0 119 (.aload_n 2) 1 120, zex 120 (.putfield 57) 3 123 4 4 2,
  ze0 123 (.aload_n 0) 1 124, ze0 124 (.aload_n 3) 1 125, zex 125 (.putfield 61) 3 128 4 5 2, ze0 128 (.aload_n 0) 1 129, ze0 129 (.aload 4) 2 131, zex 131 (.putfield 65) 3 134 4 6 2,
  zev32 134 (.iconst 0) 1 135 0, ze0 135 (.istore 5) 2 137, ze0 137 (.iload 5) 2 139, zev32 139 (.bipush 120) 2 141 120, zex 141 (.if_icmp .ge 23) 3 144 164 0 0, ze0 144 (.aload_n 0) 1 145,
  zex 145 (.getfield 26) 3 148 4 10 2, ze0 148 (.iload 5) 2 150, zex 150 (.new 24) 3 153 3 2 0, ze0 153 .dup 1 154, zcal 154 (.invokespecial 30) 3 157 26 1 4 3, ze0 157 .aastore 1 158,
  zev32 158 (.iinc 5 1) 3 161 1, zex 161 (.goto (-24)) 3 164 137 0 0, zev32 164 (.iconst 0) 1 165 0, ze0 165 (.istore 5) 2 167, ze0 167 (.iload 5) 2 169, zev32 169 (.iconst 3) 1 170 3,
  zex 170 (.if_icmp .ge 23) 3 173 193 0 0, ze0 173 (.aload_n 0) 1 174, zex 174 (.getfield 44) 3 177 4 15 2, ze0 177 (.iload 5) 2 179, zex 179 (.new 24) 3 182 3 2 0, ze0 182 .dup 1 183,
  zcal 183 (.invokespecial 30) 3 186 26 1 4 3, ze0 186 .aastore 1 187, zev32 187 (.iinc 5 1) 3 190 1, zex 190 (.goto (-23)) 3 193 167 0 0, ze0 193 .return_ 1 194]
def zm_37 : zMi := ((yX4_init, cX4_init, 6, none), (4, 5, 2), zt_37, [(53, [0, 1, 2, 3, 4]), (64, [0, 1, 2, 3, 4]), (75, [0, 1, 2, 3, 4]), (86, [0, 1, 2, 3, 4]), (137, [0, 5]), (157, [0, 5]), (167, [0, 5]), (186, [0, 5])])
/-- NotWhereYesterday$Rounds.isFew()Z -/
def zt_38 : zT := [ze0 0 (.aload_n 0) 1 1, zex 1 (.getfield 53) 3 4 4 3 2, zex 4 (.getfield 69) 3 7 1 0 0, zev32 7 (.iconst 5) 1 8 5, zex 8 (.if_icmp .gt 18) 3 11 26 0 0, ze0 11 (.aload_n 0) 1 12,
  zex 12 (.getfield 53) 3 15 4 3 2, zex 15 (.getfield 75) 3 18 1 1 0, zev32 18 (.iconst 5) 1 19 5, zex 19 (.if_icmp .gt 7) 3 22 26 0 0, zev32 22 (.iconst 1) 1 23 1, zex 23 (.goto 4) 3 26 27 0 0,
  zev32 26 (.iconst 0) 1 27 0, ze0 27 .ireturn 1 28]
def zm_38 : zMi := ((yX4_isFew, cX4_isFew, 1, (some .boolean)), (4, 1, 1), zt_38, [(26, []), (27, [])])
/-- NotWhereYesterday$Rounds.oneAt(II)I -/
def zt_39 : zT := [ze0 0 (.iload_n 1) 1 1, zex 1 (.ifCond .lt 18) 3 4 19 0 0, ze0 4 (.iload_n 1) 1 5, zev32 5 (.bipush 120) 2 7 120, zex 7 (.if_icmp .ge 12) 3 10 19 0 0, ze0 10 (.iload_n 2) 1 11,
  zex 11 (.ifCond .lt 8) 3 14 19 0 0, ze0 14 (.iload_n 2) 1 15, zev32 15 (.iconst 5) 1 16 5, zex 16 (.if_icmp .lt 5) 3 19 21 0 0, zev32 19 (.iconst (-1)) 1 20 (-1), ze0 20 .ireturn 1 21,
  ze0 21 (.aload_n 0) 1 22, zex 22 (.getfield 15) 3 25 4 7 2, ze0 25 (.iload_n 1) 1 26, zev32 26 (.iconst 5) 1 27 5, ze0 27 .imul 1 28, ze0 28 (.iload_n 2) 1 29,
  ze0 29 .iadd 1 30, ze0 30 .iaload 1 31, ze0 31 .ireturn 1 32]
def zm_39 : zMi := ((yX4_oneAt, cX4_oneAt, 3, (some .int)), (4, 3, 1), zt_39, [(19, [])])
/-- NotWhereYesterday$Rounds.build()V -/
def zt_40 : zT := [ze0 0 (.aload_n 0) 1 1, zev32 1 (.iconst 0) 1 2 0, zex 2 (.putfield 78) 3 5 4 18 0, ze0 5 (.aload_n 0) 1 6, zev32 6 (.iconst 0) 1 7 0, zev32 7 (.iconst 0) 1 8 0,
  zcal 8 (.invokevirtual 81) 3 11 41 3 1 4, zev32 11 (.iconst 0) 1 12 0, ze0 12 (.istore_n 1) 1 13, ze0 13 (.iload_n 1) 1 14, ze0 14 (.aload_n 0) 1 15, zex 15 (.getfield 78) 3 18 4 18 0,
  zex 18 (.if_icmp .ge 31) 3 21 49 0 0, ze0 21 (.aload_n 0) 1 22, zex 22 (.getfield 18) 3 25 4 8 2, ze0 25 (.iload_n 1) 1 26, ze0 26 (.aload_n 0) 1 27, ze0 27 (.iload_n 1) 1 28,
  zcal 28 (.invokevirtual 85) 3 31 44 2 0 4, ze0 31 .iastore 1 32, ze0 32 (.aload_n 0) 1 33, zex 33 (.getfield 21) 3 36 4 9 2, ze0 36 (.iload_n 1) 1 37, ze0 37 (.aload_n 0) 1 38,
  ze0 38 (.iload_n 1) 1 39, zcal 39 (.invokevirtual 89) 3 42 45 2 0 4, ze0 42 .iastore 1 43, zev32 43 (.iinc 1 1) 3 46 1, zex 46 (.goto (-33)) 3 49 13 0 0, zev32 49 (.iconst 0) 1 50 0,
  ze0 50 (.istore_n 1) 1 51, ze0 51 (.iload_n 1) 1 52, ze0 52 (.aload_n 0) 1 53, zex 53 (.getfield 78) 3 56 4 18 0, zex 56 (.if_icmp .ge 101) 3 59 157 0 0, ze0 59 (.aload_n 0) 1 60,
  ze0 60 (.iload_n 1) 1 61, zcal 61 (.invokevirtual 92) 3 64 46 2 0 4, ze0 64 (.istore_n 2) 1 65, ze0 65 (.aload_n 0) 1 66, zex 66 (.getfield 26) 3 69 4 10 2, ze0 69 (.iload_n 1) 1 70,
  ze0 70 .aaload 1 71, zcal 71 (.invokevirtual 95) 3 74 27 1 1 3, zev32 74 (.iconst 0) 1 75 0, ze0 75 (.istore_n 3) 1 76, ze0 76 (.iload_n 3) 1 77, ze0 77 (.aload_n 0) 1 78,
  zex 78 (.getfield 78) 3 81 4 18 0, zex 81 (.if_icmp .ge 70) 3 84 151 0 0, ze0 84 (.aload_n 0) 1 85, zex 85 (.getfield 57) 3 88 4 4 2, zex 88 (.getfield 98) 3 91 2 0 2, zev32 91 (.iconst 1) 1 92 1,
  ze0 92 .iaload 1 93, zex 93 (.ifCond .le 23) 3 96 116 0 0, ze0 96 (.aload_n 0) 1 97, zex 97 (.getfield 21) 3 100 4 9 2, ze0 100 (.iload_n 1) 1 101, ze0 101 .iaload 1 102,
  ze0 102 (.aload_n 0) 1 103, zex 103 (.getfield 21) 3 106 4 9 2, ze0 106 (.iload_n 3) 1 107, ze0 107 .iaload 1 108, ze0 108 .iand 1 109, zex 109 (.ifCond .eq 7) 3 112 116 0 0,
  zev32 112 (.iconst 1) 1 113 1, zex 113 (.goto 4) 3 116 117 0 0, zev32 116 (.iconst 0) 1 117 0, ze0 117 (.istore 4) 2 119, ze0 119 (.iload_n 2) 1 120, ze0 120 (.aload_n 0) 1 121,
  zex 121 (.getfield 18) 3 124 4 8 2, ze0 124 (.iload_n 3) 1 125, ze0 125 .iaload 1 126, ze0 126 .iand 1 127, zex 127 (.ifCond .ne 18) 3 130 145 0 0, ze0 130 (.iload 4) 2 132,
  zex 132 (.ifCond .ne 13) 3 135 145 0 0, ze0 135 (.aload_n 0) 1 136, zex 136 (.getfield 26) 3 139 4 10 2, ze0 139 (.iload_n 1) 1 140, ze0 140 .aaload 1 141, ze0 141 (.iload_n 3) 1 142,
  zcal 142 (.invokevirtual 103) 3 145 29 2 1 3, zev32 145 (.iinc 3 1) 3 148 1, zex 148 (.goto (-72)) 3 151 76 0 0, zev32 151 (.iinc 1 1) 3 154 1, zex 154 (.goto (-103)) 3 157 51 0 0, ze0 157 .return_ 1 158]
def zm_40 : zMi := ((yX4_build, cX4_build, 5, none), (4, 1, 4), zt_40, [(13, [0, 1]), (51, [0, 1]), (76, [0, 1, 2, 3]), (116, [0, 1, 2, 3]), (117, [0, 1, 2, 3]), (145, [0, 1, 2, 3])])
/-- NotWhereYesterday$Rounds.addFrom(II)V -/
def zt_41 : zT := [ze0 0 (.aload_n 0) 1 1, zex 1 (.getfield 78) 3 4 4 18 0, zev32 4 (.bipush 120) 2 6 120, zex 6 (.if_icmp .lt 4) 3 9 10 0 0, ze0 9 .return_ 1 10, ze0 10 (.iload_n 1) 1 11,
  ze0 11 (.aload_n 0) 1 12, zex 12 (.getfield 53) 3 15 4 3 2, zex 15 (.getfield 75) 3 18 1 1 0, zex 18 (.if_icmp .ge 8) 3 21 26 0 0, ze0 21 (.iload_n 1) 1 22, zev32 22 (.iconst 5) 1 23 5,
  zex 23 (.if_icmp .lt 49) 3 26 72 0 0, ze0 26 (.aload_n 0) 1 27, ze0 27 .dup 1 28, zex 28 (.getfield 78) 3 31 4 18 0, zev32 31 (.iconst 1) 1 32 1, ze0 32 .iadd 1 33,
  zex 33 (.putfield 78) 3 36 4 18 0, ze0 36 (.aload_n 0) 1 37, zex 37 (.getfield 78) 3 40 4 18 0, zev32 40 (.bipush 120) 2 42 120, zex 42 (.if_icmp .ge 29) 3 45 71 0 0, ze0 45 (.aload_n 0) 1 46,
  zex 46 (.getfield 15) 3 49 4 7 2, ze0 49 (.aload_n 0) 1 50, zex 50 (.getfield 78) 3 53 4 18 0, zev32 53 (.iconst 1) 1 54 1, ze0 54 .isub 1 55, zev32 55 (.iconst 5) 1 56 5,
  ze0 56 .imul 1 57, ze0 57 (.aload_n 0) 1 58, zex 58 (.getfield 15) 3 61 4 7 2, ze0 61 (.aload_n 0) 1 62, zex 62 (.getfield 78) 3 65 4 18 0, zev32 65 (.iconst 5) 1 66 5,
  ze0 66 .imul 1 67, zev32 67 (.iconst 5) 1 68 5, zcal 68 (.invokestatic 107) 3 71 0 5 6 0, ze0 71 .return_ 1 72, zev32 72 (.iconst 0) 1 73 0, ze0 73 (.istore_n 3) 1 74,
  ze0 74 (.iload_n 3) 1 75, ze0 75 (.aload_n 0) 1 76, zex 76 (.getfield 53) 3 79 4 3 2, zex 79 (.getfield 69) 3 82 1 0 0, zex 82 (.if_icmp .ge 52) 3 85 134 0 0, ze0 85 (.aload_n 0) 1 86,
  zex 86 (.getfield 78) 3 89 4 18 0, zev32 89 (.bipush 120) 2 91 120, zex 91 (.if_icmp .ge 43) 3 94 134 0 0, ze0 94 (.iload_n 2) 1 95, ze0 95 (.iload_n 3) 1 96, ze0 96 .ishr 1 97,
  zev32 97 (.iconst 1) 1 98 1, ze0 98 .iand 1 99, zex 99 (.ifCond .ne 29) 3 102 128 0 0, ze0 102 (.aload_n 0) 1 103, zex 103 (.getfield 15) 3 106 4 7 2, ze0 106 (.aload_n 0) 1 107,
  zex 107 (.getfield 78) 3 110 4 18 0, zev32 110 (.iconst 5) 1 111 5, ze0 111 .imul 1 112, ze0 112 (.iload_n 1) 1 113, ze0 113 .iadd 1 114, ze0 114 (.iload_n 3) 1 115,
  ze0 115 .iastore 1 116, ze0 116 (.aload_n 0) 1 117, ze0 117 (.iload_n 1) 1 118, zev32 118 (.iconst 1) 1 119 1, ze0 119 .iadd 1 120, ze0 120 (.iload_n 2) 1 121,
  zev32 121 (.iconst 1) 1 122 1, ze0 122 (.iload_n 3) 1 123, ze0 123 .ishl 1 124, ze0 124 .ior 1 125, zcal 125 (.invokevirtual 81) 3 128 41 3 3 4, zev32 128 (.iinc 3 1) 3 131 1,
  zex 131 (.goto (-57)) 3 134 74 0 0, ze0 134 .return_ 1 135]
def zm_41 : zMi := ((yX4_addFrom, cX4_addFrom, 4, none), (4, 3, 1), zt_41, [(26, [0]), (71, []), (74, [0, 1, 2, 3]), (128, [0, 1, 2, 3]), (134, [])])
/-- NotWhereYesterday$Rounds.placeBit(II)I -/
def zt_42 : zT := [ze0 0 (.iload_n 0) 1 1, zex 1 (.ifCond .ge 7) 3 4 8 0 0, zev32 4 (.iconst 0) 1 5 0, zex 5 (.goto 10) 3 8 15 0 0, zev32 8 (.iconst 1) 1 9 1, ze0 9 (.iload_n 1) 1 10,
  zev32 10 (.iconst 5) 1 11 5, ze0 11 .imul 1 12, ze0 12 (.iload_n 0) 1 13, ze0 13 .iadd 1 14, ze0 14 .ishl 1 15, ze0 15 .ireturn 1 16]
def zm_42 : zMi := ((yX4_placeBit, cX4_placeBit, 2, (some .int)), (4, 2, 1), zt_42, [(15, [])])
/-- NotWhereYesterday$Rounds.pairBit(II)I -/
def zt_43 : zT := [ze0 0 (.iload_n 0) 1 1, zex 1 (.ifCond .lt 7) 3 4 8 0 0, ze0 4 (.iload_n 1) 1 5, zex 5 (.ifCond .ge 5) 3 8 10 0 0, zev32 8 (.iconst 0) 1 9 0, ze0 9 .ireturn 1 10,
  zev32 10 (.iconst 1) 1 11 1, ze0 11 (.iload_n 0) 1 12, ze0 12 (.iload_n 1) 1 13, zcal 13 (.invokestatic 113) 3 16 0 2 9 0, zev32 16 (.iconst 5) 1 17 5, ze0 17 .imul 1 18,
  ze0 18 (.iload_n 0) 1 19, ze0 19 (.iload_n 1) 1 20, zcal 20 (.invokestatic 119) 3 23 0 2 8 0, ze0 23 .iadd 1 24, ze0 24 .ishl 1 25, ze0 25 .ireturn 1 26]
def zm_43 : zMi := ((yX4_pairBit, cX4_pairBit, 2, (some .int)), (4, 2, 1), zt_43, [(8, [])])
/-- NotWhereYesterday$Rounds.placesOf(I)I -/
def zt_44 : zT := [zev32 0 (.iconst 0) 1 1 0, ze0 1 (.istore_n 2) 1 2, zev32 2 (.iconst 0) 1 3 0, ze0 3 (.istore_n 3) 1 4, ze0 4 (.iload_n 3) 1 5, ze0 5 (.aload_n 0) 1 6,
  zex 6 (.getfield 53) 3 9 4 3 2, zex 9 (.getfield 75) 3 12 1 1 0, zex 12 (.if_icmp .ge 22) 3 15 34 0 0, ze0 15 (.iload_n 2) 1 16, ze0 16 (.aload_n 0) 1 17, ze0 17 (.iload_n 1) 1 18,
  ze0 18 (.iload_n 3) 1 19, zcal 19 (.invokevirtual 122) 3 22 39 3 0 4, ze0 22 (.iload_n 3) 1 23, zcal 23 (.invokestatic 125) 3 26 42 2 0 4, ze0 26 .ior 1 27, ze0 27 (.istore_n 2) 1 28,
  zev32 28 (.iinc 3 1) 3 31 1, zex 31 (.goto (-27)) 3 34 4 0 0, ze0 34 (.iload_n 2) 1 35, ze0 35 .ireturn 1 36]
def zm_44 : zMi := ((yX4_placesOf, cX4_placesOf, 4, (some .int)), (4, 2, 2), zt_44, [(4, [0, 1, 2, 3])])
/-- NotWhereYesterday$Rounds.pairsOf(I)I -/
def zt_45 : zT := [zev32 0 (.iconst 0) 1 1 0, ze0 1 (.istore_n 2) 1 2, zev32 2 (.iconst 1) 1 3 1, ze0 3 (.istore_n 3) 1 4, ze0 4 (.iload_n 3) 1 5, ze0 5 (.aload_n 0) 1 6,
  zex 6 (.getfield 53) 3 9 4 3 2, zex 9 (.getfield 75) 3 12 1 1 0, zex 12 (.if_icmp .ge 29) 3 15 41 0 0, ze0 15 (.iload_n 2) 1 16, ze0 16 (.aload_n 0) 1 17, ze0 17 (.iload_n 1) 1 18,
  ze0 18 (.iload_n 3) 1 19, zev32 19 (.iconst 1) 1 20 1, ze0 20 .isub 1 21, zcal 21 (.invokevirtual 122) 3 24 39 3 0 4, ze0 24 (.aload_n 0) 1 25, ze0 25 (.iload_n 1) 1 26,
  ze0 26 (.iload_n 3) 1 27, zcal 27 (.invokevirtual 122) 3 30 39 3 0 4, zcal 30 (.invokestatic 128) 3 33 43 2 0 4, ze0 33 .ior 1 34, ze0 34 (.istore_n 2) 1 35, zev32 35 (.iinc 3 1) 3 38 1,
  zex 38 (.goto (-34)) 3 41 4 0 0, ze0 41 (.iload_n 2) 1 42, ze0 42 .ireturn 1 43]
def zm_45 : zMi := ((yX4_pairsOf, cX4_pairsOf, 4, (some .int)), (4, 2, 2), zt_45, [(4, [0, 1, 2, 3])])
/-- NotWhereYesterday$Rounds.barredBehind(I)I -/
def zt_46 : zT := [zev32 0 (.iconst 0) 1 1 0, ze0 1 (.istore_n 2) 1 2, zev32 2 (.iconst 0) 1 3 0, ze0 3 (.istore_n 3) 1 4, ze0 4 (.iload_n 3) 1 5, ze0 5 (.aload_n 0) 1 6,
  zex 6 (.getfield 53) 3 9 4 3 2, zex 9 (.getfield 75) 3 12 1 1 0, zex 12 (.if_icmp .ge 23) 3 15 35 0 0, ze0 15 (.iload_n 2) 1 16, ze0 16 (.aload_n 0) 1 17, ze0 17 (.aload_n 0) 1 18,
  ze0 18 (.iload_n 1) 1 19, ze0 19 (.iload_n 3) 1 20, zcal 20 (.invokevirtual 122) 3 23 39 3 0 4, ze0 23 (.iload_n 3) 1 24, zcal 24 (.invokevirtual 131) 3 27 47 3 0 4, ze0 27 .ior 1 28,
  ze0 28 (.istore_n 2) 1 29, zev32 29 (.iinc 3 1) 3 32 1, zex 32 (.goto (-28)) 3 35 4 0 0, ze0 35 (.iload_n 2) 1 36, ze0 36 .ireturn 1 37]
def zm_46 : zMi := ((yX4_barredBehind, cX4_barredBehind, 4, (some .int)), (4, 2, 3), zt_46, [(4, [0, 1, 2, 3])])
/-- NotWhereYesterday$Rounds.placesBarredTo(II)I -/
def zt_47 : zT := [zev32 0 (.iconst 0) 1 1 0, ze0 1 (.istore_n 3) 1 2, ze0 2 (.aload_n 0) 1 3, zex 3 (.getfield 57) 3 6 4 4 2, zex 6 (.getfield 98) 3 9 2 0 2, zev32 9 (.iconst 0) 1 10 0,
  ze0 10 .iaload 1 11, zex 11 (.ifCond .le 20) 3 14 31 0 0, ze0 14 (.aload_n 0) 1 15, zex 15 (.getfield 57) 3 18 4 4 2, ze0 18 (.iload_n 2) 1 19, zcal 19 (.invokevirtual 134) 3 22 23 2 0 2,
  zex 22 (.ifCond .ne 9) 3 25 31 0 0, ze0 25 (.iload_n 1) 1 26, ze0 26 (.iload_n 2) 1 27, zcal 27 (.invokestatic 125) 3 30 42 2 0 4, ze0 30 (.istore_n 3) 1 31, zev32 31 (.iconst 0) 1 32 0,
  ze0 32 (.istore 4) 2 34, ze0 34 (.iload 4) 2 36, ze0 36 (.aload_n 0) 1 37, zex 37 (.getfield 53) 3 40 4 3 2, zex 40 (.getfield 75) 3 43 1 1 0, zex 43 (.if_icmp .ge 31) 3 46 74 0 0,
  ze0 46 (.aload_n 0) 1 47, zex 47 (.getfield 57) 3 50 4 4 2, ze0 50 (.iload_n 2) 1 51, ze0 51 (.iload 4) 2 53, zcal 53 (.invokevirtual 138) 3 56 24 3 0 2, zex 56 (.ifCond .eq 12) 3 59 68 0 0,
  ze0 59 (.iload_n 3) 1 60, ze0 60 (.iload_n 1) 1 61, ze0 61 (.iload 4) 2 63, zcal 63 (.invokestatic 125) 3 66 42 2 0 4, ze0 66 .ior 1 67, ze0 67 (.istore_n 3) 1 68,
  zev32 68 (.iinc 4 1) 3 71 1, zex 71 (.goto (-37)) 3 74 34 0 0, ze0 74 (.iload_n 3) 1 75, ze0 75 .ireturn 1 76]
def zm_47 : zMi := ((yX4_placesBarredTo, cX4_placesBarredTo, 5, (some .int)), (4, 3, 2), zt_47, [(31, [0, 1, 2, 3]), (34, [0, 1, 2, 3, 4]), (68, [0, 1, 2, 3, 4])])
/-- NotWhereYesterday$Rounds.ableBits()I -/
def zt_48 : zT := [zev32 0 (.iconst 0) 1 1 0, ze0 1 (.istore_n 1) 1 2, zev32 2 (.iconst 0) 1 3 0, ze0 3 (.istore_n 2) 1 4, ze0 4 (.iload_n 2) 1 5, ze0 5 (.aload_n 0) 1 6,
  zex 6 (.getfield 53) 3 9 4 3 2, zex 9 (.getfield 75) 3 12 1 1 0, zex 12 (.if_icmp .ge 52) 3 15 64 0 0, zev32 15 (.iconst 0) 1 16 0, ze0 16 (.istore_n 3) 1 17, ze0 17 (.iload_n 3) 1 18,
  ze0 18 (.aload_n 0) 1 19, zex 19 (.getfield 53) 3 22 4 3 2, zex 22 (.getfield 69) 3 25 1 0 0, zex 25 (.if_icmp .ge 33) 3 28 58 0 0, ze0 28 (.iload_n 1) 1 29, ze0 29 (.aload_n 0) 1 30,
  zex 30 (.getfield 65) 3 33 4 6 2, ze0 33 (.iload_n 3) 1 34, ze0 34 (.iload_n 2) 1 35, zcal 35 (.invokevirtual 142) 3 38 95 3 0 7, zex 38 (.ifCond .eq 11) 3 41 49 0 0, ze0 41 (.iload_n 3) 1 42,
  ze0 42 (.iload_n 2) 1 43, zcal 43 (.invokestatic 125) 3 46 42 2 0 4, zex 46 (.goto 4) 3 49 50 0 0, zev32 49 (.iconst 0) 1 50 0, ze0 50 .ior 1 51, ze0 51 (.istore_n 1) 1 52,
  zev32 52 (.iinc 3 1) 3 55 1, zex 55 (.goto (-38)) 3 58 17 0 0, zev32 58 (.iinc 2 1) 3 61 1, zex 61 (.goto (-57)) 3 64 4 0 0, ze0 64 (.iload_n 1) 1 65, ze0 65 .ireturn 1 66]
def zm_48 : zMi := ((yX4_ableBits, cX4_ableBits, 4, (some .int)), (4, 1, 3), zt_48, [(4, [0, 1, 2]), (17, [0, 1, 2, 3]), (50, [0, 2, 3])])
/-- NotWhereYesterday$Rounds.useBy(I)V -/
def zt_49 : zT := [ze0 0 (.aload_n 0) 1 1, zex 1 (.getfield 31) 3 4 4 11 2, zcal 4 (.invokevirtual 95) 3 7 27 1 1 3, zev32 7 (.iconst 0) 1 8 0, ze0 8 (.istore_n 2) 1 9, ze0 9 (.iload_n 2) 1 10,
  ze0 10 (.aload_n 0) 1 11, zex 11 (.getfield 78) 3 14 4 18 0, zex 14 (.if_icmp .ge 30) 3 17 44 0 0, ze0 17 (.aload_n 0) 1 18, zex 18 (.getfield 18) 3 21 4 8 2, ze0 21 (.iload_n 2) 1 22,
  ze0 22 .iaload 1 23, ze0 23 (.iload_n 1) 1 24, zev32 24 (.iconst (-1)) 1 25 (-1), ze0 25 .ixor 1 26, ze0 26 .iand 1 27, zex 27 (.ifCond .ne 11) 3 30 38 0 0,
  ze0 30 (.aload_n 0) 1 31, zex 31 (.getfield 31) 3 34 4 11 2, ze0 34 (.iload_n 2) 1 35, zcal 35 (.invokevirtual 103) 3 38 29 2 1 3, zev32 38 (.iinc 2 1) 3 41 1, zex 41 (.goto (-32)) 3 44 9 0 0,
  ze0 44 .return_ 1 45]
def zm_49 : zMi := ((yX4_useBy, cX4_useBy, 3, none), (4, 2, 2), zt_49, [(9, [0, 1, 2]), (38, [0, 1, 2])])
/-- NotWhereYesterday$Rounds.used()I -/
def zt_50 : zT := [ze0 0 (.aload_n 0) 1 1, zex 1 (.getfield 31) 3 4 4 11 2, zcal 4 (.invokevirtual 147) 3 7 36 1 0 3, ze0 7 .ireturn 1 8]
def zm_50 : zMi := ((yX4_used, cX4_used, 1, (some .int)), (4, 1, 3), zt_50, [])
/-- NotWhereYesterday$Rounds.lasting(I)I -/
def zt_51 : zT := [ze0 0 (.aload_n 0) 1 1, ze0 1 (.iload_n 1) 1 2, zcal 2 (.invokevirtual 151) 3 5 49 2 1 4, zev32 5 (.iconst 1) 1 6 1, ze0 6 (.istore_n 2) 1 7, zev32 7 (.iconst 0) 1 8 0,
  ze0 8 (.istore_n 3) 1 9, ze0 9 (.iload_n 3) 1 10, zev32 10 (.bipush 120) 2 12 120, zex 12 (.if_icmp .gt 73) 3 15 85 0 0, ze0 15 (.iload_n 2) 1 16, zex 16 (.ifCond .eq 69) 3 19 85 0 0,
  zev32 19 (.iconst 0) 1 20 0, ze0 20 (.istore_n 2) 1 21, zev32 21 (.iconst 0) 1 22 0, ze0 22 (.istore 4) 2 24, ze0 24 (.iload 4) 2 26, ze0 26 (.aload_n 0) 1 27,
  zex 27 (.getfield 78) 3 30 4 18 0, zex 30 (.if_icmp .ge 49) 3 33 79 0 0, ze0 33 (.aload_n 0) 1 34, zex 34 (.getfield 31) 3 37 4 11 2, ze0 37 (.iload 4) 2 39, zcal 39 (.invokevirtual 154) 3 42 31 2 0 3,
  zex 42 (.ifCond .eq 31) 3 45 73 0 0, ze0 45 (.aload_n 0) 1 46, zex 46 (.getfield 26) 3 49 4 10 2, ze0 49 (.iload 4) 2 51, ze0 51 .aaload 1 52, ze0 52 (.aload_n 0) 1 53,
  zex 53 (.getfield 31) 3 56 4 11 2, zcal 56 (.invokevirtual 157) 3 59 32 2 0 3, zex 59 (.ifCond .ne 14) 3 62 73 0 0, ze0 62 (.aload_n 0) 1 63, zex 63 (.getfield 31) 3 66 4 11 2, ze0 66 (.iload 4) 2 68,
  zcal 68 (.invokevirtual 161) 3 71 30 2 1 3, zev32 71 (.iconst 1) 1 72 1, ze0 72 (.istore_n 2) 1 73, zev32 73 (.iinc 4 1) 3 76 1, zex 76 (.goto (-52)) 3 79 24 0 0, zev32 79 (.iinc 3 1) 3 82 1,
  zex 82 (.goto (-73)) 3 85 9 0 0, ze0 85 (.aload_n 0) 1 86, zex 86 (.getfield 31) 3 89 4 11 2, zcal 89 (.invokevirtual 147) 3 92 36 1 0 3, ze0 92 .ireturn 1 93]
def zm_51 : zMi := ((yX4_lasting, cX4_lasting, 5, (some .int)), (4, 2, 3), zt_51, [(9, [0, 2, 3]), (24, [0, 2, 3, 4]), (73, [0, 2, 3, 4]), (85, [0])])
/-- NotWhereYesterday$Rounds.shortestRound()I -/
def zt_52 : zT := [zev32 0 (.iconst 0) 1 1 0, ze0 1 (.istore_n 1) 1 2, zev32 2 (.iconst 0) 1 3 0, ze0 3 (.istore_n 2) 1 4, ze0 4 (.iload_n 2) 1 5, ze0 5 (.aload_n 0) 1 6,
  zex 6 (.getfield 78) 3 9 4 18 0, zex 9 (.if_icmp .ge 51) 3 12 60 0 0, ze0 12 (.aload_n 0) 1 13, zex 13 (.getfield 31) 3 16 4 11 2, ze0 16 (.iload_n 2) 1 17, zcal 17 (.invokevirtual 154) 3 20 31 2 0 3,
  zex 20 (.ifCond .eq 12) 3 23 32 0 0, ze0 23 (.aload_n 0) 1 24, ze0 24 (.iload_n 2) 1 25, ze0 25 (.iload_n 2) 1 26, zcal 26 (.invokevirtual 164) 3 29 54 3 0 4, zex 29 (.goto 4) 3 32 33 0 0,
  zev32 32 (.iconst 0) 1 33 0, ze0 33 (.istore_n 3) 1 34, ze0 34 (.iload_n 3) 1 35, zex 35 (.ifCond .le 19) 3 38 54 0 0, ze0 38 (.iload_n 1) 1 39, zex 39 (.ifCond .eq 8) 3 42 47 0 0,
  ze0 42 (.iload_n 3) 1 43, ze0 43 (.iload_n 1) 1 44, zex 44 (.if_icmp .ge 10) 3 47 54 0 0, ze0 47 (.iload_n 3) 1 48, ze0 48 (.istore_n 1) 1 49, ze0 49 (.aload_n 0) 1 50,
  ze0 50 (.iload_n 2) 1 51, zex 51 (.putfield 167) 3 54 4 0 0, zev32 54 (.iinc 2 1) 3 57 1, zex 57 (.goto (-53)) 3 60 4 0 0, ze0 60 (.iload_n 1) 1 61, ze0 61 .ireturn 1 62]
def zm_52 : zMi := ((yX4_shortestRound, cX4_shortestRound, 4, (some .int)), (4, 1, 4), zt_52, [(4, [0, 1, 2]), (33, [0, 1, 2]), (47, [0, 2, 3]), (54, [0, 1, 2])])
/-- NotWhereYesterday$Rounds.nextOnRound(II)I -/
def zt_53 : zT := [zev32 0 (.iconst 0) 1 1 0, ze0 1 (.istore_n 3) 1 2, ze0 2 (.iload_n 3) 1 3, ze0 3 (.aload_n 0) 1 4, zex 4 (.getfield 78) 3 7 4 18 0, zex 7 (.if_icmp .ge 60) 3 10 67 0 0,
  ze0 10 (.aload_n 0) 1 11, zex 11 (.getfield 31) 3 14 4 11 2, ze0 14 (.iload_n 3) 1 15, zcal 15 (.invokevirtual 154) 3 18 31 2 0 3, zex 18 (.ifCond .eq 43) 3 21 61 0 0, ze0 21 (.aload_n 0) 1 22,
  zex 22 (.getfield 26) 3 25 4 10 2, ze0 25 (.iload_n 1) 1 26, ze0 26 .aaload 1 27, ze0 27 (.iload_n 3) 1 28, zcal 28 (.invokevirtual 154) 3 31 31 2 0 3, zex 31 (.ifCond .eq 30) 3 34 61 0 0,
  ze0 34 (.iload_n 2) 1 35, zev32 35 (.iconst 1) 1 36 1, zex 36 (.if_icmp .ne 11) 3 39 47 0 0, ze0 39 (.iload_n 3) 1 40, ze0 40 (.iload_n 1) 1 41, zex 41 (.if_icmp .ne 20) 3 44 61 0 0,
  zex 44 (.goto 15) 3 47 59 0 0, ze0 47 (.aload_n 0) 1 48, ze0 48 (.iload_n 3) 1 49, ze0 49 (.iload_n 1) 1 50, zcal 50 (.invokevirtual 164) 3 53 54 3 0 4, ze0 53 (.iload_n 2) 1 54,
  zev32 54 (.iconst 1) 1 55 1, ze0 55 .isub 1 56, zex 56 (.if_icmp .ne 5) 3 59 61 0 0, ze0 59 (.iload_n 3) 1 60, ze0 60 .ireturn 1 61, zev32 61 (.iinc 3 1) 3 64 1,
  zex 64 (.goto (-62)) 3 67 2 0 0, ze0 67 (.iload_n 1) 1 68, ze0 68 .ireturn 1 69]
def zm_53 : zMi := ((yX4_nextOnRound, cX4_nextOnRound, 4, (some .int)), (4, 3, 4), zt_53, [(2, [0, 1, 2, 3]), (59, [3]), (61, [0, 1, 2, 3])])
/-- NotWhereYesterday$Rounds.stepsTo(II)I -/
def zt_54 : zT := [ze0 0 (.aload_n 0) 1 1, zex 1 (.getfield 38) 3 4 4 13 2, zcal 4 (.invokevirtual 95) 3 7 27 1 1 3, ze0 7 (.aload_n 0) 1 8, zex 8 (.getfield 35) 3 11 4 12 2, ze0 11 (.aload_n 0) 1 12,
  zex 12 (.getfield 26) 3 15 4 10 2, ze0 15 (.iload_n 1) 1 16, ze0 16 .aaload 1 17, zcal 17 (.invokevirtual 170) 3 20 28 2 1 3, ze0 20 (.aload_n 0) 1 21, zex 21 (.getfield 35) 3 24 4 12 2,
  ze0 24 (.aload_n 0) 1 25, zex 25 (.getfield 31) 3 28 4 11 2, zcal 28 (.invokevirtual 174) 3 31 34 2 1 3, zev32 31 (.iconst 1) 1 32 1, ze0 32 (.istore_n 3) 1 33, ze0 33 (.iload_n 3) 1 34,
  zev32 34 (.bipush 120) 2 36 120, zex 36 (.if_icmp .gt 60) 3 39 96 0 0, ze0 39 (.aload_n 0) 1 40, zex 40 (.getfield 35) 3 43 4 12 2, ze0 43 (.iload_n 2) 1 44, zcal 44 (.invokevirtual 154) 3 47 31 2 0 3,
  zex 47 (.ifCond .eq 5) 3 50 52 0 0, ze0 50 (.iload_n 3) 1 51, ze0 51 .ireturn 1 52, ze0 52 (.aload_n 0) 1 53, zex 53 (.getfield 35) 3 56 4 12 2, zcal 56 (.invokevirtual 147) 3 59 36 1 0 3,
  zex 59 (.ifCond .ne 5) 3 62 64 0 0, zev32 62 (.iconst 0) 1 63 0, ze0 63 .ireturn 1 64, ze0 64 (.aload_n 0) 1 65, zex 65 (.getfield 38) 3 68 4 13 2, ze0 68 (.aload_n 0) 1 69,
  zex 69 (.getfield 35) 3 72 4 12 2, zcal 72 (.invokevirtual 177) 3 75 33 2 1 3, ze0 75 (.aload_n 0) 1 76, zcal 76 (.invokevirtual 180) 3 79 55 1 1 4, ze0 79 (.aload_n 0) 1 80, zex 80 (.getfield 35) 3 83 4 12 2,
  ze0 83 (.aload_n 0) 1 84, zex 84 (.getfield 38) 3 87 4 13 2, zcal 87 (.invokevirtual 183) 3 90 35 2 1 3, zev32 90 (.iinc 3 1) 3 93 1, zex 93 (.goto (-60)) 3 96 33 0 0, zev32 96 (.iconst 0) 1 97 0,
  ze0 97 .ireturn 1 98]
def zm_54 : zMi := ((yX4_stepsTo, cX4_stepsTo, 4, (some .int)), (4, 3, 3), zt_54, [(33, [0, 2, 3])])
/-- NotWhereYesterday$Rounds.advance()V -/
def zt_55 : zT := [ze0 0 (.aload_n 0) 1 1, zex 1 (.getfield 41) 3 4 4 14 2, zcal 4 (.invokevirtual 95) 3 7 27 1 1 3, zev32 7 (.iconst 0) 1 8 0, ze0 8 (.istore_n 1) 1 9, ze0 9 (.iload_n 1) 1 10,
  ze0 10 (.aload_n 0) 1 11, zex 11 (.getfield 78) 3 14 4 18 0, zex 14 (.if_icmp .ge 33) 3 17 47 0 0, ze0 17 (.aload_n 0) 1 18, zex 18 (.getfield 35) 3 21 4 12 2, ze0 21 (.iload_n 1) 1 22,
  zcal 22 (.invokevirtual 154) 3 25 31 2 0 3, zex 25 (.ifCond .eq 16) 3 28 41 0 0, ze0 28 (.aload_n 0) 1 29, zex 29 (.getfield 41) 3 32 4 14 2, ze0 32 (.aload_n 0) 1 33, zex 33 (.getfield 26) 3 36 4 10 2,
  ze0 36 (.iload_n 1) 1 37, ze0 37 .aaload 1 38, zcal 38 (.invokevirtual 177) 3 41 33 2 1 3, zev32 41 (.iinc 1 1) 3 44 1, zex 44 (.goto (-35)) 3 47 9 0 0, ze0 47 (.aload_n 0) 1 48,
  zex 48 (.getfield 41) 3 51 4 14 2, ze0 51 (.aload_n 0) 1 52, zex 52 (.getfield 31) 3 55 4 11 2, zcal 55 (.invokevirtual 174) 3 58 34 2 1 3, ze0 58 (.aload_n 0) 1 59, zex 59 (.getfield 35) 3 62 4 12 2,
  ze0 62 (.aload_n 0) 1 63, zex 63 (.getfield 41) 3 66 4 14 2, zcal 66 (.invokevirtual 170) 3 69 28 2 1 3, ze0 69 .return_ 1 70]
def zm_55 : zMi := ((yX4_advance, cX4_advance, 2, none), (4, 1, 2), zt_55, [(9, [0, 1]), (41, [0, 1])])
/-- NotWhereYesterday$Rounds.daysFromYesterday()I -/
def zt_56 : zT := [ze0 0 (.aload_n 0) 1 1, zex 1 (.getfield 35) 3 4 4 12 2, ze0 4 (.aload_n 0) 1 5, zex 5 (.getfield 31) 3 8 4 11 2, zcal 8 (.invokevirtual 170) 3 11 28 2 1 3, ze0 11 (.aload_n 0) 1 12,
  zex 12 (.getfield 61) 3 15 4 5 2, zex 15 (.getfield 186) 3 18 6 6 0, zex 18 (.ifCond .le 7) 3 21 25 0 0, ze0 21 (.aload_n 0) 1 22, zcal 22 (.invokevirtual 191) 3 25 57 1 1 4, zev32 25 (.iconst 0) 1 26 0,
  ze0 26 (.istore_n 1) 1 27, ze0 27 (.iload_n 1) 1 28, zev32 28 (.bipush 20) 2 30 20, zex 30 (.if_icmp .ge 25) 3 33 55 0 0, ze0 33 (.aload_n 0) 1 34, zex 34 (.getfield 35) 3 37 4 12 2,
  zcal 37 (.invokevirtual 147) 3 40 36 1 0 3, zex 40 (.ifCond .ne 5) 3 43 45 0 0, ze0 43 (.iload_n 1) 1 44, ze0 44 .ireturn 1 45, ze0 45 (.aload_n 0) 1 46, zcal 46 (.invokevirtual 180) 3 49 55 1 1 4,
  zev32 49 (.iinc 1 1) 3 52 1, zex 52 (.goto (-25)) 3 55 27 0 0, zev32 55 (.bipush 20) 2 57 20, ze0 57 .ireturn 1 58]
def zm_56 : zMi := ((yX4_daysFromYesterday, cX4_daysFromYesterday, 2, (some .int)), (4, 1, 4), zt_56, [(25, [0]), (27, [0, 1])])
/-- NotWhereYesterday$Rounds.keepBehindYesterday()V -/
def zt_57 : zT := [zev32 0 (.iconst 0) 1 1 0, ze0 1 (.istore_n 1) 1 2, zev32 2 (.iconst 0) 1 3 0, ze0 3 (.istore_n 2) 1 4, zev32 4 (.iconst 0) 1 5 0, ze0 5 (.istore_n 3) 1 6,
  ze0 6 (.iload_n 3) 1 7, ze0 7 (.aload_n 0) 1 8, zex 8 (.getfield 53) 3 11 4 3 2, zex 11 (.getfield 75) 3 14 1 1 0, zex 14 (.if_icmp .ge 65) 3 17 79 0 0, ze0 17 (.aload_n 0) 1 18,
  zex 18 (.getfield 61) 3 21 4 5 2, ze0 21 (.aload_n 0) 1 22, zex 22 (.getfield 61) 3 25 4 5 2, zex 25 (.getfield 186) 3 28 6 6 0, zev32 28 (.iconst 1) 1 29 1, ze0 29 .isub 1 30,
  ze0 30 (.iload_n 3) 1 31, zcal 31 (.invokevirtual 194) 3 34 80 3 0 6, ze0 34 (.istore 4) 2 36, ze0 36 (.iload_n 1) 1 37, ze0 37 (.aload_n 0) 1 38, ze0 38 (.iload 4) 2 40,
  ze0 40 (.iload_n 3) 1 41, zcal 41 (.invokevirtual 131) 3 44 47 3 0 4, ze0 44 .ior 1 45, ze0 45 (.istore_n 1) 1 46, ze0 46 (.iload_n 2) 1 47, ze0 47 (.aload_n 0) 1 48,
  zex 48 (.getfield 61) 3 51 4 5 2, ze0 51 (.aload_n 0) 1 52, zex 52 (.getfield 61) 3 55 4 5 2, zex 55 (.getfield 186) 3 58 6 6 0, zev32 58 (.iconst 1) 1 59 1, ze0 59 .isub 1 60,
  ze0 60 (.iload_n 3) 1 61, zev32 61 (.iconst 1) 1 62 1, ze0 62 .isub 1 63, zcal 63 (.invokevirtual 194) 3 66 80 3 0 6, ze0 66 (.iload 4) 2 68, zcal 68 (.invokestatic 128) 3 71 43 2 0 4,
  ze0 71 .ior 1 72, ze0 72 (.istore_n 2) 1 73, zev32 73 (.iinc 3 1) 3 76 1, zex 76 (.goto (-70)) 3 79 6 0 0, ze0 79 (.aload_n 0) 1 80, zex 80 (.getfield 57) 3 83 4 4 2,
  zex 83 (.getfield 98) 3 86 2 0 2, zev32 86 (.iconst 1) 1 87 1, ze0 87 .iaload 1 88, zex 88 (.ifCond .ne 5) 3 91 93 0 0, zev32 91 (.iconst 0) 1 92 0, ze0 92 (.istore_n 2) 1 93,
  zev32 93 (.iconst 0) 1 94 0, ze0 94 (.istore_n 3) 1 95, ze0 95 (.iload_n 3) 1 96, ze0 96 (.aload_n 0) 1 97, zex 97 (.getfield 78) 3 100 4 18 0, zex 100 (.if_icmp .ge 39) 3 103 139 0 0,
  ze0 103 (.aload_n 0) 1 104, zex 104 (.getfield 18) 3 107 4 8 2, ze0 107 (.iload_n 3) 1 108, ze0 108 .iaload 1 109, ze0 109 (.iload_n 1) 1 110, ze0 110 .iand 1 111,
  zex 111 (.ifCond .ne 14) 3 114 125 0 0, ze0 114 (.aload_n 0) 1 115, zex 115 (.getfield 21) 3 118 4 9 2, ze0 118 (.iload_n 3) 1 119, ze0 119 .iaload 1 120, ze0 120 (.iload_n 2) 1 121,
  ze0 121 .iand 1 122, zex 122 (.ifCond .eq 11) 3 125 133 0 0, ze0 125 (.aload_n 0) 1 126, zex 126 (.getfield 35) 3 129 4 12 2, ze0 129 (.iload_n 3) 1 130, zcal 130 (.invokevirtual 161) 3 133 30 2 1 3,
  zev32 133 (.iinc 3 1) 3 136 1, zex 136 (.goto (-41)) 3 139 95 0 0, ze0 139 .return_ 1 140]
def zm_57 : zMi := ((yX4_keepBehindYesterday, cX4_keepBehindYesterday, 5, none), (4, 1, 3), zt_57, [(6, [0, 1, 2, 3]), (93, [0, 1, 2]), (95, [0, 1, 2, 3]), (125, [0, 1, 2, 3]), (133, [0, 1, 2, 3])])
/-- NotWhereYesterday$Rounds.fewestLessons()I -/
def zt_58 : zT := [ze0 0 (.aload_n 0) 1 1, zcal 1 (.invokevirtual 197) 3 4 48 1 0 4, ze0 4 (.istore_n 1) 1 5, ze0 5 (.aload_n 0) 1 6, ze0 6 (.iload_n 1) 1 7, zcal 7 (.invokevirtual 200) 3 10 51 2 0 4,
  zex 10 (.ifCond .le 5) 3 13 15 0 0, zev32 13 (.iconst 0) 1 14 0, ze0 14 .ireturn 1 15, ze0 15 (.aload_n 0) 1 16, zex 16 (.getfield 53) 3 19 4 3 2, zex 19 (.getfield 69) 3 22 1 0 0,
  zev32 22 (.bipush 6) 2 24 6, ze0 24 .imul 1 25, ze0 25 (.istore_n 2) 1 26, zev32 26 (.iconst 0) 1 27 0, ze0 27 (.istore_n 3) 1 28, ze0 28 (.iload_n 3) 1 29,
  ze0 29 (.iload_n 2) 1 30, zex 30 (.if_icmp .ge 43) 3 33 73 0 0, ze0 33 (.aload_n 0) 1 34, ze0 34 (.iload_n 3) 1 35, zcal 35 (.invokevirtual 203) 3 38 60 2 0 4, ze0 38 (.iload_n 1) 1 39,
  zev32 39 (.iconst (-1)) 1 40 (-1), ze0 40 .ixor 1 41, ze0 41 .iand 1 42, ze0 42 (.istore 4) 2 44, ze0 44 (.iload 4) 2 46, zex 46 (.ifCond .eq 21) 3 49 67 0 0,
  ze0 49 (.aload_n 0) 1 50, ze0 50 (.iload_n 1) 1 51, ze0 51 (.iload 4) 2 53, ze0 53 .ior 1 54, zcal 54 (.invokevirtual 200) 3 57 51 2 0 4, zex 57 (.ifCond .le 10) 3 60 67 0 0,
  ze0 60 (.aload_n 0) 1 61, ze0 61 (.iload_n 3) 1 62, zex 62 (.putfield 167) 3 65 4 0 0, zev32 65 (.iconst 1) 1 66 1, ze0 66 .ireturn 1 67, zev32 67 (.iinc 3 1) 3 70 1,
  zex 70 (.goto (-42)) 3 73 28 0 0, zev32 73 (.iconst 0) 1 74 0, ze0 74 (.istore_n 3) 1 75, ze0 75 (.iload_n 3) 1 76, ze0 76 (.iload_n 2) 1 77, zex 77 (.if_icmp .ge 38) 3 80 115 0 0,
  ze0 80 (.aload_n 0) 1 81, ze0 81 (.iload_n 3) 1 82, zcal 82 (.invokevirtual 203) 3 85 60 2 0 4, ze0 85 (.iload_n 1) 1 86, zev32 86 (.iconst (-1)) 1 87 (-1), ze0 87 .ixor 1 88,
  ze0 88 .iand 1 89, zex 89 (.ifCond .eq 20) 3 92 109 0 0, ze0 92 (.aload_n 0) 1 93, ze0 93 (.iload_n 3) 1 94, ze0 94 (.iload_n 2) 1 95, ze0 95 (.iload_n 1) 1 96,
  zcal 96 (.invokevirtual 206) 3 99 59 4 0 4, zex 99 (.ifCond .eq 10) 3 102 109 0 0, ze0 102 (.aload_n 0) 1 103, ze0 103 (.iload_n 3) 1 104, zex 104 (.putfield 167) 3 107 4 0 0, zev32 107 (.iconst 2) 1 108 2,
  ze0 108 .ireturn 1 109, zev32 109 (.iinc 3 1) 3 112 1, zex 112 (.goto (-37)) 3 115 75 0 0, zev32 115 (.iconst (-1)) 1 116 (-1), ze0 116 .ireturn 1 117]
def zm_58 : zMi := ((yX4_fewestLessons, cX4_fewestLessons, 5, (some .int)), (4, 1, 5), zt_58, [(28, [0, 1, 2, 3]), (67, [0, 1, 2, 3]), (75, [0, 1, 2, 3]), (109, [0, 1, 2, 3])])
/-- NotWhereYesterday$Rounds.addsUp(III)Z -/
def zt_59 : zT := [ze0 0 (.iload_n 3) 1 1, ze0 1 (.aload_n 0) 1 2, ze0 2 (.iload_n 1) 1 3, zcal 3 (.invokevirtual 203) 3 6 60 2 0 4, ze0 6 .ior 1 7, ze0 7 (.istore 4) 2 9,
  ze0 9 (.iload_n 1) 1 10, zev32 10 (.iconst 1) 1 11 1, ze0 11 .iadd 1 12, ze0 12 (.istore 5) 2 14, ze0 14 (.iload 5) 2 16, ze0 16 (.iload_n 2) 1 17,
  zex 17 (.if_icmp .ge 44) 3 20 61 0 0, ze0 20 (.iload 4) 2 22, ze0 22 (.aload_n 0) 1 23, ze0 23 (.iload 5) 2 25, zcal 25 (.invokevirtual 203) 3 28 60 2 0 4, ze0 28 .ior 1 29,
  ze0 29 (.istore 6) 2 31, ze0 31 (.iload 6) 2 33, ze0 33 (.iload 4) 2 35, zex 35 (.if_icmp .eq 20) 3 38 55 0 0, ze0 38 (.aload_n 0) 1 39, ze0 39 (.iload 6) 2 41,
  zcal 41 (.invokevirtual 200) 3 44 51 2 0 4, zex 44 (.ifCond .le 11) 3 47 55 0 0, ze0 47 (.aload_n 0) 1 48, ze0 48 (.iload 5) 2 50, zex 50 (.putfield 210) 3 53 4 1 0, zev32 53 (.iconst 1) 1 54 1,
  ze0 54 .ireturn 1 55, zev32 55 (.iinc 5 1) 3 58 1, zex 58 (.goto (-44)) 3 61 14 0 0, zev32 61 (.iconst 0) 1 62 0, ze0 62 .ireturn 1 63]
def zm_59 : zMi := ((yX4_addsUp, cX4_addsUp, 7, (some .boolean)), (4, 4, 4), zt_59, [(14, [0, 2, 4, 5]), (55, [0, 2, 4, 5])])
/-- NotWhereYesterday$Rounds.lessonBits(I)I -/
def zt_60 : zT := [zev32 0 (.iconst 0) 1 1 0, ze0 1 (.istore_n 2) 1 2, zev32 2 (.iconst 0) 1 3 0, ze0 3 (.istore_n 3) 1 4, ze0 4 (.iload_n 3) 1 5, ze0 5 (.aload_n 0) 1 6,
  zex 6 (.getfield 53) 3 9 4 3 2, zex 9 (.getfield 75) 3 12 1 1 0, zex 12 (.if_icmp .ge 36) 3 15 48 0 0, ze0 15 (.aload_n 0) 1 16, zex 16 (.getfield 53) 3 19 4 3 2, zex 19 (.getfield 213) 3 22 1 3 2,
  ze0 22 (.iload_n 3) 1 23, ze0 23 .iaload 1 24, ze0 24 (.iload_n 1) 1 25, zev32 25 (.bipush 6) 2 27 6, ze0 27 .irem 1 28, zex 28 (.if_icmp .ne 14) 3 31 42 0 0,
  ze0 31 (.iload_n 2) 1 32, ze0 32 (.iload_n 1) 1 33, zev32 33 (.bipush 6) 2 35 6, ze0 35 .idiv 1 36, ze0 36 (.iload_n 3) 1 37, zcal 37 (.invokestatic 125) 3 40 42 2 0 4,
  ze0 40 .ior 1 41, ze0 41 (.istore_n 2) 1 42, zev32 42 (.iinc 3 1) 3 45 1, zex 45 (.goto (-41)) 3 48 4 0 0, ze0 48 (.iload_n 2) 1 49, ze0 49 .ireturn 1 50]
def zm_60 : zMi := ((yX4_lessonBits, cX4_lessonBits, 4, (some .int)), (4, 2, 2), zt_60, [(4, [0, 1, 2, 3]), (42, [0, 1, 2, 3])])
/-- NotWhereYesterday$Rounds.mostParts(I)I -/
def zt_61 : zT := [ze0 0 (.aload_n 0) 1 1, zcal 1 (.invokevirtual 197) 3 4 48 1 0 4, ze0 4 (.istore_n 2) 1 5, zev32 5 (.iconst 0) 1 6 0, ze0 6 (.istore_n 3) 1 7, ze0 7 (.iload_n 3) 1 8,
  ze0 8 (.iload_n 1) 1 9, zex 9 (.if_icmp .ge 20) 3 12 29 0 0, ze0 12 (.iload_n 3) 1 13, zev32 13 (.iconst 3) 1 14 3, zex 14 (.if_icmp .ge 15) 3 17 29 0 0, ze0 17 (.aload_n 0) 1 18,
  ze0 18 (.iload_n 3) 1 19, ze0 19 (.iload_n 2) 1 20, zcal 20 (.invokevirtual 216) 3 23 62 3 1 4, zev32 23 (.iinc 3 1) 3 26 1, zex 26 (.goto (-19)) 3 29 7 0 0, ze0 29 (.iload_n 1) 1 30,
  zev32 30 (.iconst 1) 1 31 1, ze0 31 .isub 1 32, ze0 32 (.istore_n 3) 1 33, ze0 33 (.iload_n 3) 1 34, zex 34 (.ifCond .lt 59) 3 37 93 0 0, zev32 37 (.iconst 0) 1 38 0,
  ze0 38 (.istore 4) 2 40, ze0 40 (.iload 4) 2 42, ze0 42 (.aload_n 0) 1 43, zex 43 (.getfield 78) 3 46 4 18 0, zex 46 (.if_icmp .ge 41) 3 49 87 0 0, ze0 49 (.aload_n 0) 1 50,
  zex 50 (.getfield 47) 3 53 4 16 2, ze0 53 (.iload_n 3) 1 54, zev32 54 (.bipush 120) 2 56 120, ze0 56 .imul 1 57, ze0 57 (.iload 4) 2 59, ze0 59 .iadd 1 60,
  ze0 60 (.iload_n 3) 1 61, ze0 61 (.iload_n 1) 1 62, zev32 62 (.iconst 1) 1 63 1, ze0 63 .isub 1 64, zex 64 (.if_icmp .ne 7) 3 67 71 0 0, zev32 67 (.iconst 0) 1 68 0,
  zex 68 (.goto 12) 3 71 80 0 0, ze0 71 (.aload_n 0) 1 72, ze0 72 (.iload 4) 2 74, ze0 74 (.iload_n 3) 1 75, zev32 75 (.iconst 1) 1 76 1, ze0 76 .iadd 1 77,
  zcal 77 (.invokevirtual 219) 3 80 63 3 0 4, ze0 80 .iastore 1 81, zev32 81 (.iinc 4 1) 3 84 1, zex 84 (.goto (-44)) 3 87 40 0 0, zev32 87 (.iinc 3 (-1)) 3 90 (-1), zex 90 (.goto (-57)) 3 93 33 0 0,
  ze0 93 (.aload_n 0) 1 94, zev32 94 (.iconst (-1)) 1 95 (-1), zex 95 (.putfield 222) 3 98 4 19 0, ze0 98 (.aload_n 0) 1 99, zev32 99 (.iconst 0) 1 100 0, ze0 100 (.iload_n 1) 1 101,
  zev32 101 (.iconst 0) 1 102 0, zcal 102 (.invokevirtual 225) 3 105 64 4 1 4, ze0 105 (.aload_n 0) 1 106, zex 106 (.getfield 222) 3 109 4 19 0, ze0 109 .ireturn 1 110]
def zm_61 : zMi := ((yX4_mostParts, cX4_mostParts, 5, (some .int)), (4, 2, 6), zt_61, [(7, [0, 1, 2, 3]), (29, [0, 1]), (33, [0, 1, 3]), (40, [0, 1, 3, 4]), (80, [0, 1, 3, 4])])
/-- NotWhereYesterday$Rounds.findFit(II)V -/
def zt_62 : zT := [ze0 0 (.aload_n 0) 1 1, zex 1 (.getfield 61) 3 4 4 5 2, zex 4 (.getfield 186) 3 7 6 6 0, ze0 7 (.iload_n 1) 1 8, ze0 8 .iadd 1 9, ze0 9 (.istore_n 3) 1 10,
  ze0 10 (.iload_n 2) 1 11, zev32 11 (.iconst (-1)) 1 12 (-1), ze0 12 .ixor 1 13, ze0 13 (.istore 4) 2 15, zev32 15 (.iconst 0) 1 16 0, ze0 16 (.istore 5) 2 18,
  zev32 18 (.iconst 0) 1 19 0, ze0 19 (.istore 6) 2 21, ze0 21 (.iload 6) 2 23, ze0 23 (.aload_n 0) 1 24, zex 24 (.getfield 53) 3 27 4 3 2, zex 27 (.getfield 69) 3 30 1 0 0,
  zex 30 (.if_icmp .ge 116) 3 33 146 0 0, zev32 33 (.iconst 0) 1 34 0, ze0 34 (.istore 7) 2 36, ze0 36 (.iload 7) 2 38, ze0 38 (.aload_n 0) 1 39, zex 39 (.getfield 53) 3 42 4 3 2,
  zex 42 (.getfield 75) 3 45 1 1 0, zex 45 (.if_icmp .ge 40) 3 48 85 0 0, ze0 48 (.iload 4) 2 50, ze0 50 (.aload_n 0) 1 51, zex 51 (.getfield 65) 3 54 4 6 2, ze0 54 (.iload 6) 2 56,
  ze0 56 (.iload 7) 2 58, ze0 58 (.iload_n 3) 1 59, zcal 59 (.invokevirtual 229) 3 62 92 4 0 7, zex 62 (.ifCond .eq 13) 3 65 75 0 0, ze0 65 (.iload 6) 2 67, ze0 67 (.iload 7) 2 69,
  zcal 69 (.invokestatic 125) 3 72 42 2 0 4, zex 72 (.goto 4) 3 75 76 0 0, zev32 75 (.iconst 0) 1 76 0, ze0 76 .ior 1 77, ze0 77 (.istore 4) 2 79, zev32 79 (.iinc 7 1) 3 82 1,
  zex 82 (.goto (-46)) 3 85 36 0 0, ze0 85 (.iload 6) 2 87, zev32 87 (.iconst 1) 1 88 1, ze0 88 .iadd 1 89, ze0 89 (.istore 7) 2 91, ze0 91 (.iload 7) 2 93,
  ze0 93 (.aload_n 0) 1 94, zex 94 (.getfield 53) 3 97 4 3 2, zex 97 (.getfield 69) 3 100 1 0 0, zex 100 (.if_icmp .ge 40) 3 103 140 0 0, ze0 103 (.iload 5) 2 105, ze0 105 (.aload_n 0) 1 106,
  zex 106 (.getfield 65) 3 109 4 6 2, ze0 109 (.iload 6) 2 111, ze0 111 (.iload 7) 2 113, ze0 113 (.iload_n 3) 1 114, zcal 114 (.invokevirtual 233) 3 117 93 4 0 7, zex 117 (.ifCond .eq 7) 3 120 124 0 0,
  zev32 120 (.iconst 0) 1 121 0, zex 121 (.goto 10) 3 124 131 0 0, ze0 124 (.iload 6) 2 126, ze0 126 (.iload 7) 2 128, zcal 128 (.invokestatic 128) 3 131 43 2 0 4, ze0 131 .ior 1 132,
  ze0 132 (.istore 5) 2 134, zev32 134 (.iinc 7 1) 3 137 1, zex 137 (.goto (-46)) 3 140 91 0 0, zev32 140 (.iinc 6 1) 3 143 1, zex 143 (.goto (-122)) 3 146 21 0 0, ze0 146 (.aload_n 0) 1 147,
  zex 147 (.getfield 44) 3 150 4 15 2, ze0 150 (.iload_n 1) 1 151, ze0 151 .aaload 1 152, zcal 152 (.invokevirtual 95) 3 155 27 1 1 3, zev32 155 (.iconst 0) 1 156 0, ze0 156 (.istore 6) 2 158,
  ze0 158 (.iload 6) 2 160, ze0 160 (.aload_n 0) 1 161, zex 161 (.getfield 78) 3 164 4 18 0, zex 164 (.if_icmp .ge 46) 3 167 210 0 0, ze0 167 (.aload_n 0) 1 168, zex 168 (.getfield 18) 3 171 4 8 2,
  ze0 171 (.iload 6) 2 173, ze0 173 .iaload 1 174, ze0 174 (.iload 4) 2 176, ze0 176 .iand 1 177, zex 177 (.ifCond .ne 27) 3 180 204 0 0, ze0 180 (.aload_n 0) 1 181,
  zex 181 (.getfield 21) 3 184 4 9 2, ze0 184 (.iload 6) 2 186, ze0 186 .iaload 1 187, ze0 187 (.iload 5) 2 189, ze0 189 .iand 1 190, zex 190 (.ifCond .ne 14) 3 193 204 0 0,
  ze0 193 (.aload_n 0) 1 194, zex 194 (.getfield 44) 3 197 4 15 2, ze0 197 (.iload_n 1) 1 198, ze0 198 .aaload 1 199, ze0 199 (.iload 6) 2 201, zcal 201 (.invokevirtual 103) 3 204 29 2 1 3,
  zev32 204 (.iinc 6 1) 3 207 1, zex 207 (.goto (-49)) 3 210 158 0 0, ze0 210 .return_ 1 211]
def zm_62 : zMi := ((yX4_findFit, cX4_findFit, 8, none), (4, 3, 5), zt_62, [(21, [0, 1, 3, 4, 5, 6]), (36, [0, 1, 3, 4, 5, 6, 7]), (76, [0, 1, 3, 5, 6, 7]), (91, [0, 1, 3, 4, 5, 6, 7]), (131, [0, 1, 3, 4, 6, 7]), (158, [0, 1, 4, 5, 6]), (204, [0, 1, 4, 5, 6])])
/-- NotWhereYesterday$Rounds.hopeBehind(II)I -/
def zt_63 : zT := [zev32 0 (.iconst (-1)) 1 1 (-1), ze0 1 (.istore_n 3) 1 2, zev32 2 (.iconst 0) 1 3 0, ze0 3 (.istore 4) 2 5, ze0 5 (.iload 4) 2 7, ze0 7 (.aload_n 0) 1 8,
  zex 8 (.getfield 78) 3 11 4 18 0, zex 11 (.if_icmp .ge 71) 3 14 82 0 0, ze0 14 (.aload_n 0) 1 15, zex 15 (.getfield 47) 3 18 4 16 2, ze0 18 (.iload_n 2) 1 19, zev32 19 (.bipush 120) 2 21 120,
  ze0 21 .imul 1 22, ze0 22 (.iload 4) 2 24, ze0 24 .iadd 1 25, ze0 25 .iaload 1 26, ze0 26 (.istore 5) 2 28, ze0 28 (.iload 5) 2 30,
  zex 30 (.ifCond .lt 46) 3 33 76 0 0, ze0 33 (.aload_n 0) 1 34, zex 34 (.getfield 44) 3 37 4 15 2, ze0 37 (.iload_n 2) 1 38, ze0 38 .aaload 1 39, ze0 39 (.iload 4) 2 41,
  zcal 41 (.invokevirtual 154) 3 44 31 2 0 3, zex 44 (.ifCond .eq 32) 3 47 76 0 0, ze0 47 (.aload_n 0) 1 48, zex 48 (.getfield 26) 3 51 4 10 2, ze0 51 (.iload_n 1) 1 52, ze0 52 .aaload 1 53,
  ze0 53 (.iload 4) 2 55, zcal 55 (.invokevirtual 154) 3 58 31 2 0 3, zex 58 (.ifCond .eq 18) 3 61 76 0 0, ze0 61 (.iload_n 3) 1 62, ze0 62 (.iload 5) 2 64, ze0 64 (.aload_n 0) 1 65,
  ze0 65 (.iload_n 1) 1 66, ze0 66 (.iload 4) 2 68, zcal 68 (.invokevirtual 236) 3 71 67 3 0 4, ze0 71 .iadd 1 72, zcal 72 (.invokestatic 119) 3 75 0 2 8 0, ze0 75 (.istore_n 3) 1 76,
  zev32 76 (.iinc 4 1) 3 79 1, zex 79 (.goto (-74)) 3 82 5 0 0, ze0 82 (.iload_n 3) 1 83, ze0 83 .ireturn 1 84]
def zm_63 : zMi := ((yX4_hopeBehind, cX4_hopeBehind, 6, (some .int)), (4, 3, 3), zt_63, [(5, [0, 1, 2, 3, 4]), (76, [0, 1, 2, 3, 4])])
/-- NotWhereYesterday$Rounds.seekChain(III)V -/
def zt_64 : zT := [zev32 0 (.iconst 0) 1 1 0, ze0 1 (.istore 4) 2 3, ze0 3 (.iload 4) 2 5, ze0 5 (.aload_n 0) 1 6, zex 6 (.getfield 78) 3 9 4 18 0, zex 9 (.if_icmp .ge 149) 3 12 158 0 0,
  ze0 12 (.iload_n 1) 1 13, zev32 13 (.iconst 3) 1 14 3, zex 14 (.if_icmp .ge 144) 3 17 158 0 0, ze0 17 (.aload_n 0) 1 18, zex 18 (.getfield 47) 3 21 4 16 2, ze0 21 (.iload_n 1) 1 22,
  zev32 22 (.bipush 120) 2 24 120, ze0 24 .imul 1 25, ze0 25 (.iload 4) 2 27, ze0 27 .iadd 1 28, ze0 28 .iaload 1 29, ze0 29 (.istore 5) 2 31,
  ze0 31 (.iload 5) 2 33, zex 33 (.ifCond .lt 119) 3 36 152 0 0, ze0 36 (.aload_n 0) 1 37, zex 37 (.getfield 44) 3 40 4 15 2, ze0 40 (.iload_n 1) 1 41, ze0 41 .aaload 1 42,
  ze0 42 (.iload 4) 2 44, zcal 44 (.invokevirtual 154) 3 47 31 2 0 3, zex 47 (.ifCond .eq 105) 3 50 152 0 0, ze0 50 (.aload_n 0) 1 51, ze0 51 (.iload_n 1) 1 52, ze0 52 (.iload 4) 2 54,
  zcal 54 (.invokevirtual 239) 3 57 65 3 0 4, zex 57 (.ifCond .ne 6) 3 60 63 0 0, zex 60 (.goto 92) 3 63 152 0 0, ze0 63 (.iload_n 3) 1 64, ze0 64 (.aload_n 0) 1 65, ze0 65 (.iload_n 1) 1 66,
  zex 66 (.ifCond .ne 7) 3 69 73 0 0, zev32 69 (.iconst (-1)) 1 70 (-1), zex 70 (.goto 11) 3 73 81 0 0, ze0 73 (.aload_n 0) 1 74, zex 74 (.getfield 50) 3 77 4 17 2, ze0 77 (.iload_n 1) 1 78,
  zev32 78 (.iconst 1) 1 79 1, ze0 79 .isub 1 80, ze0 80 .iaload 1 81, ze0 81 (.iload 4) 2 83, zcal 83 (.invokevirtual 236) 3 86 67 3 0 4, ze0 86 .iadd 1 87,
  ze0 87 (.istore 6) 2 89, ze0 89 (.iload 6) 2 91, ze0 91 (.iload 5) 2 93, ze0 93 .iadd 1 94, ze0 94 (.aload_n 0) 1 95, zex 95 (.getfield 222) 3 98 4 19 0,
  zex 98 (.if_icmp .gt 6) 3 101 104 0 0, zex 101 (.goto 51) 3 104 152 0 0, ze0 104 (.aload_n 0) 1 105, zex 105 (.getfield 50) 3 108 4 17 2, ze0 108 (.iload_n 1) 1 109, ze0 109 (.iload 4) 2 111,
  ze0 111 .iastore 1 112, ze0 112 (.iload_n 1) 1 113, ze0 113 (.iload_n 2) 1 114, zev32 114 (.iconst 1) 1 115 1, ze0 115 .isub 1 116, zex 116 (.if_icmp .ne 26) 3 119 142 0 0,
  ze0 119 (.aload_n 0) 1 120, ze0 120 (.iload 6) 2 122, zex 122 (.putfield 222) 3 125 4 19 0, ze0 125 (.aload_n 0) 1 126, zex 126 (.getfield 50) 3 129 4 17 2, zev32 129 (.iconst 0) 1 130 0,
  ze0 130 (.aload_n 0) 1 131, zex 131 (.getfield 11) 3 134 4 2 2, zev32 134 (.iconst 0) 1 135 0, ze0 135 (.iload_n 2) 1 136, zcal 136 (.invokestatic 107) 3 139 0 5 6 0, zex 139 (.goto 13) 3 142 152 0 0,
  ze0 142 (.aload_n 0) 1 143, ze0 143 (.iload_n 1) 1 144, zev32 144 (.iconst 1) 1 145 1, ze0 145 .iadd 1 146, ze0 146 (.iload_n 2) 1 147, ze0 147 (.iload 6) 2 149,
  zcal 149 (.invokevirtual 225) 3 152 64 4 3 4, zev32 152 (.iinc 4 1) 3 155 1, zex 155 (.goto (-152)) 3 158 3 0 0, ze0 158 .return_ 1 159]
def zm_64 : zMi := ((yX4_seekChain, cX4_seekChain, 7, none), (4, 4, 4), zt_64, [(3, [0, 1, 2, 3, 4]), (81, [0, 1, 2, 3, 4, 5]), (152, [0, 1, 2, 3, 4]), (158, [])])
/-- NotWhereYesterday$Rounds.followsChain(II)Z -/
def zt_65 : zT := [ze0 0 (.iload_n 1) 1 1, zex 1 (.ifCond .le 25) 3 4 26 0 0, ze0 4 (.aload_n 0) 1 5, zex 5 (.getfield 26) 3 8 4 10 2, ze0 8 (.aload_n 0) 1 9, zex 9 (.getfield 50) 3 12 4 17 2,
  ze0 12 (.iload_n 1) 1 13, zev32 13 (.iconst 1) 1 14 1, ze0 14 .isub 1 15, ze0 15 .iaload 1 16, ze0 16 .aaload 1 17, ze0 17 (.iload_n 2) 1 18,
  zcal 18 (.invokevirtual 154) 3 21 31 2 0 3, zex 21 (.ifCond .ne 5) 3 24 26 0 0, zev32 24 (.iconst 0) 1 25 0, ze0 25 .ireturn 1 26, ze0 26 (.iload_n 1) 1 27, zev32 27 (.iconst 2) 1 28 2,
  zex 28 (.if_icmp .lt 19) 3 31 47 0 0, ze0 31 (.aload_n 0) 1 32, ze0 32 (.aload_n 0) 1 33, zex 33 (.getfield 50) 3 36 4 17 2, ze0 36 (.iload_n 1) 1 37, zev32 37 (.iconst 2) 1 38 2,
  ze0 38 .isub 1 39, ze0 39 .iaload 1 40, ze0 40 (.iload_n 2) 1 41, zcal 41 (.invokevirtual 242) 3 44 66 3 0 4, zex 44 (.ifCond .eq 7) 3 47 51 0 0, zev32 47 (.iconst 1) 1 48 1,
  zex 48 (.goto 4) 3 51 52 0 0, zev32 51 (.iconst 0) 1 52 0, ze0 52 .ireturn 1 53]
def zm_65 : zMi := ((yX4_followsChain, cX4_followsChain, 3, (some .boolean)), (4, 3, 3), zt_65, [(26, [0, 1, 2]), (47, []), (52, [])])
/-- NotWhereYesterday$Rounds.mayFollowByTwo(II)Z -/
def zt_66 : zT := [ze0 0 (.aload_n 0) 1 1, zex 1 (.getfield 57) 3 4 4 4 2, zex 4 (.getfield 98) 3 7 2 0 2, zev32 7 (.iconst 1) 1 8 1, ze0 8 .iaload 1 9, zev32 9 (.iconst 2) 1 10 2,
  zex 10 (.if_icmp .lt 21) 3 13 31 0 0, ze0 13 (.aload_n 0) 1 14, zex 14 (.getfield 21) 3 17 4 9 2, ze0 17 (.iload_n 1) 1 18, ze0 18 .iaload 1 19, ze0 19 (.aload_n 0) 1 20,
  zex 20 (.getfield 21) 3 23 4 9 2, ze0 23 (.iload_n 2) 1 24, ze0 24 .iaload 1 25, ze0 25 .iand 1 26, zex 26 (.ifCond .eq 5) 3 29 31 0 0, zev32 29 (.iconst 0) 1 30 0,
  ze0 30 .ireturn 1 31, zev32 31 (.iconst 0) 1 32 0, ze0 32 (.istore_n 3) 1 33, ze0 33 (.iload_n 3) 1 34, ze0 34 (.aload_n 0) 1 35, zex 35 (.getfield 53) 3 38 4 3 2,
  zex 38 (.getfield 75) 3 41 1 1 0, zex 41 (.if_icmp .ge 50) 3 44 91 0 0, ze0 44 (.aload_n 0) 1 45, zex 45 (.getfield 57) 3 48 4 4 2, zex 48 (.getfield 98) 3 51 2 0 2, zev32 51 (.iconst 0) 1 52 0,
  ze0 52 .iaload 1 53, zev32 53 (.iconst 2) 1 54 2, zex 54 (.if_icmp .lt 37) 3 57 91 0 0, ze0 57 (.aload_n 0) 1 58, zex 58 (.getfield 57) 3 61 4 4 2, ze0 61 (.iload_n 3) 1 62,
  zcal 62 (.invokevirtual 134) 3 65 23 2 0 2, zex 65 (.ifCond .ne 20) 3 68 85 0 0, ze0 68 (.aload_n 0) 1 69, ze0 69 (.iload_n 1) 1 70, ze0 70 (.iload_n 3) 1 71, zcal 71 (.invokevirtual 122) 3 74 39 3 0 4,
  ze0 74 (.aload_n 0) 1 75, ze0 75 (.iload_n 2) 1 76, ze0 76 (.iload_n 3) 1 77, zcal 77 (.invokevirtual 122) 3 80 39 3 0 4, zex 80 (.if_icmp .ne 5) 3 83 85 0 0, zev32 83 (.iconst 0) 1 84 0,
  ze0 84 .ireturn 1 85, zev32 85 (.iinc 3 1) 3 88 1, zex 88 (.goto (-55)) 3 91 33 0 0, zev32 91 (.iconst 1) 1 92 1, ze0 92 .ireturn 1 93]
def zm_66 : zMi := ((yX4_mayFollowByTwo, cX4_mayFollowByTwo, 4, (some .boolean)), (4, 3, 2), zt_66, [(31, [0, 1, 2]), (33, [0, 1, 2, 3]), (85, [0, 1, 2, 3]), (91, [])])
/-- NotWhereYesterday$Rounds.partsBehind(II)I -/
def zt_67 : zT := [zev32 0 (.iconst 0) 1 1 0, ze0 1 (.istore_n 3) 1 2, zev32 2 (.iconst 0) 1 3 0, ze0 3 (.istore 4) 2 5, ze0 5 (.iload 4) 2 7, ze0 7 (.aload_n 0) 1 8,
  zex 8 (.getfield 53) 3 11 4 3 2, zex 11 (.getfield 75) 3 14 1 1 0, zex 14 (.if_icmp .ge 87) 3 17 101 0 0, ze0 17 (.iload_n 1) 1 18, zev32 18 (.iconst (-1)) 1 19 (-1), zex 19 (.if_icmp .ne 16) 3 22 35 0 0,
  ze0 22 (.aload_n 0) 1 23, zex 23 (.getfield 61) 3 26 4 5 2, zex 26 (.getfield 245) 3 29 6 3 2, ze0 29 (.iload 4) 2 31, ze0 31 .iaload 1 32, zex 32 (.goto 10) 3 35 42 0 0,
  ze0 35 (.aload_n 0) 1 36, ze0 36 (.iload_n 1) 1 37, ze0 37 (.iload 4) 2 39, zcal 39 (.invokevirtual 122) 3 42 39 3 0 4, ze0 42 (.istore 5) 2 44, ze0 44 (.iload 5) 2 46,
  zev32 46 (.iconst (-1)) 1 47 (-1), zex 47 (.if_icmp .eq 19) 3 50 66 0 0, ze0 50 (.iload 5) 2 52, ze0 52 (.aload_n 0) 1 53, ze0 53 (.iload_n 2) 1 54, ze0 54 (.iload 4) 2 56,
  zcal 56 (.invokevirtual 122) 3 59 39 3 0 4, zex 59 (.if_icmp .eq 7) 3 62 66 0 0, zev32 62 (.iconst 1) 1 63 1, zex 63 (.goto 4) 3 66 67 0 0, zev32 66 (.iconst 0) 1 67 0, ze0 67 (.istore 6) 2 69,
  ze0 69 (.iload_n 3) 1 70, ze0 70 (.iload 6) 2 72, zex 72 (.ifCond .eq 19) 3 75 91 0 0, zev32 75 (.bipush 10) 2 77 10, ze0 77 (.aload_n 0) 1 78, zex 78 (.getfield 53) 3 81 4 3 2,
  zex 81 (.getfield 248) 3 84 1 6 2, ze0 84 (.iload 4) 2 86, ze0 86 .iaload 1 87, ze0 87 .isub 1 88, zex 88 (.goto 5) 3 91 93 0 0, zev32 91 (.bipush 10) 2 93 10,
  ze0 93 .iadd 1 94, ze0 94 (.istore_n 3) 1 95, zev32 95 (.iinc 4 1) 3 98 1, zex 98 (.goto (-93)) 3 101 5 0 0, ze0 101 (.iload_n 3) 1 102, ze0 102 .ireturn 1 103]
def zm_67 : zMi := ((yX4_partsBehind, cX4_partsBehind, 7, (some .int)), (4, 3, 2), zt_67, [(5, [0, 1, 2, 3, 4]), (42, [0, 1, 2, 3, 4]), (66, [0, 1, 2, 3, 4]), (67, [0, 1, 2, 3, 4]), (93, [0, 1, 2, 4])])
/-- NotWhereYesterday$RuleReader.<init>([I)V -/
def zt_68 : zT := [ze0 0 (.aload_n 0) 1 1, zcal 1 (.invokespecial 3) 3 4 0 1 5 0, ze0 4 (.aload_n 0) 1 5, zex 5 (.new 9) 3 8 2 4 0, ze0 8 .dup 1 9, zcal 9 (.invokespecial 11) 3 12 17 1 4 2,
  zex 12 (.putfield 12) 3 15 5 0 2, ze0 15 (.aload_n 0) 1 16, ze0 16 (.aload_n 1) 1 17, zex 17 (.putfield 18) 3 20 5 1 2, ze0 20 .return_ 1 21]
def zm_68 : zMi := ((yX5_init, cX5_init, 2, none), (5, 2, 2), zt_68, [(12, [0, 1])])
/-- NotWhereYesterday$RuleReader.read(I)I -/
def zt_69 : zT := [ze0 0 (.aload_n 0) 1 1, zex 1 (.getfield 12) 3 4 5 0 2, zcal 4 (.invokevirtual 22) 3 7 18 1 1 2, ze0 7 (.aload_n 0) 1 8, zev32 8 (.iconst 0) 1 9 0, zex 9 (.putfield 25) 3 12 5 3 0,
  ze0 12 (.aload_n 0) 1 13, ze0 13 (.iload_n 1) 1 14, zev32 14 (.bipush 60) 2 16 60, ze0 16 (.aload_n 0) 1 17, zex 17 (.getfield 18) 3 20 5 1 2, ze0 20 .arraylength 1 21,
  zcal 21 (.invokestatic 29) 3 24 0 2 9 0, zcal 24 (.invokestatic 29) 3 27 0 2 9 0, zex 27 (.putfield 35) 3 30 5 2 0, zev32 30 (.iconst 0) 1 31 0, ze0 31 (.istore_n 2) 1 32, ze0 32 (.iload_n 1) 1 33,
  zex 33 (.ifCond .le 7) 3 36 40 0 0, zev32 36 (.iconst 1) 1 37 1, zex 37 (.goto 4) 3 40 41 0 0, zev32 40 (.iconst 0) 1 41 0, ze0 41 (.istore_n 3) 1 42, zev32 42 (.iconst 0) 1 43 0,
  ze0 43 (.istore 4) 2 45, ze0 45 (.iload 4) 2 47, zev32 47 (.bipush 60) 2 49 60, zex 49 (.if_icmp .ge 67) 3 52 116 0 0, ze0 52 (.iload_n 3) 1 53, zex 53 (.ifCond .eq 63) 3 56 116 0 0,
  ze0 56 (.aload_n 0) 1 57, zcal 57 (.invokevirtual 38) 3 60 70 1 0 5, zex 60 (.ifCond .ne 10) 3 63 70 0 0, zev32 63 (.iconst (-1)) 1 64 (-1), ze0 64 (.aload_n 0) 1 65, zex 65 (.getfield 25) 3 68 5 3 0,
  ze0 68 .isub 1 69, ze0 69 .ireturn 1 70, zev32 70 (.iinc 2 1) 3 73 1, ze0 73 (.aload_n 0) 1 74, zex 74 (.getfield 25) 3 77 5 3 0, ze0 77 (.aload_n 0) 1 78,
  zex 78 (.getfield 35) 3 81 5 2 0, zex 81 (.if_icmp .ge 7) 3 84 88 0 0, zev32 84 (.iconst 1) 1 85 1, zex 85 (.goto 4) 3 88 89 0 0, zev32 88 (.iconst 0) 1 89 0, ze0 89 (.istore_n 3) 1 90,
  ze0 90 (.iload_n 3) 1 91, zex 91 (.ifCond .eq 19) 3 94 110 0 0, ze0 94 (.aload_n 0) 1 95, zev32 95 (.bipush 59) 2 97 59, zcal 97 (.invokevirtual 42) 3 100 75 2 0 5, zex 100 (.ifCond .ne 10) 3 103 110 0 0,
  zev32 103 (.iconst (-1)) 1 104 (-1), ze0 104 (.aload_n 0) 1 105, zex 105 (.getfield 25) 3 108 5 3 0, ze0 108 .isub 1 109, ze0 109 .ireturn 1 110, zev32 110 (.iinc 4 1) 3 113 1,
  zex 113 (.goto (-68)) 3 116 45 0 0, ze0 116 (.iload_n 1) 1 117, zev32 117 (.bipush 60) 2 119 60, zex 119 (.if_icmp .le 8) 3 122 127 0 0, zev32 122 (.bipush (-61)) 2 124 (-61), zex 124 (.goto 4) 3 127 128 0 0,
  ze0 127 (.iload_n 2) 1 128, ze0 128 .ireturn 1 129]
def zm_69 : zMi := ((yX5_read, cX5_read, 5, (some .int)), (5, 2, 5), zt_69, [(41, [0, 1, 2]), (45, [0, 1, 2, 3, 4]), (89, [0, 1, 2, 4]), (110, [0, 1, 2, 3, 4]), (116, [1, 2]), (128, [])])
/-- NotWhereYesterday$RuleReader.readLine()Z -/
def zt_70 : zT := [ze0 0 (.aload_n 0) 1 1, zev32 1 (.bipush 119) 2 3 119, zcal 3 (.invokevirtual 42) 3 6 75 2 0 5, zex 6 (.ifCond .eq 9) 3 9 15 0 0, ze0 9 (.aload_n 0) 1 10, zev32 10 (.iconst 0) 1 11 0,
  zcal 11 (.invokevirtual 46) 3 14 71 2 0 5, ze0 14 .ireturn 1 15, ze0 15 (.aload_n 0) 1 16, zev32 16 (.bipush 98) 2 18 98, zcal 18 (.invokevirtual 42) 3 21 75 2 0 5, zex 21 (.ifCond .eq 9) 3 24 30 0 0,
  ze0 24 (.aload_n 0) 1 25, zev32 25 (.iconst 1) 1 26 1, zcal 26 (.invokevirtual 46) 3 29 71 2 0 5, ze0 29 .ireturn 1 30, ze0 30 (.aload_n 0) 1 31, zev32 31 (.bipush 102) 2 33 102,
  zcal 33 (.invokevirtual 42) 3 36 75 2 0 5, zex 36 (.ifCond .eq 8) 3 39 44 0 0, ze0 39 (.aload_n 0) 1 40, zcal 40 (.invokevirtual 49) 3 43 72 1 0 5, ze0 43 .ireturn 1 44, ze0 44 (.aload_n 0) 1 45,
  zev32 45 (.bipush 120) 2 47 120, zcal 47 (.invokevirtual 42) 3 50 75 2 0 5, zex 50 (.ifCond .eq 8) 3 53 58 0 0, ze0 53 (.aload_n 0) 1 54, zcal 54 (.invokevirtual 52) 3 57 73 1 0 5, ze0 57 .ireturn 1 58,
  ze0 58 (.aload_n 0) 1 59, zev32 59 (.bipush 97) 2 61 97, zcal 61 (.invokevirtual 42) 3 64 75 2 0 5, zex 64 (.ifCond .eq 14) 3 67 78 0 0, ze0 67 (.aload_n 0) 1 68, zcal 68 (.invokevirtual 55) 3 71 74 1 0 5,
  zex 71 (.ifCond .eq 7) 3 74 78 0 0, zev32 74 (.iconst 1) 1 75 1, zex 75 (.goto 4) 3 78 79 0 0, zev32 78 (.iconst 0) 1 79 0, ze0 79 .ireturn 1 80]
def zm_70 : zMi := ((yX5_readLine, cX5_readLine, 1, (some .boolean)), (5, 1, 4), zt_70, [(78, []), (79, [])])
/-- NotWhereYesterday$RuleReader.readSpan(I)Z -/
def zt_71 : zT := [ze0 0 (.aload_n 0) 1 1, zcal 1 (.invokevirtual 58) 3 4 76 1 0 5, ze0 4 (.istore_n 2) 1 5, ze0 5 (.iload_n 2) 1 6, zex 6 (.ifCond .ge 5) 3 9 11 0 0, zev32 9 (.iconst 0) 1 10 0,
  ze0 10 .ireturn 1 11, ze0 11 (.aload_n 0) 1 12, zex 12 (.getfield 12) 3 15 5 0 2, zex 15 (.getfield 62) 3 18 2 0 2, ze0 18 (.iload_n 1) 1 19, ze0 19 (.iload_n 2) 1 20,
  ze0 20 .iastore 1 21, zev32 21 (.iconst 1) 1 22 1, ze0 22 .ireturn 1 23]
def zm_71 : zMi := ((yX5_readSpan, cX5_readSpan, 3, (some .boolean)), (5, 2, 2), zt_71, [])
/-- NotWhereYesterday$RuleReader.readFree()Z -/
def zt_72 : zT := [ze0 0 (.aload_n 0) 1 1, zcal 1 (.invokevirtual 58) 3 4 76 1 0 5, ze0 4 (.istore_n 1) 1 5, ze0 5 (.iload_n 1) 1 6, zex 6 (.ifCond .ge 5) 3 9 11 0 0, zev32 9 (.iconst 0) 1 10 0,
  ze0 10 .ireturn 1 11, ze0 11 (.aload_n 0) 1 12, zex 12 (.getfield 12) 3 15 5 0 2, ze0 15 (.iload_n 1) 1 16, zcal 16 (.invokevirtual 65) 3 19 20 2 1 2, zev32 19 (.iconst 1) 1 20 1,
  ze0 20 .ireturn 1 21]
def zm_72 : zMi := ((yX5_readFree, cX5_readFree, 2, (some .boolean)), (5, 1, 2), zt_72, [])
/-- NotWhereYesterday$RuleReader.readBar()Z -/
def zt_73 : zT := [ze0 0 (.aload_n 0) 1 1, zcal 1 (.invokevirtual 58) 3 4 76 1 0 5, ze0 4 (.istore_n 1) 1 5, ze0 5 (.iload_n 1) 1 6, zex 6 (.ifCond .lt 12) 3 9 18 0 0, ze0 9 (.aload_n 0) 1 10,
  zev32 10 (.bipush 45) 2 12 45, zcal 12 (.invokevirtual 42) 3 15 75 2 0 5, zex 15 (.ifCond .ne 5) 3 18 20 0 0, zev32 18 (.iconst 0) 1 19 0, ze0 19 .ireturn 1 20, ze0 20 (.aload_n 0) 1 21,
  zcal 21 (.invokevirtual 58) 3 24 76 1 0 5, ze0 24 (.istore_n 2) 1 25, ze0 25 (.iload_n 2) 1 26, zex 26 (.ifCond .ge 5) 3 29 31 0 0, zev32 29 (.iconst 0) 1 30 0, ze0 30 .ireturn 1 31,
  ze0 31 (.aload_n 0) 1 32, zex 32 (.getfield 12) 3 35 5 0 2, ze0 35 (.iload_n 1) 1 36, ze0 36 (.iload_n 2) 1 37, zcal 37 (.invokevirtual 69) 3 40 21 3 1 2, zev32 40 (.iconst 1) 1 41 1,
  ze0 41 .ireturn 1 42]
def zm_73 : zMi := ((yX5_readBar, cX5_readBar, 3, (some .boolean)), (5, 1, 2), zt_73, [(18, [])])
/-- NotWhereYesterday$RuleReader.readAway()Z -/
def zt_74 : zT := [ze0 0 (.aload_n 0) 1 1, zcal 1 (.invokevirtual 58) 3 4 76 1 0 5, ze0 4 (.istore_n 1) 1 5, ze0 5 (.iload_n 1) 1 6, zex 6 (.ifCond .lt 12) 3 9 18 0 0, ze0 9 (.aload_n 0) 1 10,
  zev32 10 (.bipush 44) 2 12 44, zcal 12 (.invokevirtual 42) 3 15 75 2 0 5, zex 15 (.ifCond .ne 5) 3 18 20 0 0, zev32 18 (.iconst 0) 1 19 0, ze0 19 .ireturn 1 20, ze0 20 (.aload_n 0) 1 21,
  zcal 21 (.invokevirtual 73) 3 24 77 1 0 5, ze0 24 (.istore_n 2) 1 25, ze0 25 (.iload_n 2) 1 26, zex 26 (.ifCond .lt 12) 3 29 38 0 0, ze0 29 (.aload_n 0) 1 30, zev32 30 (.bipush 45) 2 32 45,
  zcal 32 (.invokevirtual 42) 3 35 75 2 0 5, zex 35 (.ifCond .ne 5) 3 38 40 0 0, zev32 38 (.iconst 0) 1 39 0, ze0 39 .ireturn 1 40, ze0 40 (.aload_n 0) 1 41, zcal 41 (.invokevirtual 73) 3 44 77 1 0 5,
  ze0 44 (.istore_n 3) 1 45, ze0 45 (.iload_n 3) 1 46, zex 46 (.ifCond .ge 5) 3 49 51 0 0, zev32 49 (.iconst 0) 1 50 0, ze0 50 .ireturn 1 51, ze0 51 (.iload_n 3) 1 52,
  ze0 52 (.iload_n 2) 1 53, zex 53 (.if_icmp .ge 15) 3 56 68 0 0, ze0 56 (.aload_n 0) 1 57, ze0 57 .dup 1 58, zex 58 (.getfield 25) 3 61 5 3 0, zev32 61 (.iconst 1) 1 62 1,
  ze0 62 .isub 1 63, zex 63 (.putfield 25) 3 66 5 3 0, zev32 66 (.iconst 0) 1 67 0, ze0 67 .ireturn 1 68, ze0 68 (.aload_n 0) 1 69, zex 69 (.getfield 12) 3 72 5 0 2,
  ze0 72 (.iload_n 1) 1 73, ze0 73 (.iload_n 2) 1 74, ze0 74 (.iload_n 3) 1 75, zcal 75 (.invokevirtual 76) 3 78 22 4 1 2, zev32 78 (.iconst 1) 1 79 1, ze0 79 .ireturn 1 80]
def zm_74 : zMi := ((yX5_readAway, cX5_readAway, 4, (some .boolean)), (5, 1, 3), zt_74, [(18, []), (38, [])])
/-- NotWhereYesterday$RuleReader.take(I)Z -/
def zt_75 : zT := [ze0 0 (.aload_n 0) 1 1, zex 1 (.getfield 25) 3 4 5 3 0, zex 4 (.ifCond .lt 39) 3 7 43 0 0, ze0 7 (.aload_n 0) 1 8, zex 8 (.getfield 25) 3 11 5 3 0, ze0 11 (.aload_n 0) 1 12,
  zex 12 (.getfield 35) 3 15 5 2 0, zex 15 (.if_icmp .ge 28) 3 18 43 0 0, ze0 18 (.aload_n 0) 1 19, zex 19 (.getfield 18) 3 22 5 1 2, ze0 22 (.aload_n 0) 1 23, zex 23 (.getfield 25) 3 26 5 3 0,
  ze0 26 .iaload 1 27, ze0 27 (.iload_n 1) 1 28, zex 28 (.if_icmp .ne 15) 3 31 43 0 0, ze0 31 (.aload_n 0) 1 32, ze0 32 .dup 1 33, zex 33 (.getfield 25) 3 36 5 3 0,
  zev32 36 (.iconst 1) 1 37 1, ze0 37 .iadd 1 38, zex 38 (.putfield 25) 3 41 5 3 0, zev32 41 (.iconst 1) 1 42 1, ze0 42 .ireturn 1 43, zev32 43 (.iconst 0) 1 44 0,
  ze0 44 .ireturn 1 45]
def zm_75 : zMi := ((yX5_take, cX5_take, 2, (some .boolean)), (5, 2, 1), zt_75, [(43, [])])
/-- NotWhereYesterday$RuleReader.digit()I -/
def zt_76 : zT := [ze0 0 (.aload_n 0) 1 1, zex 1 (.getfield 25) 3 4 5 3 0, zex 4 (.ifCond .lt 42) 3 7 46 0 0, ze0 7 (.aload_n 0) 1 8, zex 8 (.getfield 25) 3 11 5 3 0, ze0 11 (.aload_n 0) 1 12,
  zex 12 (.getfield 35) 3 15 5 2 0, zex 15 (.if_icmp .ge 31) 3 18 46 0 0, ze0 18 (.aload_n 0) 1 19, zex 19 (.getfield 18) 3 22 5 1 2, ze0 22 (.aload_n 0) 1 23, zex 23 (.getfield 25) 3 26 5 3 0,
  ze0 26 .iaload 1 27, zev32 27 (.bipush 48) 2 29 48, zex 29 (.if_icmp .lt 17) 3 32 46 0 0, ze0 32 (.aload_n 0) 1 33, zex 33 (.getfield 18) 3 36 5 1 2, ze0 36 (.aload_n 0) 1 37,
  zex 37 (.getfield 25) 3 40 5 3 0, ze0 40 .iaload 1 41, zev32 41 (.bipush 57) 2 43 57, zex 43 (.if_icmp .le 5) 3 46 48 0 0, zev32 46 (.iconst (-1)) 1 47 (-1), ze0 47 .ireturn 1 48,
  ze0 48 (.aload_n 0) 1 49, zex 49 (.getfield 18) 3 52 5 1 2, ze0 52 (.aload_n 0) 1 53, zex 53 (.getfield 25) 3 56 5 3 0, ze0 56 .iaload 1 57, zev32 57 (.bipush 48) 2 59 48,
  ze0 59 .isub 1 60, ze0 60 (.istore_n 1) 1 61, ze0 61 (.aload_n 0) 1 62, ze0 62 .dup 1 63, zex 63 (.getfield 25) 3 66 5 3 0, zev32 66 (.iconst 1) 1 67 1,
  ze0 67 .iadd 1 68, zex 68 (.putfield 25) 3 71 5 3 0, ze0 71 (.iload_n 1) 1 72, ze0 72 .ireturn 1 73]
def zm_76 : zMi := ((yX5_digit, cX5_digit, 2, (some .int)), (5, 1, 1), zt_76, [(46, [])])
/-- NotWhereYesterday$RuleReader.oneOrTwoDigits()I -/
def zt_77 : zT := [ze0 0 (.aload_n 0) 1 1, zcal 1 (.invokevirtual 58) 3 4 76 1 0 5, ze0 4 (.istore_n 1) 1 5, ze0 5 (.iload_n 1) 1 6, zex 6 (.ifCond .ge 5) 3 9 11 0 0, zev32 9 (.iconst (-1)) 1 10 (-1),
  ze0 10 .ireturn 1 11, ze0 11 (.aload_n 0) 1 12, zcal 12 (.invokevirtual 58) 3 15 76 1 0 5, ze0 15 (.istore_n 2) 1 16, ze0 16 (.iload_n 2) 1 17, zex 17 (.ifCond .ge 7) 3 20 24 0 0,
  ze0 20 (.iload_n 1) 1 21, zex 21 (.goto 9) 3 24 30 0 0, zev32 24 (.bipush 10) 2 26 10, ze0 26 (.iload_n 1) 1 27, ze0 27 .imul 1 28, ze0 28 (.iload_n 2) 1 29,
  ze0 29 .iadd 1 30, ze0 30 .ireturn 1 31]
def zm_77 : zMi := ((yX5_oneOrTwoDigits, cX5_oneOrTwoDigits, 3, (some .int)), (5, 1, 2), zt_77, [(30, [])])
/-- NotWhereYesterday$State.<init>()V -/
def zt_78 : zT := [ze0 0 (.aload_n 0) 1 1, zcal 1 (.invokespecial 3) 3 4 0 1 5 0, ze0 4 (.aload_n 0) 1 5, zev32 5 (.sipush 610) 3 8 610, zex 8 (.newarray .int) 2 10 20 0 0, zex 10 (.putfield 9) 3 13 6 0 2,
  ze0 13 (.aload_n 0) 1 14, zev32 14 (.bipush 10) 2 16 10, zex 16 (.newarray .int) 2 18 20 0 0, zex 18 (.putfield 15) 3 21 6 1 2, ze0 21 (.aload_n 0) 1 22, zev32 22 (.bipush 10) 2 24 10,
  zex 24 (.newarray .int) 2 26 20 0 0, zex 26 (.putfield 18) 3 29 6 2 2, ze0 29 (.aload_n 0) 1 30, zev32 30 (.bipush 10) 2 32 10, zex 32 (.newarray .int) 2 34 20 0 0, zex 34 (.putfield 21) 3 37 6 3 2,
  ze0 37 (.aload_n 0) 1 38, zev32 38 (.bipush 10) 2 40 10, zex 40 (.newarray .int) 2 42 20 0 0, zex 42 (.putfield 24) 3 45 6 4 2, ze0 45 (.aload_n 0) 1 46, zev32 46 (.bipush 60) 2 48 60,
  zex 48 (.newarray .int) 2 50 20 0 0, zex 50 (.putfield 27) 3 53 6 5 2, ze0 53 (.aload_n 0) 1 54, zev32 54 (.iconst (-1)) 1 55 (-1), zex 55 (.putfield 30) 3 58 6 7 0, ze0 58 (.aload_n 0) 1 59,
  zev32 59 (.iconst (-1)) 1 60 (-1), zex 60 (.putfield 34) 3 63 6 8 0, ze0 63 (.aload_n 0) 1 64, zex 64 (.getfield 9) 3 67 6 0 2, zev32 67 (.iconst (-1)) 1 68 (-1), zcal 68 (.invokestatic 37) 3 71 290 2 1 14,
  ze0 71 (.aload_n 0) 1 72, zex 72 (.getfield 21) 3 75 6 3 2, zev32 75 (.iconst (-1)) 1 76 (-1), zcal 76 (.invokestatic 37) 3 79 290 2 1 14, ze0 79 .return_ 1 80]
def zm_78 : zMi := ((yX6_init, cX6_init, 1, none), (6, 1, 2), zt_78, [])
/-- NotWhereYesterday$State.become(LNotWhereYesterday$State;)V -/
def zt_79 : zT := [ze0 0 (.aload_n 1) 1 1, zex 1 (.getfield 9) 3 4 6 0 2, zev32 4 (.iconst 0) 1 5 0, ze0 5 (.aload_n 0) 1 6, zex 6 (.getfield 9) 3 9 6 0 2, zev32 9 (.iconst 0) 1 10 0,
  ze0 10 (.aload_n 0) 1 11, zex 11 (.getfield 9) 3 14 6 0 2, ze0 14 .arraylength 1 15, zcal 15 (.invokestatic 43) 3 18 0 5 6 0, ze0 18 (.aload_n 1) 1 19, zex 19 (.getfield 15) 3 22 6 1 2,
  zev32 22 (.iconst 0) 1 23 0, ze0 23 (.aload_n 0) 1 24, zex 24 (.getfield 15) 3 27 6 1 2, zev32 27 (.iconst 0) 1 28 0, ze0 28 (.aload_n 0) 1 29, zex 29 (.getfield 15) 3 32 6 1 2,
  ze0 32 .arraylength 1 33, zcal 33 (.invokestatic 43) 3 36 0 5 6 0, ze0 36 (.aload_n 1) 1 37, zex 37 (.getfield 18) 3 40 6 2 2, zev32 40 (.iconst 0) 1 41 0, ze0 41 (.aload_n 0) 1 42,
  zex 42 (.getfield 18) 3 45 6 2 2, zev32 45 (.iconst 0) 1 46 0, ze0 46 (.aload_n 0) 1 47, zex 47 (.getfield 18) 3 50 6 2 2, ze0 50 .arraylength 1 51, zcal 51 (.invokestatic 43) 3 54 0 5 6 0,
  ze0 54 (.aload_n 1) 1 55, zex 55 (.getfield 21) 3 58 6 3 2, zev32 58 (.iconst 0) 1 59 0, ze0 59 (.aload_n 0) 1 60, zex 60 (.getfield 21) 3 63 6 3 2, zev32 63 (.iconst 0) 1 64 0,
  ze0 64 (.aload_n 0) 1 65, zex 65 (.getfield 21) 3 68 6 3 2, ze0 68 .arraylength 1 69, zcal 69 (.invokestatic 43) 3 72 0 5 6 0, ze0 72 (.aload_n 1) 1 73, zex 73 (.getfield 24) 3 76 6 4 2,
  zev32 76 (.iconst 0) 1 77 0, ze0 77 (.aload_n 0) 1 78, zex 78 (.getfield 24) 3 81 6 4 2, zev32 81 (.iconst 0) 1 82 0, ze0 82 (.aload_n 0) 1 83, zex 83 (.getfield 24) 3 86 6 4 2,
  ze0 86 .arraylength 1 87, zcal 87 (.invokestatic 43) 3 90 0 5 6 0, ze0 90 (.aload_n 1) 1 91, zex 91 (.getfield 27) 3 94 6 5 2, zev32 94 (.iconst 0) 1 95 0, ze0 95 (.aload_n 0) 1 96,
  zex 96 (.getfield 27) 3 99 6 5 2, zev32 99 (.iconst 0) 1 100 0, ze0 100 (.aload_n 0) 1 101, zex 101 (.getfield 27) 3 104 6 5 2, ze0 104 .arraylength 1 105, zcal 105 (.invokestatic 43) 3 108 0 5 6 0,
  ze0 108 (.aload_n 0) 1 109, ze0 109 (.aload_n 1) 1 110, zex 110 (.getfield 49) 3 113 6 6 0, zex 113 (.putfield 49) 3 116 6 6 0, ze0 116 .return_ 1 117]
def zm_79 : zMi := ((yX6_become, cX6_become, 2, none), (6, 2, 1), zt_79, [])
/-- NotWhereYesterday$State.onePlaced(II)I -/
def zt_80 : zT := [ze0 0 (.iload_n 1) 1 1, zex 1 (.ifCond .lt 19) 3 4 20 0 0, ze0 4 (.iload_n 1) 1 5, zev32 5 (.bipush 60) 2 7 60, zex 7 (.if_icmp .gt 13) 3 10 20 0 0, ze0 10 (.iload_n 2) 1 11,
  zex 11 (.ifCond .lt 9) 3 14 20 0 0, ze0 14 (.iload_n 2) 1 15, zev32 15 (.bipush 10) 2 17 10, zex 17 (.if_icmp .lt 5) 3 20 22 0 0, zev32 20 (.iconst (-1)) 1 21 (-1), ze0 21 .ireturn 1 22,
  ze0 22 (.aload_n 0) 1 23, zex 23 (.getfield 9) 3 26 6 0 2, ze0 26 (.iload_n 1) 1 27, zev32 27 (.bipush 10) 2 29 10, ze0 29 .imul 1 30, ze0 30 (.iload_n 2) 1 31,
  ze0 31 .iadd 1 32, ze0 32 .iaload 1 33, ze0 33 .ireturn 1 34]
def zm_80 : zMi := ((yX6_onePlaced, cX6_onePlaced, 3, (some .int)), (6, 3, 1), zt_80, [(20, [])])
/-- NotWhereYesterday$State.postOf(II)I -/
def zt_81 : zT := [ze0 0 (.iload_n 1) 1 1, zex 1 (.ifCond .lt 9) 3 4 10 0 0, ze0 4 (.iload_n 1) 1 5, zev32 5 (.bipush 60) 2 7 60, zex 7 (.if_icmp .le 5) 3 10 12 0 0, zev32 10 (.iconst (-1)) 1 11 (-1),
  ze0 11 .ireturn 1 12, zev32 12 (.iconst 0) 1 13 0, ze0 13 (.istore_n 3) 1 14, ze0 14 (.iload_n 3) 1 15, zev32 15 (.bipush 10) 2 17 10, zex 17 (.if_icmp .ge 26) 3 20 43 0 0,
  ze0 20 (.aload_n 0) 1 21, zex 21 (.getfield 9) 3 24 6 0 2, ze0 24 (.iload_n 1) 1 25, zev32 25 (.bipush 10) 2 27 10, ze0 27 .imul 1 28, ze0 28 (.iload_n 3) 1 29,
  ze0 29 .iadd 1 30, ze0 30 .iaload 1 31, ze0 31 (.iload_n 2) 1 32, zex 32 (.if_icmp .ne 5) 3 35 37 0 0, ze0 35 (.iload_n 3) 1 36, ze0 36 .ireturn 1 37,
  zev32 37 (.iinc 3 1) 3 40 1, zex 40 (.goto (-26)) 3 43 14 0 0, zev32 43 (.iconst (-1)) 1 44 (-1), ze0 44 .ireturn 1 45]
def zm_81 : zMi := ((yX6_postOf, cX6_postOf, 4, (some .int)), (6, 3, 1), zt_81, [(10, []), (14, [0, 1, 2, 3])])
/-- NotWhereYesterday$State.neighboursOf(II)I -/
def zt_82 : zT := [ze0 0 (.aload_n 0) 1 1, ze0 1 (.iload_n 1) 1 2, ze0 2 (.iload_n 2) 1 3, zcal 3 (.invokevirtual 52) 3 6 81 3 0 6, ze0 6 (.istore_n 3) 1 7, ze0 7 (.iload_n 3) 1 8,
  zev32 8 (.iconst (-1)) 1 9 (-1), zex 9 (.if_icmp .ne 5) 3 12 14 0 0, zev32 12 (.iconst 0) 1 13 0, ze0 13 .ireturn 1 14, ze0 14 (.aload_n 0) 1 15, ze0 15 (.iload_n 1) 1 16,
  ze0 16 (.iload_n 3) 1 17, zev32 17 (.iconst 1) 1 18 1, ze0 18 .isub 1 19, zcal 19 (.invokevirtual 56) 3 22 80 3 0 6, zcal 22 (.invokestatic 59) 3 25 83 1 0 6, ze0 25 (.aload_n 0) 1 26,
  ze0 26 (.iload_n 1) 1 27, ze0 27 (.iload_n 3) 1 28, zev32 28 (.iconst 1) 1 29 1, ze0 29 .iadd 1 30, zcal 30 (.invokevirtual 56) 3 33 80 3 0 6, zcal 33 (.invokestatic 59) 3 36 83 1 0 6,
  ze0 36 .ior 1 37, ze0 37 .ireturn 1 38]
def zm_82 : zMi := ((yX6_neighboursOf, cX6_neighboursOf, 4, (some .int)), (6, 3, 2), zt_82, [])
/-- NotWhereYesterday$State.bitOf(I)I -/
def zt_83 : zT := [ze0 0 (.iload_n 0) 1 1, zex 1 (.ifCond .ge 7) 3 4 8 0 0, zev32 4 (.iconst 0) 1 5 0, zex 5 (.goto 6) 3 8 11 0 0, zev32 8 (.iconst 1) 1 9 1, ze0 9 (.iload_n 0) 1 10,
  ze0 10 .ishl 1 11, ze0 11 .ireturn 1 12]
def zm_83 : zMi := ((yX6_bitOf, cX6_bitOf, 1, (some .int)), (6, 1, 1), zt_83, [(11, [])])
/-- NotWhereYesterday$State.sameDays(II)Z -/
def zt_84 : zT := [zev32 0 (.iconst 0) 1 1 0, ze0 1 (.istore_n 3) 1 2, ze0 2 (.iload_n 3) 1 3, zev32 3 (.bipush 10) 2 5 10, zex 5 (.if_icmp .ge 26) 3 8 31 0 0, ze0 8 (.aload_n 0) 1 9,
  ze0 9 (.iload_n 1) 1 10, ze0 10 (.iload_n 3) 1 11, zcal 11 (.invokevirtual 56) 3 14 80 3 0 6, ze0 14 (.aload_n 0) 1 15, ze0 15 (.iload_n 2) 1 16, ze0 16 (.iload_n 3) 1 17,
  zcal 17 (.invokevirtual 56) 3 20 80 3 0 6, zex 20 (.if_icmp .eq 5) 3 23 25 0 0, zev32 23 (.iconst 0) 1 24 0, ze0 24 .ireturn 1 25, zev32 25 (.iinc 3 1) 3 28 1, zex 28 (.goto (-26)) 3 31 2 0 0,
  zev32 31 (.iconst 1) 1 32 1, ze0 32 .ireturn 1 33]
def zm_84 : zMi := ((yX6_sameDays, cX6_sameDays, 4, (some .boolean)), (6, 3, 2), zt_84, [(2, [0, 1, 2, 3])])
/-- NotWhereYesterday$State.place(II)V -/
def zt_85 : zT := [ze0 0 (.iload_n 1) 1 1, zex 1 (.ifCond .lt 40) 3 4 41 0 0, ze0 4 (.iload_n 1) 1 5, zev32 5 (.bipush 10) 2 7 10, zex 7 (.if_icmp .ge 34) 3 10 41 0 0, ze0 10 (.aload_n 0) 1 11,
  zex 11 (.getfield 49) 3 14 6 6 0, zex 14 (.ifCond .lt 27) 3 17 41 0 0, ze0 17 (.aload_n 0) 1 18, zex 18 (.getfield 49) 3 21 6 6 0, zev32 21 (.bipush 60) 2 23 60, zex 23 (.if_icmp .gt 18) 3 26 41 0 0,
  ze0 26 (.aload_n 0) 1 27, zex 27 (.getfield 9) 3 30 6 0 2, ze0 30 (.aload_n 0) 1 31, zex 31 (.getfield 49) 3 34 6 6 0, zev32 34 (.bipush 10) 2 36 10, ze0 36 .imul 1 37,
  ze0 37 (.iload_n 1) 1 38, ze0 38 .iadd 1 39, ze0 39 (.iload_n 2) 1 40, ze0 40 .iastore 1 41, ze0 41 .return_ 1 42]
def zm_85 : zMi := ((yX6_place, cX6_place, 3, none), (6, 3, 1), zt_85, [(41, [])])
/-- NotWhereYesterday$State.clearDraft()V -/
def zt_86 : zT := [zev32 0 (.iconst 0) 1 1 0, ze0 1 (.istore_n 1) 1 2, ze0 2 (.iload_n 1) 1 3, zev32 3 (.bipush 10) 2 5 10, zex 5 (.if_icmp .ge 15) 3 8 20 0 0, ze0 8 (.aload_n 0) 1 9,
  ze0 9 (.iload_n 1) 1 10, zev32 10 (.iconst (-1)) 1 11 (-1), zcal 11 (.invokevirtual 63) 3 14 85 3 1 6, zev32 14 (.iinc 1 1) 3 17 1, zex 17 (.goto (-15)) 3 20 2 0 0, ze0 20 .return_ 1 21]
def zm_86 : zMi := ((yX6_clearDraft, cX6_clearDraft, 2, none), (6, 1, 2), zt_86, [(2, [0, 1])])
/-- NotWhereYesterday$State.isAble(LNotWhereYesterday$House;II)Z -/
def zt_87 : zT := [ze0 0 (.aload_n 1) 1 1, zex 1 (.getfield 67) 3 4 1 3 2, ze0 4 (.iload_n 3) 1 5, ze0 5 .iaload 1 6, ze0 6 (.istore 4) 2 8, ze0 8 (.iload 4) 2 10,
  zex 10 (.ifCond .lt 17) 3 13 27 0 0, ze0 13 (.aload_n 0) 1 14, zex 14 (.getfield 24) 3 17 6 4 2, ze0 17 (.iload_n 2) 1 18, ze0 18 .iaload 1 19, ze0 19 (.iload 4) 2 21,
  ze0 21 .ishr 1 22, zev32 22 (.iconst 1) 1 23 1, ze0 23 .iand 1 24, zex 24 (.ifCond .eq 7) 3 27 31 0 0, zev32 27 (.iconst 1) 1 28 1, zex 28 (.goto 4) 3 31 32 0 0,
  zev32 31 (.iconst 0) 1 32 0, ze0 32 .ireturn 1 33]
def zm_87 : zMi := ((yX6_isAble, cX6_isAble, 5, (some .boolean)), (6, 4, 1), zt_87, [(27, []), (32, [])])
/-- NotWhereYesterday$State.goBy(LNotWhereYesterday$House;)V -/
def zt_88 : zT := [ze0 0 (.aload_n 0) 1 1, zex 1 (.getfield 49) 3 4 6 6 0, zev32 4 (.bipush 60) 2 6 60, zex 6 (.if_icmp .lt 4) 3 9 10 0 0, ze0 9 .return_ 1 10, zev32 10 (.iconst 0) 1 11 0,
  ze0 11 (.istore_n 2) 1 12, ze0 12 (.iload_n 2) 1 13, ze0 13 (.aload_n 1) 1 14, zex 14 (.getfield 72) 3 17 1 1 0, zex 17 (.if_icmp .ge 59) 3 20 76 0 0, ze0 20 (.aload_n 0) 1 21,
  ze0 21 (.aload_n 0) 1 22, zex 22 (.getfield 49) 3 25 6 6 0, ze0 25 (.iload_n 2) 1 26, zcal 26 (.invokevirtual 56) 3 29 80 3 0 6, ze0 29 (.istore_n 3) 1 30, ze0 30 (.aload_n 1) 1 31,
  ze0 31 (.iload_n 3) 1 32, zcal 32 (.invokevirtual 75) 3 35 14 2 0 1, zex 35 (.ifCond .eq 35) 3 38 70 0 0, ze0 38 (.aload_n 0) 1 39, ze0 39 (.aload_n 1) 1 40, ze0 40 (.iload_n 3) 1 41,
  ze0 41 (.iload_n 2) 1 42, zcal 42 (.invokevirtual 79) 3 45 87 4 0 6, zex 45 (.ifCond .eq 13) 3 48 58 0 0, ze0 48 (.aload_n 0) 1 49, ze0 49 (.aload_n 1) 1 50, ze0 50 (.iload_n 3) 1 51,
  ze0 51 (.iload_n 2) 1 52, zcal 52 (.invokevirtual 83) 3 55 89 4 1 6, zex 55 (.goto 15) 3 58 70 0 0, ze0 58 (.aload_n 0) 1 59, ze0 59 (.aload_n 1) 1 60, ze0 60 (.iload_n 3) 1 61,
  ze0 61 (.aload_n 1) 1 62, zex 62 (.getfield 67) 3 65 1 3 2, ze0 65 (.iload_n 2) 1 66, ze0 66 .iaload 1 67, zcal 67 (.invokevirtual 87) 3 70 90 4 1 6, zev32 70 (.iinc 2 1) 3 73 1,
  zex 73 (.goto (-61)) 3 76 12 0 0, ze0 76 (.aload_n 0) 1 77, ze0 77 .dup 1 78, zex 78 (.getfield 49) 3 81 6 6 0, zev32 81 (.iconst 1) 1 82 1, ze0 82 .iadd 1 83,
  zex 83 (.putfield 49) 3 86 6 6 0, ze0 86 .return_ 1 87]
def zm_88 : zMi := ((yX6_goBy, cX6_goBy, 4, none), (6, 2, 2), zt_88, [(12, [0, 1, 2]), (70, [0, 1, 2])])
/-- NotWhereYesterday$State.work(LNotWhereYesterday$House;II)V -/
def zt_89 : zT := [ze0 0 (.aload_n 0) 1 1, zex 1 (.getfield 21) 3 4 6 3 2, ze0 4 (.iload_n 3) 1 5, ze0 5 .iaload 1 6, zev32 6 (.iconst (-1)) 1 7 (-1), zex 7 (.if_icmp .eq 17) 3 10 24 0 0,
  ze0 10 (.aload_n 0) 1 11, zex 11 (.getfield 21) 3 14 6 3 2, ze0 14 (.iload_n 3) 1 15, ze0 15 .iaload 1 16, ze0 16 (.iload_n 2) 1 17, zex 17 (.if_icmp .eq 7) 3 20 24 0 0,
  zev32 20 (.iconst 1) 1 21 1, zex 21 (.goto 4) 3 24 25 0 0, zev32 24 (.iconst 0) 1 25 0, ze0 25 (.istore 4) 2 27, ze0 27 (.aload_n 0) 1 28, zex 28 (.getfield 18) 3 31 6 2 2,
  ze0 31 (.iload_n 3) 1 32, ze0 32 .dup2 1 33, ze0 33 .iaload 1 34, ze0 34 (.iload 4) 2 36, zex 36 (.ifCond .eq 15) 3 39 51 0 0, zev32 39 (.bipush 10) 2 41 10,
  ze0 41 (.aload_n 1) 1 42, zex 42 (.getfield 90) 3 45 1 6 2, ze0 45 (.iload_n 3) 1 46, ze0 46 .iaload 1 47, ze0 47 .isub 1 48, zex 48 (.goto 5) 3 51 53 0 0,
  zev32 51 (.bipush 10) 2 53 10, ze0 53 .iadd 1 54, ze0 54 .iastore 1 55, ze0 55 (.aload_n 0) 1 56, zex 56 (.getfield 21) 3 59 6 3 2, ze0 59 (.iload_n 3) 1 60,
  ze0 60 (.iload_n 2) 1 61, ze0 61 .iastore 1 62, ze0 62 (.aload_n 0) 1 63, zex 63 (.getfield 18) 3 66 6 2 2, ze0 66 (.iload_n 3) 1 67, ze0 67 .iaload 1 68,
  zev32 68 (.bipush 10) 2 70 10, ze0 70 (.aload_n 1) 1 71, zex 71 (.getfield 93) 3 74 1 5 2, ze0 74 (.iload_n 3) 1 75, ze0 75 .iaload 1 76, ze0 76 .imul 1 77,
  zex 77 (.if_icmp .lt 20) 3 80 97 0 0, ze0 80 (.aload_n 0) 1 81, zex 81 (.getfield 18) 3 84 6 2 2, ze0 84 (.iload_n 3) 1 85, zev32 85 (.iconst 0) 1 86 0, ze0 86 .iastore 1 87,
  ze0 87 (.aload_n 0) 1 88, zex 88 (.getfield 15) 3 91 6 1 2, ze0 91 (.iload_n 3) 1 92, ze0 92 .dup2 1 93, ze0 93 .iaload 1 94, zev32 94 (.iconst 1) 1 95 1,
  ze0 95 .iadd 1 96, ze0 96 .iastore 1 97, ze0 97 .return_ 1 98]
def zm_89 : zMi := ((yX6_work, cX6_work, 5, none), (6, 4, 1), zt_89, [(24, [0, 1, 2, 3]), (25, [0, 1, 2, 3]), (53, [0, 1, 2, 3]), (97, [])])
/-- NotWhereYesterday$State.learn(LNotWhereYesterday$House;II)V -/
def zt_90 : zT := [ze0 0 (.iload_n 2) 1 1, zev32 1 (.bipush 6) 2 3 6, ze0 3 .imul 1 4, ze0 4 (.iload_n 3) 1 5, ze0 5 .iadd 1 6, ze0 6 (.istore 4) 2 8,
  ze0 8 (.iload_n 3) 1 9, zex 9 (.ifCond .lt 9) 3 12 18 0 0, ze0 12 (.iload_n 3) 1 13, zev32 13 (.bipush 6) 2 15 6, zex 15 (.if_icmp .lt 4) 3 18 19 0 0, ze0 18 .return_ 1 19,
  ze0 19 (.aload_n 0) 1 20, zex 20 (.getfield 27) 3 23 6 5 2, ze0 23 (.iload 4) 2 25, ze0 25 .dup2 1 26, ze0 26 .iaload 1 27, zev32 27 (.iconst 1) 1 28 1,
  ze0 28 .iadd 1 29, ze0 29 .iastore 1 30, ze0 30 (.aload_n 0) 1 31, zex 31 (.getfield 27) 3 34 6 5 2, ze0 34 (.iload 4) 2 36, ze0 36 .iaload 1 37,
  ze0 37 (.aload_n 1) 1 38, zex 38 (.getfield 96) 3 41 1 2 2, ze0 41 (.iload_n 2) 1 42, ze0 42 .iaload 1 43, zex 43 (.if_icmp .lt 23) 3 46 66 0 0, ze0 46 (.aload_n 0) 1 47,
  zex 47 (.getfield 27) 3 50 6 5 2, ze0 50 (.iload 4) 2 52, zev32 52 (.iconst 0) 1 53 0, ze0 53 .iastore 1 54, ze0 54 (.aload_n 0) 1 55, zex 55 (.getfield 24) 3 58 6 4 2,
  ze0 58 (.iload_n 2) 1 59, ze0 59 .dup2 1 60, ze0 60 .iaload 1 61, zev32 61 (.iconst 1) 1 62 1, ze0 62 (.iload_n 3) 1 63, ze0 63 .ishl 1 64,
  ze0 64 .ior 1 65, ze0 65 .iastore 1 66, ze0 66 .return_ 1 67]
def zm_90 : zMi := ((yX6_learn, cX6_learn, 5, none), (6, 4, 1), zt_90, [(18, []), (66, [])])
/-- NotWhereYesterday$Watch.<init>(LNotWhereYesterday$House;LNotWhereYesterday$Law;LNotWhereYesterday$State;)V -/
def zt_91 : zT := [ze0 0 (.aload_n 0) 1 1, zcal 1 (.invokespecial 3) 3 4 0 1 5 0, ze0 4 (.aload_n 0) 1 5, ze0 5 (.aload_n 1) 1 6, zex 6 (.putfield 9) 3 9 7 0 2, ze0 9 (.aload_n 0) 1 10,
  ze0 10 (.aload_n 2) 1 11, zex 11 (.putfield 15) 3 14 7 1 2, ze0 14 (.aload_n 0) 1 15, ze0 15 (.aload_n 3) 1 16, zex 16 (.putfield 19) 3 19 7 2 2, ze0 19 .return_ 1 20]
def zm_91 : zMi := ((yX7_init, cX7_init, 4, none), (7, 4, 1), zt_91, [])
/-- NotWhereYesterday$Watch.whyNot(III)I -/
def zt_92 : zT := [ze0 0 (.aload_n 0) 1 1, zex 1 (.getfield 15) 3 4 7 1 2, ze0 4 (.iload_n 1) 1 5, ze0 5 (.iload_n 3) 1 6, zcal 6 (.invokevirtual 23) 3 9 25 3 0 2, zex 9 (.ifCond .eq 5) 3 12 14 0 0,
  zev32 12 (.iconst 1) 1 13 1, ze0 13 .ireturn 1 14, ze0 14 (.iload_n 3) 1 15, ze0 15 (.aload_n 0) 1 16, zex 16 (.getfield 19) 3 19 7 2 2, zex 19 (.getfield 29) 3 22 6 6 0,
  zcal 22 (.invokestatic 35) 3 25 0 2 9 0, ze0 25 (.istore 4) 2 27, ze0 27 (.aload_n 0) 1 28, zex 28 (.getfield 15) 3 31 7 1 2, ze0 31 (.iload_n 2) 1 32, zcal 32 (.invokevirtual 41) 3 35 23 2 0 2,
  zex 35 (.ifCond .ne 49) 3 38 84 0 0, zev32 38 (.iconst 0) 1 39 0, ze0 39 (.iload_n 3) 1 40, ze0 40 (.aload_n 0) 1 41, zex 41 (.getfield 15) 3 44 7 1 2, zex 44 (.getfield 45) 3 47 2 0 2,
  zev32 47 (.iconst 0) 1 48 0, ze0 48 .iaload 1 49, ze0 49 .isub 1 50, zcal 50 (.invokestatic 49) 3 53 0 2 8 0, ze0 53 (.istore 5) 2 55, ze0 55 (.iload 5) 2 57,
  ze0 57 (.iload 4) 2 59, zex 59 (.if_icmp .ge 25) 3 62 84 0 0, ze0 62 (.aload_n 0) 1 63, zex 63 (.getfield 19) 3 66 7 2 2, ze0 66 (.iload 5) 2 68, ze0 68 (.iload_n 2) 1 69,
  zcal 69 (.invokevirtual 52) 3 72 80 3 0 6, ze0 72 (.iload_n 1) 1 73, zex 73 (.if_icmp .ne 5) 3 76 78 0 0, zev32 76 (.iconst 2) 1 77 2, ze0 77 .ireturn 1 78, zev32 78 (.iinc 5 1) 3 81 1,
  zex 81 (.goto (-26)) 3 84 55 0 0, ze0 84 (.iload_n 3) 1 85, zex 85 (.ifCond .le 38) 3 88 123 0 0, ze0 88 (.iload_n 3) 1 89, ze0 89 (.aload_n 0) 1 90, zex 90 (.getfield 19) 3 93 7 2 2,
  zex 93 (.getfield 29) 3 96 6 6 0, zex 96 (.if_icmp .gt 27) 3 99 123 0 0, ze0 99 (.aload_n 0) 1 100, zex 100 (.getfield 15) 3 103 7 1 2, ze0 103 (.aload_n 0) 1 104, zex 104 (.getfield 19) 3 107 7 2 2,
  ze0 107 (.iload_n 3) 1 108, zev32 108 (.iconst 1) 1 109 1, ze0 109 .isub 1 110, ze0 110 (.iload_n 1) 1 111, zcal 111 (.invokevirtual 55) 3 114 81 3 0 6, ze0 114 (.iload_n 2) 1 115,
  zcal 115 (.invokevirtual 58) 3 118 24 3 0 2, zex 118 (.ifCond .eq 5) 3 121 123 0 0, zev32 121 (.iconst 3) 1 122 3, ze0 122 .ireturn 1 123, zev32 123 (.iconst 0) 1 124 0, ze0 124 .ireturn 1 125]
def zm_92 : zMi := ((yX7_whyNot, cX7_whyNot, 6, (some .int)), (7, 4, 2), zt_92, [(55, [0, 1, 2, 3, 4, 5]), (84, [0, 1, 2, 3]), (123, [])])
/-- NotWhereYesterday$Watch.mayMeet(III)Z -/
def zt_93 : zT := [ze0 0 (.aload_n 0) 1 1, ze0 1 (.iload_n 1) 1 2, ze0 2 (.iload_n 3) 1 3, zcal 3 (.invokevirtual 61) 3 6 94 3 0 7, ze0 6 (.iload_n 2) 1 7, ze0 7 .ishr 1 8,
  zev32 8 (.iconst 1) 1 9 1, ze0 9 .iand 1 10, zex 10 (.ifCond .ne 7) 3 13 17 0 0, zev32 13 (.iconst 1) 1 14 1, zex 14 (.goto 4) 3 17 18 0 0, zev32 17 (.iconst 0) 1 18 0,
  ze0 18 .ireturn 1 19]
def zm_93 : zMi := ((yX7_mayMeet, cX7_mayMeet, 4, (some .boolean)), (7, 4, 4), zt_93, [(18, [])])
/-- NotWhereYesterday$Watch.metLately(II)I -/
def zt_94 : zT := [ze0 0 (.iload_n 2) 1 1, ze0 1 (.aload_n 0) 1 2, zex 2 (.getfield 19) 3 5 7 2 2, zex 5 (.getfield 29) 3 8 6 6 0, zcal 8 (.invokestatic 35) 3 11 0 2 9 0, ze0 11 (.istore_n 3) 1 12,
  zev32 12 (.iconst 0) 1 13 0, ze0 13 (.istore 4) 2 15, zev32 15 (.iconst 0) 1 16 0, ze0 16 (.iload_n 2) 1 17, ze0 17 (.aload_n 0) 1 18, zex 18 (.getfield 15) 3 21 7 1 2,
  zex 21 (.getfield 45) 3 24 2 0 2, zev32 24 (.iconst 1) 1 25 1, ze0 25 .iaload 1 26, ze0 26 .isub 1 27, zcal 27 (.invokestatic 49) 3 30 0 2 8 0, ze0 30 (.istore 5) 2 32,
  ze0 32 (.iload 5) 2 34, ze0 34 (.iload_n 3) 1 35, zex 35 (.if_icmp .ge 24) 3 38 59 0 0, ze0 38 (.iload 4) 2 40, ze0 40 (.aload_n 0) 1 41, zex 41 (.getfield 19) 3 44 7 2 2,
  ze0 44 (.iload 5) 2 46, ze0 46 (.iload_n 1) 1 47, zcal 47 (.invokevirtual 64) 3 50 82 3 0 6, ze0 50 .ior 1 51, ze0 51 (.istore 4) 2 53, zev32 53 (.iinc 5 1) 3 56 1,
  zex 56 (.goto (-24)) 3 59 32 0 0, ze0 59 (.iload 4) 2 61, ze0 61 .ireturn 1 62]
def zm_94 : zMi := ((yX7_metLately, cX7_metLately, 6, (some .int)), (7, 3, 3), zt_94, [(32, [0, 1, 3, 4, 5])])
/-- NotWhereYesterday$Watch.isAble(II)Z -/
def zt_95 : zT := [ze0 0 (.aload_n 0) 1 1, zex 1 (.getfield 19) 3 4 7 2 2, ze0 4 (.aload_n 0) 1 5, zex 5 (.getfield 9) 3 8 7 0 2, ze0 8 (.iload_n 1) 1 9, ze0 9 (.iload_n 2) 1 10,
  zcal 10 (.invokevirtual 67) 3 13 87 4 0 6, ze0 13 .ireturn 1 14]
def zm_95 : zMi := ((yX7_isAble, cX7_isAble, 3, (some .boolean)), (7, 3, 2), zt_95, [])
/-- NotWhereYesterday$Watch.barredPair(II)Z -/
def zt_96 : zT := [ze0 0 (.aload_n 0) 1 1, zex 1 (.getfield 19) 3 4 7 2 2, ze0 4 (.iload_n 1) 1 5, ze0 5 (.iload_n 2) 1 6, zev32 6 (.iconst 1) 1 7 1, ze0 7 .isub 1 8,
  zcal 8 (.invokevirtual 52) 3 11 80 3 0 6, ze0 11 (.istore_n 3) 1 12, ze0 12 (.aload_n 0) 1 13, zex 13 (.getfield 19) 3 16 7 2 2, ze0 16 (.iload_n 1) 1 17, ze0 17 (.iload_n 2) 1 18,
  zcal 18 (.invokevirtual 52) 3 21 80 3 0 6, ze0 21 (.istore 4) 2 23, ze0 23 (.iload_n 3) 1 24, zev32 24 (.iconst (-1)) 1 25 (-1), zex 25 (.if_icmp .eq 27) 3 28 52 0 0, ze0 28 (.iload 4) 2 30,
  zev32 30 (.iconst (-1)) 1 31 (-1), zex 31 (.if_icmp .eq 21) 3 34 52 0 0, ze0 34 (.aload_n 0) 1 35, ze0 35 (.iload_n 3) 1 36, ze0 36 (.iload_n 1) 1 37, zcal 37 (.invokevirtual 61) 3 40 94 3 0 7,
  ze0 40 (.iload 4) 2 42, ze0 42 .ishr 1 43, zev32 43 (.iconst 1) 1 44 1, ze0 44 .iand 1 45, zex 45 (.ifCond .eq 7) 3 48 52 0 0, zev32 48 (.iconst 1) 1 49 1,
  zex 49 (.goto 4) 3 52 53 0 0, zev32 52 (.iconst 0) 1 53 0, ze0 53 .ireturn 1 54]
def zm_96 : zMi := ((yX7_barredPair, cX7_barredPair, 5, (some .boolean)), (7, 3, 4), zt_96, [(52, []), (53, [])])
/-- NotWhereYesterday$Watch.reason(IIZ)I -/
def zt_97 : zT := [ze0 0 (.aload_n 0) 1 1, zex 1 (.getfield 19) 3 4 7 2 2, ze0 4 (.iload_n 1) 1 5, ze0 5 (.iload_n 2) 1 6, zcal 6 (.invokevirtual 52) 3 9 80 3 0 6, ze0 9 (.istore 4) 2 11,
  ze0 11 (.aload_n 0) 1 12, zex 12 (.getfield 9) 3 15 7 0 2, ze0 15 (.iload 4) 2 17, zcal 17 (.invokevirtual 71) 3 20 14 2 0 1, zex 20 (.ifCond .ne 5) 3 23 25 0 0, zev32 23 (.iconst 0) 1 24 0,
  ze0 24 .ireturn 1 25, ze0 25 (.aload_n 0) 1 26, ze0 26 (.iload 4) 2 28, ze0 28 (.iload_n 2) 1 29, ze0 29 (.iload_n 1) 1 30, zcal 30 (.invokevirtual 76) 3 33 92 4 0 7,
  ze0 33 (.istore 5) 2 35, ze0 35 (.iload 5) 2 37, zex 37 (.ifCond .eq 6) 3 40 43 0 0, ze0 40 (.iload 5) 2 42, ze0 42 .ireturn 1 43, ze0 43 (.iload_n 3) 1 44,
  zex 44 (.ifCond .eq 15) 3 47 59 0 0, ze0 47 (.aload_n 0) 1 48, ze0 48 (.iload 4) 2 50, ze0 50 (.iload_n 2) 1 51, zcal 51 (.invokevirtual 80) 3 54 95 3 0 7, zex 54 (.ifCond .ne 5) 3 57 59 0 0,
  zev32 57 (.iconst 4) 1 58 4, ze0 58 .ireturn 1 59, ze0 59 (.aload_n 0) 1 60, ze0 60 (.iload_n 1) 1 61, ze0 61 (.iload_n 2) 1 62, zcal 62 (.invokevirtual 82) 3 65 96 3 0 7,
  zex 65 (.ifCond .eq 7) 3 68 72 0 0, zev32 68 (.iconst 5) 1 69 5, zex 69 (.goto 4) 3 72 73 0 0, zev32 72 (.iconst 0) 1 73 0, ze0 73 .ireturn 1 74]
def zm_97 : zMi := ((yX7_reason, cX7_reason, 6, (some .int)), (7, 4, 5), zt_97, [(59, [0, 1, 2]), (73, [])])
/-- NotWhereYesterday$Watch.isGood(IZ)Z -/
def zt_98 : zT := [zev32 0 (.iconst 0) 1 1 0, ze0 1 (.istore_n 3) 1 2, ze0 2 (.iload_n 3) 1 3, ze0 3 (.aload_n 0) 1 4, zex 4 (.getfield 9) 3 7 7 0 2, zex 7 (.getfield 85) 3 10 1 1 0,
  zex 10 (.if_icmp .ge 21) 3 13 31 0 0, ze0 13 (.aload_n 0) 1 14, ze0 14 (.iload_n 1) 1 15, ze0 15 (.iload_n 3) 1 16, ze0 16 (.iload_n 2) 1 17, zcal 17 (.invokevirtual 88) 3 20 97 4 0 7,
  zex 20 (.ifCond .eq 5) 3 23 25 0 0, zev32 23 (.iconst 0) 1 24 0, ze0 24 .ireturn 1 25, zev32 25 (.iinc 3 1) 3 28 1, zex 28 (.goto (-26)) 3 31 2 0 0, zev32 31 (.iconst 1) 1 32 1,
  ze0 32 .ireturn 1 33]
def zm_98 : zMi := ((yX7_isGood, cX7_isGood, 4, (some .boolean)), (7, 3, 6), zt_98, [(2, [0, 1, 2, 3])])
/-- NotWhereYesterday$Watch.worthOn(I)I -/
def zt_99 : zT := [zev32 0 (.iconst 0) 1 1 0, ze0 1 (.istore_n 2) 1 2, zev32 2 (.iconst 0) 1 3 0, ze0 3 (.istore_n 3) 1 4, ze0 4 (.iload_n 3) 1 5, ze0 5 (.aload_n 0) 1 6,
  zex 6 (.getfield 9) 3 9 7 0 2, zex 9 (.getfield 85) 3 12 1 1 0, zex 12 (.if_icmp .ge 37) 3 15 49 0 0, ze0 15 (.iload_n 2) 1 16, ze0 16 (.aload_n 0) 1 17, zex 17 (.getfield 19) 3 20 7 2 2,
  ze0 20 (.iload_n 1) 1 21, ze0 21 (.iload_n 3) 1 22, zcal 22 (.invokevirtual 52) 3 25 80 3 0 6, zev32 25 (.iconst (-1)) 1 26 (-1), zex 26 (.if_icmp .ne 7) 3 29 33 0 0, zev32 29 (.iconst 0) 1 30 0,
  zex 30 (.goto 11) 3 33 41 0 0, ze0 33 (.aload_n 0) 1 34, zex 34 (.getfield 9) 3 37 7 0 2, ze0 37 (.iload_n 3) 1 38, zcal 38 (.invokevirtual 92) 3 41 16 2 0 1, ze0 41 .iadd 1 42,
  ze0 42 (.istore_n 2) 1 43, zev32 43 (.iinc 3 1) 3 46 1, zex 46 (.goto (-42)) 3 49 4 0 0, ze0 49 (.iload_n 2) 1 50, ze0 50 .ireturn 1 51]
def zm_99 : zMi := ((yX7_worthOn, cX7_worthOn, 4, (some .int)), (7, 2, 2), zt_99, [(4, [0, 1, 2, 3]), (41, [0, 1, 3])])
/-- NotWhereYesterday$Watch.worthOf([I)I -/
def zt_100 : zT := [zev32 0 (.iconst 0) 1 1 0, ze0 1 (.istore_n 2) 1 2, zev32 2 (.iconst 0) 1 3 0, ze0 3 (.istore_n 3) 1 4, ze0 4 (.iload_n 3) 1 5, ze0 5 (.aload_n 0) 1 6,
  zex 6 (.getfield 9) 3 9 7 0 2, zex 9 (.getfield 85) 3 12 1 1 0, zex 12 (.if_icmp .ge 37) 3 15 49 0 0, ze0 15 (.iload_n 3) 1 16, ze0 16 (.aload_n 1) 1 17, ze0 17 .arraylength 1 18,
  zex 18 (.if_icmp .ge 31) 3 21 49 0 0, ze0 21 (.iload_n 2) 1 22, ze0 22 (.aload_n 1) 1 23, ze0 23 (.iload_n 3) 1 24, ze0 24 .iaload 1 25, zev32 25 (.iconst (-1)) 1 26 (-1),
  zex 26 (.if_icmp .ne 7) 3 29 33 0 0, zev32 29 (.iconst 0) 1 30 0, zex 30 (.goto 11) 3 33 41 0 0, ze0 33 (.aload_n 0) 1 34, zex 34 (.getfield 9) 3 37 7 0 2, ze0 37 (.iload_n 3) 1 38,
  zcal 38 (.invokevirtual 92) 3 41 16 2 0 1, ze0 41 .iadd 1 42, ze0 42 (.istore_n 2) 1 43, zev32 43 (.iinc 3 1) 3 46 1, zex 46 (.goto (-42)) 3 49 4 0 0, ze0 49 (.iload_n 2) 1 50,
  ze0 50 .ireturn 1 51]
def zm_100 : zMi := ((yX7_worthOf, cX7_worthOf, 4, (some .int)), (7, 2, 2), zt_100, [(4, [0, 1, 2, 3]), (41, [0, 1, 3]), (49, [2])])
/-- NotWhereYesterday$Watch.timesBroken([I)I -/
def zt_101 : zT := [zev32 0 (.iconst 0) 1 1 0, ze0 1 (.istore_n 2) 1 2, zev32 2 (.iconst (-1)) 1 3 (-1), ze0 3 (.istore_n 3) 1 4, zev32 4 (.iconst 0) 1 5 0, ze0 5 (.istore 4) 2 7,
  ze0 7 (.iload 4) 2 9, ze0 9 (.aload_n 0) 1 10, zex 10 (.getfield 9) 3 13 7 0 2, zex 13 (.getfield 85) 3 16 1 1 0, zex 16 (.if_icmp .ge 83) 3 19 99 0 0, ze0 19 (.iload 4) 2 21,
  ze0 21 (.aload_n 1) 1 22, ze0 22 .arraylength 1 23, zex 23 (.if_icmp .ge 76) 3 26 99 0 0, ze0 26 (.aload_n 1) 1 27, ze0 27 (.iload 4) 2 29, ze0 29 .iaload 1 30,
  ze0 30 (.istore 5) 2 32, ze0 32 (.iload 5) 2 34, zev32 34 (.iconst (-1)) 1 35 (-1), zex 35 (.if_icmp .eq 24) 3 38 59 0 0, ze0 38 (.aload_n 0) 1 39, ze0 39 (.iload 5) 2 41,
  ze0 41 (.iload 4) 2 43, ze0 43 (.aload_n 0) 1 44, zex 44 (.getfield 19) 3 47 7 2 2, zex 47 (.getfield 29) 3 50 6 6 0, zcal 50 (.invokevirtual 76) 3 53 92 4 0 7, zex 53 (.ifCond .eq 6) 3 56 59 0 0,
  zev32 56 (.iinc 2 1) 3 59 1, ze0 59 (.iload 5) 2 61, zev32 61 (.iconst (-1)) 1 62 (-1), zex 62 (.if_icmp .eq 28) 3 65 90 0 0, ze0 65 (.iload_n 3) 1 66, zev32 66 (.iconst (-1)) 1 67 (-1),
  zex 67 (.if_icmp .eq 23) 3 70 90 0 0, ze0 70 (.aload_n 0) 1 71, ze0 71 (.iload_n 3) 1 72, ze0 72 (.iload 5) 2 74, ze0 74 (.aload_n 0) 1 75, zex 75 (.getfield 19) 3 78 7 2 2,
  zex 78 (.getfield 29) 3 81 6 6 0, zcal 81 (.invokevirtual 96) 3 84 93 4 0 7, zex 84 (.ifCond .ne 6) 3 87 90 0 0, zev32 87 (.iinc 2 1) 3 90 1, ze0 90 (.iload 5) 2 92, ze0 92 (.istore_n 3) 1 93,
  zev32 93 (.iinc 4 1) 3 96 1, zex 96 (.goto (-89)) 3 99 7 0 0, ze0 99 (.iload_n 2) 1 100, ze0 100 .ireturn 1 101]
def zm_101 : zMi := ((yX7_timesBroken, cX7_timesBroken, 6, (some .int)), (7, 2, 5), zt_101, [(7, [0, 1, 2, 3, 4]), (59, [0, 1, 2, 3, 4, 5]), (90, [0, 1, 2, 4, 5]), (99, [2])])
/-- NotWhereYesterday$Watch.ableOnes(I)I -/
def zt_102 : zT := [zev32 0 (.iconst 0) 1 1 0, ze0 1 (.istore_n 2) 1 2, zev32 2 (.iconst 0) 1 3 0, ze0 3 (.istore_n 3) 1 4, ze0 4 (.iload_n 3) 1 5, ze0 5 (.aload_n 0) 1 6,
  zex 6 (.getfield 9) 3 9 7 0 2, zex 9 (.getfield 100) 3 12 1 0 0, zex 12 (.if_icmp .ge 28) 3 15 40 0 0, ze0 15 (.iload_n 2) 1 16, ze0 16 (.aload_n 0) 1 17, ze0 17 (.iload_n 3) 1 18,
  ze0 18 (.iload_n 1) 1 19, zcal 19 (.invokevirtual 80) 3 22 95 3 0 7, zex 22 (.ifCond .eq 9) 3 25 31 0 0, zev32 25 (.iconst 1) 1 26 1, ze0 26 (.iload_n 3) 1 27, ze0 27 .ishl 1 28,
  zex 28 (.goto 4) 3 31 32 0 0, zev32 31 (.iconst 0) 1 32 0, ze0 32 .ior 1 33, ze0 33 (.istore_n 2) 1 34, zev32 34 (.iinc 3 1) 3 37 1, zex 37 (.goto (-33)) 3 40 4 0 0,
  ze0 40 (.iload_n 2) 1 41, ze0 41 .ireturn 1 42]
def zm_102 : zMi := ((yX7_ableOnes, cX7_ableOnes, 4, (some .int)), (7, 2, 3), zt_102, [(4, [0, 1, 2, 3]), (32, [0, 1, 3])])
/-- NotWhereYesterday$Watch.candidates(I)I -/
def zt_103 : zT := [zev32 0 (.iconst 0) 1 1 0, ze0 1 (.istore_n 2) 1 2, zev32 2 (.iconst 0) 1 3 0, ze0 3 (.istore_n 3) 1 4, ze0 4 (.iload_n 3) 1 5, ze0 5 (.aload_n 0) 1 6,
  zex 6 (.getfield 9) 3 9 7 0 2, zex 9 (.getfield 100) 3 12 1 0 0, zex 12 (.if_icmp .ge 56) 3 15 68 0 0, ze0 15 (.aload_n 0) 1 16, ze0 16 (.iload_n 3) 1 17, ze0 17 (.iload_n 1) 1 18,
  zcal 18 (.invokevirtual 80) 3 21 95 3 0 7, zex 21 (.ifCond .eq 23) 3 24 44 0 0, ze0 24 (.aload_n 0) 1 25, ze0 25 (.iload_n 3) 1 26, ze0 26 (.iload_n 1) 1 27, ze0 27 (.aload_n 0) 1 28,
  zex 28 (.getfield 19) 3 31 7 2 2, zex 31 (.getfield 29) 3 34 6 6 0, zcal 34 (.invokevirtual 76) 3 37 92 4 0 7, zex 37 (.ifCond .ne 7) 3 40 44 0 0, zev32 40 (.iconst 1) 1 41 1, zex 41 (.goto 4) 3 44 45 0 0,
  zev32 44 (.iconst 0) 1 45 0, ze0 45 (.istore 4) 2 47, ze0 47 (.iload_n 2) 1 48, ze0 48 (.iload 4) 2 50, zex 50 (.ifCond .eq 9) 3 53 59 0 0, zev32 53 (.iconst 1) 1 54 1,
  ze0 54 (.iload_n 3) 1 55, ze0 55 .ishl 1 56, zex 56 (.goto 4) 3 59 60 0 0, zev32 59 (.iconst 0) 1 60 0, ze0 60 .ior 1 61, ze0 61 (.istore_n 2) 1 62,
  zev32 62 (.iinc 3 1) 3 65 1, zex 65 (.goto (-61)) 3 68 4 0 0, ze0 68 (.iload_n 2) 1 69, ze0 69 .ireturn 1 70]
def zm_103 : zMi := ((yX7_candidates, cX7_candidates, 5, (some .int)), (7, 2, 3), zt_103, [(4, [0, 1, 2, 3]), (44, [0, 1, 2, 3]), (45, [0, 1, 2, 3]), (60, [0, 1, 3])])
/-- NotWhereYesterday.<init>()V -/
def zt_104 : zT := [ze0 0 (.aload_n 0) 1 1, zcal 1 (.invokespecial 1) 3 4 0 1 5 0, ze0 4 (.aload_n 0) 1 5, zex 5 (.new 7) 3 8 1 7 0, ze0 8 .dup 1 9, zcal 9 (.invokespecial 9) 3 12 13 1 4 1,
  zex 12 (.putfield 10) 3 15 8 0 2, ze0 15 (.aload_n 0) 1 16, zex 16 (.new 16) 3 19 2 4 0, ze0 19 .dup 1 20, zcal 20 (.invokespecial 18) 3 23 17 1 4 2, zex 23 (.putfield 19) 3 26 8 1 2,
  ze0 26 (.aload_n 0) 1 27, zex 27 (.new 23) 3 30 6 9 0, ze0 30 .dup 1 31, zcal 31 (.invokespecial 25) 3 34 78 1 4 6, zex 34 (.putfield 26) 3 37 8 2 2, ze0 37 (.aload_n 0) 1 38,
  zev32 38 (.iconst 3) 1 39 3, zex 39 (.anewarray 23) 3 42 24 0 0, zex 42 (.putfield 30) 3 45 8 3 2, ze0 45 (.aload_n 0) 1 46, zev32 46 (.bipush 80) 2 48 80, zex 48 (.newarray .int) 2 50 20 0 0,
  zex 50 (.putfield 34) 3 53 8 4 2, ze0 53 (.aload_n 0) 1 54, zex 54 (.new 38) 3 57 5 4 0, ze0 57 .dup 1 58, ze0 58 (.aload_n 0) 1 59, zex 59 (.getfield 34) 3 62 8 4 2,
  zcal 62 (.invokespecial 40) 3 65 68 2 4 5, zex 65 (.putfield 43) 3 68 8 5 2, ze0 68 (.aload_n 0) 1 69, zex 69 (.new 47) 3 72 7 3 0, ze0 72 .dup 1 73, ze0 73 (.aload_n 0) 1 74,
  zex 74 (.getfield 10) 3 77 8 0 2, ze0 77 (.aload_n 0) 1 78, zex 78 (.getfield 19) 3 81 8 1 2, ze0 81 (.aload_n 0) 1 82, zex 82 (.getfield 26) 3 85 8 2 2, zcal 85 (.invokespecial 49) 3 88 91 4 4 7,
  zex 88 (.putfield 52) 3 91 8 6 2, ze0 91 (.aload_n 0) 1 92, zex 92 (.new 56) 3 95 0 12 0, ze0 95 .dup 1 96, ze0 96 (.aload_n 0) 1 97, zex 97 (.getfield 10) 3 100 8 0 2,
  ze0 100 (.aload_n 0) 1 101, zex 101 (.getfield 26) 3 104 8 2 2, ze0 104 (.aload_n 0) 1 105, zex 105 (.getfield 52) 3 108 8 6 2, zcal 108 (.invokespecial 58) 3 111 0 4 4 0, zex 111 (.putfield 61) 3 114 8 7 2,
  ze0 114 (.aload_n 0) 1 115, zex 115 (.new 65) 3 118 4 20 0, ze0 118 .dup 1 119, ze0 119 (.aload_n 0) 1 120, zex 120 (.getfield 10) 3 123 8 0 2, ze0 123 (.aload_n 0) 1 124,
  zex 124 (.getfield 19) 3 127 8 1 2, ze0 127 (.aload_n 0) 1 128, zex 128 (.getfield 26) 3 131 8 2 2, ze0 131 (.aload_n 0) 1 132, zex 132 (.getfield 52) 3 135 8 6 2, zcal 135 (.invokespecial 67) 3 138 37 5 4 4,
  zex 138 (.putfield 70) 3 141 8 8 2, ze0 141 (.aload_n 0) 1 142, zev32 142 (.bipush 32) 2 144 32, zex 144 (.newarray .int) 2 146 20 0 0, zex 146 (.putfield 74) 3 149 8 9 2, ze0 149 (.aload_n 0) 1 150,
  zev32 150 (.bipush 10) 2 152 10, zex 152 (.newarray .int) 2 154 20 0 0, zex 154 (.putfield 77) 3 157 8 10 2, zev32 157 (.iconst 0) 1 158 0, ze0 158 (.istore_n 1) 1 159, ze0 159 (.iload_n 1) 1 160,
  ze0 160 (.aload_n 0) 1 161, zex 161 (.getfield 30) 3 164 8 3 2, ze0 164 .arraylength 1 165, zex 165 (.if_icmp .ge 22) 3 168 187 0 0, ze0 168 (.aload_n 0) 1 169, zex 169 (.getfield 30) 3 172 8 3 2,
  ze0 172 (.iload_n 1) 1 173, zex 173 (.new 23) 3 176 6 9 0, ze0 176 .dup 1 177, zcal 177 (.invokespecial 25) 3 180 78 1 4 6, ze0 180 .aastore 1 181, zev32 181 (.iinc 1 1) 3 184 1,
  zex 184 (.goto (-25)) 3 187 159 0 0, ze0 187 .return_ 1 188]
def zm_104 : zMi := ((yX8_init, cX8_init, 2, none), (8, 1, 3), zt_104, [(12, [0]), (23, [0]), (34, [0]), (65, [0]), (88, [0]), (111, [0]), (138, [0]), (159, [0, 1]), (180, [0, 1])])
/-- NotWhereYesterday.person(II)I -/
def zt_105 : zT := [ze0 0 (.iload_n 1) 1 1, zex 1 (.ifCond .lt 32) 3 4 33 0 0, ze0 4 (.iload_n 1) 1 5, zev32 5 (.bipush 63) 2 7 63, zex 7 (.if_icmp .gt 26) 3 10 33 0 0, ze0 10 (.iload_n 2) 1 11,
  zev32 11 (.iconst 1) 1 12 1, zex 12 (.if_icmp .lt 21) 3 15 33 0 0, ze0 15 (.iload_n 2) 1 16, zev32 16 (.bipush 9) 2 18 9, zex 18 (.if_icmp .gt 15) 3 21 33 0 0, ze0 21 (.aload_n 0) 1 22,
  zex 22 (.getfield 10) 3 25 8 0 2, zex 25 (.getfield 80) 3 28 1 0 0, zev32 28 (.bipush 10) 2 30 10, zex 30 (.if_icmp .lt 5) 3 33 35 0 0, zev32 33 (.iconst (-1)) 1 34 (-1), ze0 34 .ireturn 1 35,
  ze0 35 (.aload_n 0) 1 36, zex 36 (.getfield 10) 3 39 8 0 2, zex 39 (.getfield 80) 3 42 1 0 0, ze0 42 (.istore_n 3) 1 43, ze0 43 (.aload_n 0) 1 44, zex 44 (.getfield 10) 3 47 8 0 2,
  zex 47 (.getfield 84) 3 50 1 2 2, ze0 50 (.iload_n 3) 1 51, ze0 51 (.iload_n 2) 1 52, ze0 52 .iastore 1 53, ze0 53 (.aload_n 0) 1 54, zex 54 (.getfield 26) 3 57 8 2 2,
  zex 57 (.getfield 87) 3 60 6 4 2, ze0 60 (.iload_n 3) 1 61, ze0 61 (.iload_n 1) 1 62, ze0 62 .iastore 1 63, ze0 63 (.aload_n 0) 1 64, zex 64 (.getfield 10) 3 67 8 0 2,
  ze0 67 (.iload_n 3) 1 68, zev32 68 (.iconst 1) 1 69 1, ze0 69 .iadd 1 70, zex 70 (.putfield 80) 3 73 1 0 0, ze0 73 (.iload_n 3) 1 74, ze0 74 .ireturn 1 75]
def zm_105 : zMi := ((yX8_person, cX8_person, 4, (some .int)), (8, 3, 1), zt_105, [(33, [])])
/-- NotWhereYesterday.post(IZII)I -/
def zt_106 : zT := [ze0 0 (.iload_n 1) 1 1, zev32 1 (.iconst (-1)) 1 2 (-1), zex 2 (.if_icmp .lt 20) 3 5 22 0 0, ze0 5 (.iload_n 1) 1 6, zev32 6 (.bipush 6) 2 8 6, zex 8 (.if_icmp .ge 14) 3 11 22 0 0,
  ze0 11 (.iload_n 3) 1 12, zev32 12 (.iconst 1) 1 13 1, zex 13 (.if_icmp .lt 9) 3 16 22 0 0, ze0 16 (.iload_n 3) 1 17, zev32 17 (.bipush 9) 2 19 9, zex 19 (.if_icmp .le 5) 3 22 24 0 0,
  zev32 22 (.iconst (-1)) 1 23 (-1), ze0 23 .ireturn 1 24, ze0 24 (.iload 4) 2 26, zex 26 (.ifCond .lt 22) 3 29 48 0 0, ze0 29 (.iload 4) 2 31, zev32 31 (.bipush 10) 2 33 10,
  zex 33 (.if_icmp .gt 15) 3 36 48 0 0, ze0 36 (.aload_n 0) 1 37, zex 37 (.getfield 10) 3 40 8 0 2, zex 40 (.getfield 90) 3 43 1 1 0, zev32 43 (.bipush 10) 2 45 10, zex 45 (.if_icmp .lt 5) 3 48 50 0 0,
  zev32 48 (.iconst (-1)) 1 49 (-1), ze0 49 .ireturn 1 50, ze0 50 (.aload_n 0) 1 51, zex 51 (.getfield 10) 3 54 8 0 2, zex 54 (.getfield 90) 3 57 1 1 0, ze0 57 (.istore 5) 2 59,
  ze0 59 (.aload_n 0) 1 60, zex 60 (.getfield 10) 3 63 8 0 2, zex 63 (.getfield 93) 3 66 1 3 2, ze0 66 (.iload 5) 2 68, ze0 68 (.iload_n 1) 1 69, ze0 69 .iastore 1 70,
  ze0 70 (.aload_n 0) 1 71, zex 71 (.getfield 10) 3 74 8 0 2, zex 74 (.getfield 96) 3 77 1 4 2, ze0 77 (.iload 5) 2 79, ze0 79 (.iload_n 2) 1 80, ze0 80 .bastore 1 81,
  ze0 81 (.aload_n 0) 1 82, zex 82 (.getfield 10) 3 85 8 0 2, zex 85 (.getfield 100) 3 88 1 5 2, ze0 88 (.iload 5) 2 90, ze0 90 (.iload_n 3) 1 91, ze0 91 .iastore 1 92,
  ze0 92 (.aload_n 0) 1 93, zex 93 (.getfield 10) 3 96 8 0 2, zex 96 (.getfield 103) 3 99 1 6 2, ze0 99 (.iload 5) 2 101, ze0 101 (.iload 4) 2 103, ze0 103 .iastore 1 104,
  ze0 104 (.aload_n 0) 1 105, zex 105 (.getfield 10) 3 108 8 0 2, ze0 108 (.iload 5) 2 110, zev32 110 (.iconst 1) 1 111 1, ze0 111 .iadd 1 112, zex 112 (.putfield 90) 3 115 1 1 0,
  ze0 115 (.iload 5) 2 117, ze0 117 .ireturn 1 118]
def zm_106 : zMi := ((yX8_post, cX8_post, 6, (some .int)), (8, 5, 1), zt_106, [(22, []), (48, [])])
/-- NotWhereYesterday.sign(I)I -/
def zt_107 : zT := [ze0 0 (.aload_n 0) 1 1, zex 1 (.getfield 106) 3 4 8 11 0, zev32 4 (.iconst 4) 1 5 4, ze0 5 .iadd 1 6, zev32 6 (.bipush 80) 2 8 80, zex 8 (.if_icmp .le 5) 3 11 13 0 0,
  zev32 11 (.iconst (-1)) 1 12 (-1), ze0 12 .ireturn 1 13, zev32 13 (.bipush 24) 2 15 24, ze0 15 (.istore_n 2) 1 16, ze0 16 (.iload_n 2) 1 17, zex 17 (.ifCond .lt 35) 3 20 52 0 0,
  ze0 20 (.aload_n 0) 1 21, zex 21 (.getfield 34) 3 24 8 4 2, ze0 24 (.aload_n 0) 1 25, zex 25 (.getfield 106) 3 28 8 11 0, ze0 28 (.iload_n 1) 1 29, ze0 29 (.iload_n 2) 1 30,
  ze0 30 .iushr 1 31, zev32 31 (.sipush 255) 3 34 255, ze0 34 .iand 1 35, ze0 35 .iastore 1 36, ze0 36 (.aload_n 0) 1 37, ze0 37 .dup 1 38,
  zex 38 (.getfield 106) 3 41 8 11 0, zev32 41 (.iconst 1) 1 42 1, ze0 42 .iadd 1 43, zex 43 (.putfield 106) 3 46 8 11 0, zev32 46 (.iinc 2 (-8)) 3 49 (-8), zex 49 (.goto (-33)) 3 52 16 0 0,
  ze0 52 (.aload_n 0) 1 53, zex 53 (.getfield 106) 3 56 8 11 0, ze0 56 .ireturn 1 57]
def zm_107 : zMi := ((yX8_sign, cX8_sign, 3, (some .int)), (8, 2, 1), zt_107, [(16, [0, 1, 2])])
/-- NotWhereYesterday.end(I)Z -/
def zt_108 : zT := [ze0 0 (.iload_n 1) 1 1, zex 1 (.ifCond .lt 11) 3 4 12 0 0, ze0 4 (.iload_n 1) 1 5, ze0 5 (.aload_n 0) 1 6, zex 6 (.getfield 106) 3 9 8 11 0, zex 9 (.if_icmp .le 5) 3 12 14 0 0,
  zev32 12 (.iconst 0) 1 13 0, ze0 13 .ireturn 1 14, ze0 14 (.aload_n 0) 1 15, ze0 15 (.iload_n 1) 1 16, zex 16 (.putfield 106) 3 19 8 11 0, zev32 19 (.iconst 1) 1 20 1,
  ze0 20 .ireturn 1 21]
def zm_108 : zMi := ((yX8_end, cX8_end, 2, (some .boolean)), (8, 2, 1), zt_108, [(12, [])])
/-- NotWhereYesterday.rule()I -/
def zt_109 : zT := [ze0 0 (.aload_n 0) 1 1, zex 1 (.getfield 43) 3 4 8 5 2, ze0 4 (.aload_n 0) 1 5, zex 5 (.getfield 106) 3 8 8 11 0, zcal 8 (.invokevirtual 109) 3 11 69 2 0 5, ze0 11 (.istore_n 1) 1 12,
  ze0 12 (.aload_n 0) 1 13, zev32 13 (.iconst 0) 1 14 0, zex 14 (.putfield 106) 3 17 8 11 0, ze0 17 (.iload_n 1) 1 18, zex 18 (.ifCond .lt 17) 3 21 35 0 0, ze0 21 (.aload_n 0) 1 22,
  zex 22 (.getfield 19) 3 25 8 1 2, ze0 25 (.aload_n 0) 1 26, zex 26 (.getfield 43) 3 29 8 5 2, zex 29 (.getfield 113) 3 32 5 0 2, zcal 32 (.invokevirtual 116) 3 35 19 2 1 2, ze0 35 (.iload_n 1) 1 36,
  ze0 36 .ireturn 1 37]
def zm_109 : zMi := ((yX8_rule, cX8_rule, 2, (some .int)), (8, 1, 6), zt_109, [(35, [1])])
/-- NotWhereYesterday.crafts(II)I -/
def zt_110 : zT := [ze0 0 (.aload_n 0) 1 1, zex 1 (.getfield 10) 3 4 8 0 2, ze0 4 (.iload_n 1) 1 5, zcal 5 (.invokevirtual 120) 3 8 14 2 0 1, zex 8 (.ifCond .eq 14) 3 11 22 0 0, ze0 11 (.iload_n 2) 1 12,
  zev32 12 (.iconst (-1)) 1 13 (-1), zex 13 (.if_icmp .lt 9) 3 16 22 0 0, ze0 16 (.iload_n 2) 1 17, zev32 17 (.bipush 6) 2 19 6, zex 19 (.if_icmp .lt 5) 3 22 24 0 0, zev32 22 (.iconst (-1)) 1 23 (-1),
  ze0 23 .ireturn 1 24, ze0 24 (.iload_n 2) 1 25, zev32 25 (.iconst (-1)) 1 26 (-1), zex 26 (.if_icmp .ne 15) 3 29 41 0 0, ze0 29 (.aload_n 0) 1 30, zex 30 (.getfield 26) 3 33 8 2 2,
  zex 33 (.getfield 87) 3 36 6 4 2, ze0 36 (.iload_n 1) 1 37, ze0 37 .iaload 1 38, zex 38 (.goto 17) 3 41 55 0 0, ze0 41 (.aload_n 0) 1 42, zex 42 (.getfield 26) 3 45 8 2 2,
  zex 45 (.getfield 124) 3 48 6 5 2, ze0 48 (.iload_n 1) 1 49, zev32 49 (.bipush 6) 2 51 6, ze0 51 .imul 1 52, ze0 52 (.iload_n 2) 1 53, ze0 53 .iadd 1 54,
  ze0 54 .iaload 1 55, ze0 55 .ireturn 1 56]
def zm_110 : zMi := ((yX8_crafts, cX8_crafts, 3, (some .int)), (8, 3, 2), zt_110, [(22, []), (55, [])])
/-- NotWhereYesterday.may(II)I -/
def zt_111 : zT := [ze0 0 (.aload_n 0) 1 1, zex 1 (.getfield 10) 3 4 8 0 2, ze0 4 (.iload_n 1) 1 5, zcal 5 (.invokevirtual 120) 3 8 14 2 0 1, zex 8 (.ifCond .eq 14) 3 11 22 0 0, ze0 11 (.aload_n 0) 1 12,
  zex 12 (.getfield 10) 3 15 8 0 2, ze0 15 (.iload_n 2) 1 16, zcal 16 (.invokevirtual 127) 3 19 15 2 0 1, zex 19 (.ifCond .ne 5) 3 22 24 0 0, zev32 22 (.iconst (-1)) 1 23 (-1), ze0 23 .ireturn 1 24,
  ze0 24 (.aload_n 0) 1 25, zex 25 (.getfield 52) 3 28 8 6 2, ze0 28 (.iload_n 1) 1 29, ze0 29 (.iload_n 2) 1 30, ze0 30 (.aload_n 0) 1 31, zex 31 (.getfield 26) 3 34 8 2 2,
  zex 34 (.getfield 130) 3 37 6 6 0, zcal 37 (.invokevirtual 133) 3 40 92 4 0 7, zex 40 (.ifCond .ne 7) 3 43 47 0 0, zev32 43 (.iconst 1) 1 44 1, zex 44 (.goto 4) 3 47 48 0 0, zev32 47 (.iconst 0) 1 48 0,
  ze0 48 .ireturn 1 49]
def zm_111 : zMi := ((yX8_may, cX8_may, 3, (some .int)), (8, 3, 3), zt_111, [(22, []), (48, [])])
/-- NotWhereYesterday.beside(II)I -/
def zt_112 : zT := [ze0 0 (.aload_n 0) 1 1, zex 1 (.getfield 10) 3 4 8 0 2, ze0 4 (.iload_n 1) 1 5, zcal 5 (.invokevirtual 120) 3 8 14 2 0 1, zex 8 (.ifCond .eq 19) 3 11 27 0 0, ze0 11 (.aload_n 0) 1 12,
  zex 12 (.getfield 10) 3 15 8 0 2, ze0 15 (.iload_n 2) 1 16, zcal 16 (.invokevirtual 120) 3 19 14 2 0 1, zex 19 (.ifCond .eq 8) 3 22 27 0 0, ze0 22 (.iload_n 1) 1 23, ze0 23 (.iload_n 2) 1 24,
  zex 24 (.if_icmp .ne 5) 3 27 29 0 0, zev32 27 (.iconst (-1)) 1 28 (-1), ze0 28 .ireturn 1 29, ze0 29 (.aload_n 0) 1 30, zex 30 (.getfield 52) 3 33 8 6 2, ze0 33 (.iload_n 1) 1 34,
  ze0 34 (.iload_n 2) 1 35, ze0 35 (.aload_n 0) 1 36, zex 36 (.getfield 26) 3 39 8 2 2, zex 39 (.getfield 130) 3 42 6 6 0, zcal 42 (.invokevirtual 137) 3 45 93 4 0 7, zex 45 (.ifCond .eq 7) 3 48 52 0 0,
  zev32 48 (.iconst 1) 1 49 1, zex 49 (.goto 4) 3 52 53 0 0, zev32 52 (.iconst 0) 1 53 0, ze0 53 .ireturn 1 54]
def zm_112 : zMi := ((yX8_beside, cX8_beside, 3, (some .int)), (8, 3, 5), zt_112, [(27, []), (53, [])])
/-- NotWhereYesterday.put(II)I -/
def zt_113 : zT := [ze0 0 (.aload_n 0) 1 1, zex 1 (.getfield 10) 3 4 8 0 2, ze0 4 (.iload_n 1) 1 5, zcal 5 (.invokevirtual 127) 3 8 15 2 0 1, zex 8 (.ifCond .eq 19) 3 11 27 0 0, ze0 11 (.iload_n 2) 1 12,
  zev32 12 (.iconst (-1)) 1 13 (-1), zex 13 (.if_icmp .eq 17) 3 16 30 0 0, ze0 16 (.aload_n 0) 1 17, zex 17 (.getfield 10) 3 20 8 0 2, ze0 20 (.iload_n 2) 1 21, zcal 21 (.invokevirtual 120) 3 24 14 2 0 1,
  zex 24 (.ifCond .ne 6) 3 27 30 0 0, zev32 27 (.bipush (-3)) 2 29 (-3), ze0 29 .ireturn 1 30, ze0 30 (.iload_n 2) 1 31, zev32 31 (.iconst (-1)) 1 32 (-1), zex 32 (.if_icmp .ne 7) 3 35 39 0 0,
  zev32 35 (.iconst (-1)) 1 36 (-1), zex 36 (.goto 18) 3 39 54 0 0, ze0 39 (.aload_n 0) 1 40, zex 40 (.getfield 26) 3 43 8 2 2, ze0 43 (.aload_n 0) 1 44, zex 44 (.getfield 26) 3 47 8 2 2,
  zex 47 (.getfield 130) 3 50 6 6 0, ze0 50 (.iload_n 2) 1 51, zcal 51 (.invokevirtual 141) 3 54 81 3 0 6, ze0 54 (.istore_n 3) 1 55, ze0 55 (.iload_n 3) 1 56, zev32 56 (.iconst (-1)) 1 57 (-1),
  zex 57 (.if_icmp .eq 11) 3 60 68 0 0, ze0 60 (.iload_n 3) 1 61, ze0 61 (.iload_n 1) 1 62, zex 62 (.if_icmp .eq 6) 3 65 68 0 0, zev32 65 (.bipush (-2)) 2 67 (-2), ze0 67 .ireturn 1 68,
  ze0 68 (.aload_n 0) 1 69, zex 69 (.getfield 26) 3 72 8 2 2, ze0 72 (.aload_n 0) 1 73, zex 73 (.getfield 26) 3 76 8 2 2, zex 76 (.getfield 130) 3 79 6 6 0, ze0 79 (.iload_n 1) 1 80,
  zcal 80 (.invokevirtual 145) 3 83 80 3 0 6, ze0 83 (.istore 4) 2 85, ze0 85 (.aload_n 0) 1 86, zex 86 (.getfield 26) 3 89 8 2 2, ze0 89 (.iload_n 1) 1 90, ze0 90 (.iload_n 2) 1 91,
  zcal 91 (.invokevirtual 148) 3 94 85 3 1 6, ze0 94 (.iload 4) 2 96, ze0 96 .ireturn 1 97]
def zm_113 : zMi := ((yX8_put, cX8_put, 5, (some .int)), (8, 3, 2), zt_113, [(27, []), (30, [0, 1, 2]), (54, [0, 1, 2]), (68, [0, 1, 2])])
/-- NotWhereYesterday.sheet(IIII)I -/
def zt_114 : zT := [ze0 0 (.iload_n 1) 1 1, zex 1 (.ifCond .lt 14) 3 4 15 0 0, ze0 4 (.iload_n 1) 1 5, zev32 5 (.iconst 3) 1 6 3, zex 6 (.if_icmp .gt 9) 3 9 15 0 0, ze0 9 (.iload_n 2) 1 10,
  zev32 10 (.bipush 10) 2 12 10, zex 12 (.if_icmp .le 5) 3 15 17 0 0, zev32 15 (.iconst (-1)) 1 16 (-1), ze0 16 .ireturn 1 17, ze0 17 (.iload_n 1) 1 18, zev32 18 (.iconst 3) 1 19 3,
  zex 19 (.if_icmp .ge 10) 3 22 29 0 0, ze0 22 (.iload_n 2) 1 23, zex 23 (.ifCond .ge 6) 3 26 29 0 0, zev32 26 (.bipush (-2)) 2 28 (-2), ze0 28 .ireturn 1 29, ze0 29 (.aload_n 0) 1 30,
  zex 30 (.getfield 26) 3 33 8 2 2, zcal 33 (.invokevirtual 152) 3 36 86 1 1 6, ze0 36 (.iload_n 1) 1 37, zev32 37 (.iconst 3) 1 38 3, zex 38 (.if_icmp .ne 7) 3 41 45 0 0, zev32 41 (.iconst 0) 1 42 0,
  zex 42 (.goto 14) 3 45 56 0 0, ze0 45 (.iload_n 2) 1 46, ze0 46 (.aload_n 0) 1 47, zex 47 (.getfield 10) 3 50 8 0 2, zex 50 (.getfield 90) 3 53 1 1 0, zcal 53 (.invokestatic 155) 3 56 0 2 9 0,
  ze0 56 (.istore 5) 2 58, zev32 58 (.iconst 0) 1 59 0, ze0 59 (.istore 6) 2 61, ze0 61 (.iload 6) 2 63, ze0 63 (.iload 5) 2 65, zex 65 (.if_icmp .ge 66) 3 68 131 0 0,
  ze0 68 (.aload_n 0) 1 69, ze0 69 (.iload_n 1) 1 70, ze0 70 (.iload_n 3) 1 71, ze0 71 (.iload 6) 2 73, ze0 73 (.iload 4) 2 75, ze0 75 .imul 1 76,
  ze0 76 .iadd 1 77, zcal 77 (.invokevirtual 160) 3 80 115 3 0 8, ze0 80 (.istore 7) 2 82, ze0 82 (.aload_n 0) 1 83, zex 83 (.getfield 10) 3 86 8 0 2, ze0 86 (.iload 7) 2 88,
  zcal 88 (.invokevirtual 120) 3 91 14 2 0 1, zex 91 (.ifCond .eq 34) 3 94 125 0 0, ze0 94 (.aload_n 0) 1 95, zex 95 (.getfield 26) 3 98 8 2 2, ze0 98 (.aload_n 0) 1 99, zex 99 (.getfield 26) 3 102 8 2 2,
  zex 102 (.getfield 130) 3 105 6 6 0, ze0 105 (.iload 7) 2 107, zcal 107 (.invokevirtual 141) 3 110 81 3 0 6, zev32 110 (.iconst (-1)) 1 111 (-1), zex 111 (.if_icmp .ne 14) 3 114 125 0 0, ze0 114 (.aload_n 0) 1 115,
  zex 115 (.getfield 26) 3 118 8 2 2, ze0 118 (.iload 6) 2 120, ze0 120 (.iload 7) 2 122, zcal 122 (.invokevirtual 148) 3 125 85 3 1 6, zev32 125 (.iinc 6 1) 3 128 1, zex 128 (.goto (-67)) 3 131 61 0 0,
  ze0 131 (.aload_n 0) 1 132, zcal 132 (.invokevirtual 163) 3 135 116 1 0 8, ze0 135 .ireturn 1 136]
def zm_114 : zMi := ((yX8_sheet, cX8_sheet, 8, (some .int)), (8, 5, 3), zt_114, [(15, []), (29, [0, 1, 2, 3, 4]), (56, [0, 1, 3, 4]), (61, [0, 1, 3, 4, 5, 6]), (125, [0, 1, 3, 4, 5, 6])])
/-- NotWhereYesterday.entry(II)I -/
def zt_115 : zT := [ze0 0 (.iload_n 1) 1 1, zex 1 (.ifCond .ne 6) 3 4 7 0 0, ze0 4 (.iload_n 2) 1 5, ze0 5 .i2b 1 6, ze0 6 .ireturn 1 7, ze0 7 (.iload_n 1) 1 8,
  zev32 8 (.iconst 1) 1 9 1, zex 9 (.if_icmp .ne 8) 3 12 17 0 0, ze0 12 (.iload_n 2) 1 13, ze0 13 .i2s 1 14, zex 14 (.goto 4) 3 17 18 0 0, ze0 17 (.iload_n 2) 1 18,
  ze0 18 .ireturn 1 19]
def zm_115 : zMi := ((yX8_entry, cX8_entry, 3, (some .int)), (8, 3, 1), zt_115, [(18, [])])
/-- NotWhereYesterday.filledPosts()I -/
def zt_116 : zT := [zev32 0 (.iconst 0) 1 1 0, ze0 1 (.istore_n 1) 1 2, zev32 2 (.iconst 0) 1 3 0, ze0 3 (.istore_n 2) 1 4, ze0 4 (.iload_n 2) 1 5, ze0 5 (.aload_n 0) 1 6,
  zex 6 (.getfield 10) 3 9 8 0 2, zex 9 (.getfield 90) 3 12 1 1 0, zex 12 (.if_icmp .ge 31) 3 15 43 0 0, ze0 15 (.aload_n 0) 1 16, zex 16 (.getfield 26) 3 19 8 2 2, ze0 19 (.aload_n 0) 1 20,
  zex 20 (.getfield 26) 3 23 8 2 2, zex 23 (.getfield 130) 3 26 6 6 0, ze0 26 (.iload_n 2) 1 27, zcal 27 (.invokevirtual 145) 3 30 80 3 0 6, zev32 30 (.iconst (-1)) 1 31 (-1), zex 31 (.if_icmp .eq 6) 3 34 37 0 0,
  zev32 34 (.iinc 1 1) 3 37 1, zev32 37 (.iinc 2 1) 3 40 1, zex 40 (.goto (-36)) 3 43 4 0 0, ze0 43 (.iload_n 1) 1 44, ze0 44 .ireturn 1 45]
def zm_116 : zMi := ((yX8_filledPosts, cX8_filledPosts, 3, (some .int)), (8, 1, 2), zt_116, [(4, [0, 1, 2]), (37, [0, 1, 2])])
/-- NotWhereYesterday.good()I -/
def zt_117 : zT := [ze0 0 (.aload_n 0) 1 1, zcal 1 (.invokevirtual 167) 3 4 167 1 1 8, ze0 4 (.aload_n 0) 1 5, ze0 5 (.aload_n 0) 1 6, zex 6 (.getfield 52) 3 9 8 6 2, ze0 9 (.aload_n 0) 1 10,
  zex 10 (.getfield 26) 3 13 8 2 2, zex 13 (.getfield 130) 3 16 6 6 0, zcal 16 (.invokevirtual 170) 3 19 99 2 0 7, zcal 19 (.invokevirtual 173) 3 22 168 2 1 8, zev32 22 (.iconst 0) 1 23 0, ze0 23 (.istore_n 1) 1 24,
  ze0 24 (.iload_n 1) 1 25, ze0 25 (.aload_n 0) 1 26, zex 26 (.getfield 10) 3 29 8 0 2, zex 29 (.getfield 90) 3 32 1 1 0, zex 32 (.if_icmp .ge 29) 3 35 61 0 0, ze0 35 (.aload_n 0) 1 36,
  ze0 36 (.aload_n 0) 1 37, zex 37 (.getfield 52) 3 40 8 6 2, ze0 40 (.aload_n 0) 1 41, zex 41 (.getfield 26) 3 44 8 2 2, zex 44 (.getfield 130) 3 47 6 6 0, ze0 47 (.iload_n 1) 1 48,
  zev32 48 (.iconst 1) 1 49 1, zcal 49 (.invokevirtual 177) 3 52 97 4 0 7, zcal 52 (.invokevirtual 173) 3 55 168 2 1 8, zev32 55 (.iinc 1 1) 3 58 1, zex 58 (.goto (-34)) 3 61 24 0 0, ze0 61 (.aload_n 0) 1 62,
  zex 62 (.getfield 52) 3 65 8 6 2, ze0 65 (.aload_n 0) 1 66, zex 66 (.getfield 26) 3 69 8 2 2, zex 69 (.getfield 130) 3 72 6 6 0, zev32 72 (.iconst 1) 1 73 1, zcal 73 (.invokevirtual 181) 3 76 98 3 0 7,
  zex 76 (.ifCond .eq 7) 3 79 83 0 0, zev32 79 (.iconst 1) 1 80 1, zex 80 (.goto 4) 3 83 84 0 0, zev32 83 (.iconst 0) 1 84 0, ze0 84 .ireturn 1 85]
def zm_117 : zMi := ((yX8_good, cX8_good, 2, (some .int)), (8, 1, 7), zt_117, [(24, [0, 1]), (84, [])])
/-- NotWhereYesterday.day()I -/
def zt_118 : zT := [ze0 0 (.aload_n 0) 1 1, zex 1 (.getfield 26) 3 4 8 2 2, zex 4 (.getfield 130) 3 7 6 6 0, zev32 7 (.bipush 60) 2 9 60, zex 9 (.if_icmp .lt 5) 3 12 14 0 0, zev32 12 (.iconst (-1)) 1 13 (-1),
  ze0 13 .ireturn 1 14, ze0 14 (.aload_n 0) 1 15, zex 15 (.getfield 26) 3 18 8 2 2, ze0 18 (.aload_n 0) 1 19, zex 19 (.getfield 10) 3 22 8 0 2, zcal 22 (.invokevirtual 185) 3 25 88 2 1 6,
  ze0 25 (.aload_n 0) 1 26, zex 26 (.getfield 26) 3 29 8 2 2, zex 29 (.getfield 130) 3 32 6 6 0, zev32 32 (.iconst 1) 1 33 1, ze0 33 .isub 1 34, ze0 34 .ireturn 1 35]
def zm_118 : zMi := ((yX8_day, cX8_day, 1, (some .int)), (8, 1, 3), zt_118, [])
/-- NotWhereYesterday.who(II)I -/
def zt_119 : zT := [ze0 0 (.iload_n 1) 1 1, zex 1 (.ifCond .lt 25) 3 4 26 0 0, ze0 4 (.iload_n 1) 1 5, ze0 5 (.aload_n 0) 1 6, zex 6 (.getfield 26) 3 9 8 2 2, zex 9 (.getfield 130) 3 12 6 6 0,
  zex 12 (.if_icmp .gt 14) 3 15 26 0 0, ze0 15 (.aload_n 0) 1 16, zex 16 (.getfield 10) 3 19 8 0 2, ze0 19 (.iload_n 2) 1 20, zcal 20 (.invokevirtual 127) 3 23 15 2 0 1, zex 23 (.ifCond .ne 6) 3 26 29 0 0,
  zev32 26 (.bipush (-2)) 2 28 (-2), ze0 28 .ireturn 1 29, ze0 29 (.aload_n 0) 1 30, zex 30 (.getfield 26) 3 33 8 2 2, ze0 33 (.iload_n 1) 1 34, ze0 34 (.iload_n 2) 1 35,
  zcal 35 (.invokevirtual 145) 3 38 80 3 0 6, ze0 38 .ireturn 1 39]
def zm_119 : zMi := ((yX8_who, cX8_who, 3, (some .int)), (8, 3, 2), zt_119, [(26, [])])
/-- NotWhereYesterday.judge(I)I -/
def zt_120 : zT := [ze0 0 (.iload_n 1) 1 1, zex 1 (.ifCond .lt 14) 3 4 15 0 0, ze0 4 (.iload_n 1) 1 5, ze0 5 (.aload_n 0) 1 6, zex 6 (.getfield 26) 3 9 8 2 2, zex 9 (.getfield 130) 3 12 6 6 0,
  zex 12 (.if_icmp .lt 5) 3 15 17 0 0, zev32 15 (.iconst (-1)) 1 16 (-1), ze0 16 .ireturn 1 17, ze0 17 (.iload_n 1) 1 18, ze0 18 (.istore_n 2) 1 19, ze0 19 (.iload_n 2) 1 20,
  ze0 20 (.aload_n 0) 1 21, zex 21 (.getfield 26) 3 24 8 2 2, zex 24 (.getfield 130) 3 27 6 6 0, zex 27 (.if_icmp .ge 58) 3 30 85 0 0, zev32 30 (.iconst 0) 1 31 0, ze0 31 (.istore_n 3) 1 32,
  ze0 32 (.iload_n 3) 1 33, ze0 33 (.aload_n 0) 1 34, zex 34 (.getfield 10) 3 37 8 0 2, zex 37 (.getfield 90) 3 40 1 1 0, zex 40 (.if_icmp .ge 39) 3 43 79 0 0, ze0 43 (.aload_n 0) 1 44,
  ze0 44 (.iload_n 2) 1 45, ze0 45 (.iload_n 3) 1 46, zcal 46 (.invokevirtual 189) 3 49 121 3 0 8, ze0 49 (.istore 4) 2 51, ze0 51 (.iload 4) 2 53, zex 53 (.ifCond .eq 20) 3 56 73 0 0,
  ze0 56 (.aload_n 0) 1 57, zcal 57 (.invokevirtual 167) 3 60 167 1 1 8, ze0 60 (.aload_n 0) 1 61, ze0 61 (.iload_n 3) 1 62, zcal 62 (.invokevirtual 173) 3 65 168 2 1 8, ze0 65 (.aload_n 0) 1 66,
  ze0 66 (.iload 4) 2 68, zcal 68 (.invokevirtual 173) 3 71 168 2 1 8, ze0 71 (.iload_n 2) 1 72, ze0 72 .ireturn 1 73, zev32 73 (.iinc 3 1) 3 76 1, zex 76 (.goto (-44)) 3 79 32 0 0,
  zev32 79 (.iinc 2 1) 3 82 1, zex 82 (.goto (-63)) 3 85 19 0 0, zev32 85 (.bipush (-2)) 2 87 (-2), ze0 87 .ireturn 1 88]
def zm_120 : zMi := ((yX8_judge, cX8_judge, 5, (some .int)), (8, 2, 7), zt_120, [(15, []), (19, [0, 2]), (32, [0, 2, 3])])
/-- NotWhereYesterday.wrongOn(II)I -/
def zt_121 : zT := [ze0 0 (.aload_n 0) 1 1, zex 1 (.getfield 26) 3 4 8 2 2, ze0 4 (.iload_n 1) 1 5, ze0 5 (.iload_n 2) 1 6, zcal 6 (.invokevirtual 145) 3 9 80 3 0 6, zev32 9 (.iconst (-1)) 1 10 (-1),
  zex 10 (.if_icmp .ne 22) 3 13 32 0 0, ze0 13 (.aload_n 0) 1 14, zex 14 (.getfield 10) 3 17 8 0 2, zex 17 (.getfield 96) 3 20 1 4 2, ze0 20 (.iload_n 2) 1 21, ze0 21 .baload 1 22,
  zex 22 (.ifCond .eq 8) 3 25 30 0 0, zev32 25 (.bipush 6) 2 27 6, zex 27 (.goto 4) 3 30 31 0 0, zev32 30 (.iconst 0) 1 31 0, ze0 31 .ireturn 1 32, ze0 32 (.aload_n 0) 1 33,
  zex 33 (.getfield 52) 3 36 8 6 2, ze0 36 (.iload_n 1) 1 37, ze0 37 (.iload_n 2) 1 38, zev32 38 (.iconst 1) 1 39 1, zcal 39 (.invokevirtual 177) 3 42 97 4 0 7, ze0 42 .ireturn 1 43]
def zm_121 : zMi := ((yX8_wrongOn, cX8_wrongOn, 3, (some .int)), (8, 3, 6), zt_121, [(31, [])])
/-- NotWhereYesterday.broken()I -/
def zt_122 : zT := [ze0 0 (.aload_n 0) 1 1, zex 1 (.getfield 77) 3 4 8 10 2, zev32 4 (.iconst 0) 1 5 0, zcal 5 (.invokestatic 192) 3 8 290 2 1 14, zev32 8 (.iconst 0) 1 9 0, ze0 9 (.istore_n 1) 1 10,
  ze0 10 (.iload_n 1) 1 11, ze0 11 (.aload_n 0) 1 12, zex 12 (.getfield 26) 3 15 8 2 2, zex 15 (.getfield 130) 3 18 6 6 0, zex 18 (.if_icmp .ge 92) 3 21 110 0 0, zev32 21 (.iconst 0) 1 22 0,
  ze0 22 (.istore_n 2) 1 23, ze0 23 (.iload_n 2) 1 24, ze0 24 (.aload_n 0) 1 25, zex 25 (.getfield 10) 3 28 8 0 2, zex 28 (.getfield 90) 3 31 1 1 0, zex 31 (.if_icmp .ge 73) 3 34 104 0 0,
  ze0 34 (.aload_n 0) 1 35, zex 35 (.getfield 26) 3 38 8 2 2, ze0 38 (.iload_n 1) 1 39, ze0 39 (.iload_n 2) 1 40, zcal 40 (.invokevirtual 145) 3 43 80 3 0 6, ze0 43 (.istore_n 3) 1 44,
  ze0 44 (.iload_n 3) 1 45, zev32 45 (.iconst (-1)) 1 46 (-1), zex 46 (.if_icmp .ne 7) 3 49 53 0 0, zev32 49 (.iconst 0) 1 50 0, zex 50 (.goto 13) 3 53 63 0 0, ze0 53 (.aload_n 0) 1 54,
  zex 54 (.getfield 52) 3 57 8 6 2, ze0 57 (.iload_n 3) 1 58, ze0 58 (.iload_n 2) 1 59, ze0 59 (.iload_n 1) 1 60, zcal 60 (.invokevirtual 133) 3 63 92 4 0 7, ze0 63 (.istore 4) 2 65,
  ze0 65 (.aload_n 0) 1 66, zex 66 (.getfield 77) 3 69 8 10 2, ze0 69 (.iload 4) 2 71, ze0 71 .dup2 1 72, ze0 72 .iaload 1 73, zev32 73 (.iconst 1) 1 74 1,
  ze0 74 .iadd 1 75, ze0 75 .iastore 1 76, ze0 76 (.aload_n 0) 1 77, zex 77 (.getfield 52) 3 80 8 6 2, ze0 80 (.iload_n 1) 1 81, ze0 81 (.iload_n 2) 1 82,
  zcal 82 (.invokevirtual 198) 3 85 96 3 0 7, zex 85 (.ifCond .eq 13) 3 88 98 0 0, ze0 88 (.aload_n 0) 1 89, zex 89 (.getfield 77) 3 92 8 10 2, zev32 92 (.iconst 4) 1 93 4, ze0 93 .dup2 1 94,
  ze0 94 .iaload 1 95, zev32 95 (.iconst 1) 1 96 1, ze0 96 .iadd 1 97, ze0 97 .iastore 1 98, zev32 98 (.iinc 2 1) 3 101 1, zex 101 (.goto (-78)) 3 104 23 0 0,
  zev32 104 (.iinc 1 1) 3 107 1, zex 107 (.goto (-97)) 3 110 10 0 0, ze0 110 (.aload_n 0) 1 111, zcal 111 (.invokevirtual 167) 3 114 167 1 1 8, zev32 114 (.iconst 0) 1 115 0, ze0 115 (.istore_n 1) 1 116,
  zev32 116 (.iconst 1) 1 117 1, ze0 117 (.istore_n 2) 1 118, ze0 118 (.iload_n 2) 1 119, zev32 119 (.iconst 4) 1 120 4, zex 120 (.if_icmp .gt 28) 3 123 148 0 0, ze0 123 (.aload_n 0) 1 124,
  ze0 124 (.aload_n 0) 1 125, zex 125 (.getfield 77) 3 128 8 10 2, ze0 128 (.iload_n 2) 1 129, ze0 129 .iaload 1 130, zcal 130 (.invokevirtual 173) 3 133 168 2 1 8, ze0 133 (.iload_n 1) 1 134,
  ze0 134 (.aload_n 0) 1 135, zex 135 (.getfield 77) 3 138 8 10 2, ze0 138 (.iload_n 2) 1 139, ze0 139 .iaload 1 140, ze0 140 .iadd 1 141, ze0 141 (.istore_n 1) 1 142,
  zev32 142 (.iinc 2 1) 3 145 1, zex 145 (.goto (-27)) 3 148 118 0 0, ze0 148 (.iload_n 1) 1 149, ze0 149 .ireturn 1 150]
def zm_122 : zMi := ((yX8_broken, cX8_broken, 5, (some .int)), (8, 1, 5), zt_122, [(10, [0, 1]), (23, [0, 1, 2]), (63, [0, 1, 2]), (98, [0, 1, 2]), (118, [0, 1, 2])])
/-- NotWhereYesterday.works(I)I -/
def zt_123 : zT := [ze0 0 (.aload_n 0) 1 1, zex 1 (.getfield 10) 3 4 8 0 2, ze0 4 (.iload_n 1) 1 5, zcal 5 (.invokevirtual 127) 3 8 15 2 0 1, zex 8 (.ifCond .ne 5) 3 11 13 0 0, zev32 11 (.iconst (-1)) 1 12 (-1),
  ze0 12 .ireturn 1 13, ze0 13 (.aload_n 0) 1 14, zcal 14 (.invokevirtual 167) 3 17 167 1 1 8, ze0 17 (.aload_n 0) 1 18, ze0 18 (.aload_n 0) 1 19, zex 19 (.getfield 26) 3 22 8 2 2,
  zex 22 (.getfield 202) 3 25 6 2 2, ze0 25 (.iload_n 1) 1 26, ze0 26 .iaload 1 27, zcal 27 (.invokevirtual 173) 3 30 168 2 1 8, ze0 30 (.aload_n 0) 1 31, ze0 31 (.aload_n 0) 1 32,
  zex 32 (.getfield 26) 3 35 8 2 2, zex 35 (.getfield 205) 3 38 6 3 2, ze0 38 (.iload_n 1) 1 39, ze0 39 .iaload 1 40, zcal 40 (.invokevirtual 173) 3 43 168 2 1 8, ze0 43 (.aload_n 0) 1 44,
  zex 44 (.getfield 26) 3 47 8 2 2, zex 47 (.getfield 208) 3 50 6 1 2, ze0 50 (.iload_n 1) 1 51, ze0 51 .iaload 1 52, ze0 52 .ireturn 1 53]
def zm_123 : zMi := ((yX8_works, cX8_works, 2, (some .int)), (8, 2, 2), zt_123, [])
/-- NotWhereYesterday.best()I -/
def zt_124 : zT := [ze0 0 (.aload_n 0) 1 1, zex 1 (.getfield 61) 3 4 8 7 2, zev32 4 (.bipush (-2)) 2 6 (-2), zev32 6 (.iconst (-1)) 1 7 (-1), zcal 7 (.invokevirtual 211) 3 10 1 3 1 0, ze0 10 (.aload_n 0) 1 11,
  zex 11 (.getfield 61) 3 14 8 7 2, zcal 14 (.invokevirtual 214) 3 17 5 1 0 0, ze0 17 (.istore_n 1) 1 18, ze0 18 (.aload_n 0) 1 19, zcal 19 (.invokevirtual 167) 3 22 167 1 1 8, ze0 22 (.aload_n 0) 1 23,
  ze0 23 (.aload_n 0) 1 24, zex 24 (.getfield 61) 3 27 8 7 2, zex 27 (.getfield 217) 3 30 0 0 2, zcal 30 (.invokevirtual 220) 3 33 169 2 1 8, ze0 33 (.iload_n 1) 1 34, ze0 34 .ireturn 1 35]
def zm_124 : zMi := ((yX8_best, cX8_best, 2, (some .int)), (8, 1, 5), zt_124, [])
/-- NotWhereYesterday.fill()I -/
def zt_125 : zT := [ze0 0 (.aload_n 0) 1 1, zcal 1 (.invokevirtual 223) 3 4 126 1 0 8, ze0 4 .ireturn 1 5]
def zm_125 : zMi := ((yX8_fill, cX8_fill, 1, (some .int)), (8, 1, 6), zt_125, [])
/-- NotWhereYesterday.fillDraft()I -/
def zt_126 : zT := [ze0 0 (.aload_n 0) 1 1, zex 1 (.getfield 61) 3 4 8 7 2, zev32 4 (.bipush (-2)) 2 6 (-2), zev32 6 (.iconst (-1)) 1 7 (-1), zcal 7 (.invokevirtual 211) 3 10 1 3 1 0, ze0 10 (.aload_n 0) 1 11,
  zex 11 (.getfield 61) 3 14 8 7 2, zcal 14 (.invokevirtual 214) 3 17 5 1 0 0, ze0 17 (.istore_n 1) 1 18, zev32 18 (.iconst 0) 1 19 0, ze0 19 (.istore_n 2) 1 20, ze0 20 (.iload_n 2) 1 21,
  ze0 21 (.aload_n 0) 1 22, zex 22 (.getfield 10) 3 25 8 0 2, zex 25 (.getfield 90) 3 28 1 1 0, zex 28 (.if_icmp .ge 26) 3 31 54 0 0, ze0 31 (.aload_n 0) 1 32, zex 32 (.getfield 26) 3 35 8 2 2,
  ze0 35 (.iload_n 2) 1 36, ze0 36 (.aload_n 0) 1 37, zex 37 (.getfield 61) 3 40 8 7 2, zex 40 (.getfield 217) 3 43 0 0 2, ze0 43 (.iload_n 2) 1 44, ze0 44 .iaload 1 45,
  zcal 45 (.invokevirtual 148) 3 48 85 3 1 6, zev32 48 (.iinc 2 1) 3 51 1, zex 51 (.goto (-31)) 3 54 20 0 0, ze0 54 (.iload_n 1) 1 55, ze0 55 .ireturn 1 56]
def zm_126 : zMi := ((yX8_fillDraft, cX8_fillDraft, 3, (some .int)), (8, 1, 5), zt_126, [(20, [0, 1, 2])])
/-- NotWhereYesterday.ill(I)I -/
def zt_127 : zT := [ze0 0 (.aload_n 0) 1 1, zex 1 (.getfield 10) 3 4 8 0 2, ze0 4 (.iload_n 1) 1 5, zcal 5 (.invokevirtual 120) 3 8 14 2 0 1, zex 8 (.ifCond .ne 5) 3 11 13 0 0, zev32 11 (.iconst (-1)) 1 12 (-1),
  ze0 12 .ireturn 1 13, ze0 13 (.aload_n 0) 1 14, zex 14 (.getfield 61) 3 17 8 7 2, zev32 17 (.bipush (-2)) 2 19 (-2), zev32 19 (.iconst (-1)) 1 20 (-1), zcal 20 (.invokevirtual 211) 3 23 1 3 1 0,
  ze0 23 (.aload_n 0) 1 24, zex 24 (.getfield 61) 3 27 8 7 2, ze0 27 (.iload_n 1) 1 28, zcal 28 (.invokevirtual 226) 3 31 3 2 1 0, ze0 31 (.aload_n 0) 1 32, zex 32 (.getfield 61) 3 35 8 7 2,
  zcal 35 (.invokevirtual 214) 3 38 5 1 0 0, ze0 38 (.istore_n 2) 1 39, ze0 39 (.aload_n 0) 1 40, zcal 40 (.invokevirtual 167) 3 43 167 1 1 8, ze0 43 (.aload_n 0) 1 44, ze0 44 (.iload_n 2) 1 45,
  zev32 45 (.bipush 16) 2 47 16, ze0 47 .idiv 1 48, zcal 48 (.invokevirtual 173) 3 51 168 2 1 8, ze0 51 (.aload_n 0) 1 52, ze0 52 (.aload_n 0) 1 53, zex 53 (.getfield 61) 3 56 8 7 2,
  zex 56 (.getfield 217) 3 59 0 0 2, zcal 59 (.invokevirtual 220) 3 62 169 2 1 8, ze0 62 (.aload_n 0) 1 63, zex 63 (.getfield 10) 3 66 8 0 2, zex 66 (.getfield 90) 3 69 1 1 0, ze0 69 (.iload_n 2) 1 70,
  zev32 70 (.bipush 16) 2 72 16, ze0 72 .irem 1 73, ze0 73 .isub 1 74, ze0 74 .ireturn 1 75]
def zm_127 : zMi := ((yX8_ill, cX8_ill, 3, (some .int)), (8, 2, 5), zt_127, [])
/-- NotWhereYesterday.free(I)I -/
def zt_128 : zT := [ze0 0 (.iload_n 1) 1 1, zev32 1 (.iconst (-1)) 1 2 (-1), zex 2 (.if_icmp .eq 16) 3 5 18 0 0, ze0 5 (.aload_n 0) 1 6, zex 6 (.getfield 10) 3 9 8 0 2, ze0 9 (.iload_n 1) 1 10,
  zcal 10 (.invokevirtual 120) 3 13 14 2 0 1, zex 13 (.ifCond .ne 5) 3 16 18 0 0, zev32 16 (.iconst (-1)) 1 17 (-1), ze0 17 .ireturn 1 18, ze0 18 (.aload_n 0) 1 19, ze0 19 (.iload_n 1) 1 20,
  zcal 20 (.invokevirtual 229) 3 23 129 2 0 8, ze0 23 (.aload_n 0) 1 24, zev32 24 (.bipush (-2)) 2 26 (-2), zcal 26 (.invokevirtual 229) 3 29 129 2 0 8, ze0 29 .isub 1 30, ze0 30 .ireturn 1 31]
def zm_128 : zMi := ((yX8_free, cX8_free, 2, (some .int)), (8, 2, 6), zt_128, [(18, [0, 1])])
/-- NotWhereYesterday.bestWorth(I)I -/
def zt_129 : zT := [ze0 0 (.aload_n 0) 1 1, zex 1 (.getfield 61) 3 4 8 7 2, ze0 4 (.iload_n 1) 1 5, zev32 5 (.iconst (-1)) 1 6 (-1), zcal 6 (.invokevirtual 211) 3 9 1 3 1 0, ze0 9 (.aload_n 0) 1 10,
  zex 10 (.getfield 61) 3 13 8 7 2, zcal 13 (.invokevirtual 232) 3 16 4 1 0 0, ze0 16 .ireturn 1 17]
def zm_129 : zMi := ((yX8_bestWorth, cX8_bestWorth, 2, (some .int)), (8, 2, 5), zt_129, [])
/-- NotWhereYesterday.worth()I -/
def zt_130 : zT := [ze0 0 (.aload_n 0) 1 1, zex 1 (.getfield 10) 3 4 8 0 2, zex 4 (.getfield 80) 3 7 1 0 0, zex 7 (.ifCond .ne 6) 3 10 13 0 0, zev32 10 (.bipush (-2)) 2 12 (-2), ze0 12 .ireturn 1 13,
  zev32 13 (.iconst (-1)) 1 14 (-1), ze0 14 (.istore_n 1) 1 15, zev32 15 (.iconst 0) 1 16 0, ze0 16 (.istore_n 2) 1 17, zev32 17 (.iconst 0) 1 18 0, ze0 18 (.istore_n 3) 1 19,
  ze0 19 (.iload_n 3) 1 20, ze0 20 (.aload_n 0) 1 21, zex 21 (.getfield 10) 3 24 8 0 2, zex 24 (.getfield 80) 3 27 1 0 0, zex 27 (.if_icmp .ge 27) 3 30 54 0 0, ze0 30 (.aload_n 0) 1 31,
  ze0 31 (.iload_n 3) 1 32, zcal 32 (.invokevirtual 229) 3 35 129 2 0 8, ze0 35 (.istore 4) 2 37, ze0 37 (.iload 4) 2 39, ze0 39 (.iload_n 1) 1 40, zex 40 (.if_icmp .le 8) 3 43 48 0 0,
  ze0 43 (.iload 4) 2 45, ze0 45 (.istore_n 1) 1 46, ze0 46 (.iload_n 3) 1 47, ze0 47 (.istore_n 2) 1 48, zev32 48 (.iinc 3 1) 3 51 1, zex 51 (.goto (-32)) 3 54 19 0 0,
  ze0 54 (.aload_n 0) 1 55, zcal 55 (.invokevirtual 167) 3 58 167 1 1 8, ze0 58 (.aload_n 0) 1 59, ze0 59 (.iload_n 1) 1 60, ze0 60 (.aload_n 0) 1 61, zev32 61 (.bipush (-2)) 2 63 (-2),
  zcal 63 (.invokevirtual 229) 3 66 129 2 0 8, ze0 66 .isub 1 67, zcal 67 (.invokevirtual 173) 3 70 168 2 1 8, ze0 70 (.iload_n 2) 1 71, ze0 71 .ireturn 1 72]
def zm_130 : zMi := ((yX8_worth, cX8_worth, 5, (some .int)), (8, 1, 6), zt_130, [(19, [0, 1, 2, 3]), (48, [0, 1, 2, 3])])
/-- NotWhereYesterday.none()I -/
def zt_131 : zT := [zev32 0 (.iconst 0) 1 1 0, ze0 1 (.istore_n 1) 1 2, zev32 2 (.iconst 0) 1 3 0, ze0 3 (.istore_n 2) 1 4, ze0 4 (.iload_n 2) 1 5, ze0 5 (.aload_n 0) 1 6,
  zex 6 (.getfield 10) 3 9 8 0 2, zex 9 (.getfield 90) 3 12 1 1 0, zex 12 (.if_icmp .ge 45) 3 15 57 0 0, ze0 15 (.aload_n 0) 1 16, zex 16 (.getfield 77) 3 19 8 10 2, ze0 19 (.iload_n 2) 1 20,
  ze0 20 (.aload_n 0) 1 21, zex 21 (.getfield 52) 3 24 8 6 2, ze0 24 (.iload_n 2) 1 25, zcal 25 (.invokevirtual 235) 3 28 103 2 0 7, ze0 28 .iastore 1 29, ze0 29 (.iload_n 1) 1 30,
  ze0 30 (.aload_n 0) 1 31, zex 31 (.getfield 10) 3 34 8 0 2, zex 34 (.getfield 96) 3 37 1 4 2, ze0 37 (.iload_n 2) 1 38, ze0 38 .baload 1 39, zex 39 (.ifCond .eq 9) 3 42 48 0 0,
  zev32 42 (.iconst 1) 1 43 1, ze0 43 (.iload_n 2) 1 44, ze0 44 .ishl 1 45, zex 45 (.goto 4) 3 48 49 0 0, zev32 48 (.iconst 0) 1 49 0, ze0 49 .ior 1 50,
  ze0 50 (.istore_n 1) 1 51, zev32 51 (.iinc 2 1) 3 54 1, zex 54 (.goto (-50)) 3 57 4 0 0, zev32 57 (.iconst 0) 1 58 0, ze0 58 (.istore_n 2) 1 59, zev32 59 (.iconst 0) 1 60 0,
  ze0 60 (.istore_n 3) 1 61, zev32 61 (.iconst 1) 1 62 1, ze0 62 (.istore 4) 2 64, ze0 64 (.iload 4) 2 66, zev32 66 (.iconst 1) 1 67 1, ze0 67 (.aload_n 0) 1 68,
  zex 68 (.getfield 10) 3 71 8 0 2, zex 71 (.getfield 90) 3 74 1 1 0, ze0 74 .ishl 1 75, zex 75 (.if_icmp .ge 67) 3 78 142 0 0, ze0 78 (.iload 4) 2 80, zcal 80 (.invokestatic 238) 3 83 288 1 0 11,
  ze0 83 (.istore 5) 2 85, ze0 85 (.iload_n 2) 1 86, zex 86 (.ifCond .eq 9) 3 89 95 0 0, ze0 89 (.iload 5) 2 91, ze0 91 (.iload_n 2) 1 92, zex 92 (.if_icmp .ge 7) 3 95 99 0 0,
  zev32 95 (.iconst 1) 1 96 1, zex 96 (.goto 4) 3 99 100 0 0, zev32 99 (.iconst 0) 1 100 0, ze0 100 (.istore 6) 2 102, ze0 102 (.iload 6) 2 104, zex 104 (.ifCond .eq 32) 3 107 136 0 0,
  ze0 107 (.iload 4) 2 109, ze0 109 (.iload_n 1) 1 110, zev32 110 (.iconst (-1)) 1 111 (-1), ze0 111 .ixor 1 112, ze0 112 .iand 1 113, zex 113 (.ifCond .ne 23) 3 116 136 0 0,
  ze0 116 (.iload 5) 2 118, ze0 118 (.aload_n 0) 1 119, ze0 119 (.iload 4) 2 121, zcal 121 (.invokevirtual 243) 3 124 132 2 0 8, zcal 124 (.invokestatic 238) 3 127 288 1 0 11, zex 127 (.if_icmp .le 9) 3 130 136 0 0,
  ze0 130 (.iload 5) 2 132, ze0 132 (.istore_n 2) 1 133, ze0 133 (.iload 4) 2 135, ze0 135 (.istore_n 3) 1 136, zev32 136 (.iinc 4 1) 3 139 1, zex 139 (.goto (-75)) 3 142 64 0 0,
  ze0 142 (.aload_n 0) 1 143, zcal 143 (.invokevirtual 167) 3 146 167 1 1 8, ze0 146 (.iload_n 2) 1 147, zex 147 (.ifCond .le 17) 3 150 164 0 0, ze0 150 (.aload_n 0) 1 151, ze0 151 (.iload_n 3) 1 152,
  zcal 152 (.invokevirtual 173) 3 155 168 2 1 8, ze0 155 (.aload_n 0) 1 156, ze0 156 (.aload_n 0) 1 157, ze0 157 (.iload_n 3) 1 158, zcal 158 (.invokevirtual 243) 3 161 132 2 0 8, zcal 161 (.invokevirtual 173) 3 164 168 2 1 8,
  ze0 164 (.iload_n 2) 1 165, ze0 165 .ireturn 1 166]
def zm_131 : zMi := ((yX8_none, cX8_none, 7, (some .int)), (8, 1, 4), zt_131, [(4, [0, 1, 2]), (49, [0, 2]), (64, [0, 1, 2, 3, 4]), (95, [0, 1, 2, 3, 4, 5]), (100, [0, 1, 2, 3, 4, 5]), (136, [0, 1, 2, 3, 4]), (164, [2])])
/-- NotWhereYesterday.candidatesOf(I)I -/
def zt_132 : zT := [zev32 0 (.iconst 0) 1 1 0, ze0 1 (.istore_n 2) 1 2, zev32 2 (.iconst 0) 1 3 0, ze0 3 (.istore_n 3) 1 4, ze0 4 (.iload_n 3) 1 5, ze0 5 (.aload_n 0) 1 6,
  zex 6 (.getfield 10) 3 9 8 0 2, zex 9 (.getfield 90) 3 12 1 1 0, zex 12 (.if_icmp .ge 26) 3 15 38 0 0, ze0 15 (.iload_n 1) 1 16, ze0 16 (.iload_n 3) 1 17, ze0 17 .ishr 1 18,
  zev32 18 (.iconst 1) 1 19 1, ze0 19 .iand 1 20, zex 20 (.ifCond .eq 12) 3 23 32 0 0, ze0 23 (.iload_n 2) 1 24, ze0 24 (.aload_n 0) 1 25, zex 25 (.getfield 77) 3 28 8 10 2,
  ze0 28 (.iload_n 3) 1 29, ze0 29 .iaload 1 30, ze0 30 .ior 1 31, ze0 31 (.istore_n 2) 1 32, zev32 32 (.iinc 3 1) 3 35 1, zex 35 (.goto (-31)) 3 38 4 0 0,
  ze0 38 (.iload_n 2) 1 39, ze0 39 .ireturn 1 40]
def zm_132 : zMi := ((yX8_candidatesOf, cX8_candidatesOf, 4, (some .int)), (8, 2, 1), zt_132, [(4, [0, 1, 2, 3]), (32, [0, 1, 2, 3])])
/-- NotWhereYesterday.can(I)I -/
def zt_133 : zT := [ze0 0 (.aload_n 0) 1 1, zex 1 (.getfield 10) 3 4 8 0 2, ze0 4 (.iload_n 1) 1 5, zcal 5 (.invokevirtual 127) 3 8 15 2 0 1, zex 8 (.ifCond .eq 14) 3 11 22 0 0, ze0 11 (.aload_n 0) 1 12,
  zex 12 (.getfield 52) 3 15 8 6 2, ze0 15 (.iload_n 1) 1 16, zcal 16 (.invokevirtual 235) 3 19 103 2 0 7, zex 19 (.goto 4) 3 22 23 0 0, zev32 22 (.iconst (-1)) 1 23 (-1), ze0 23 .ireturn 1 24]
def zm_133 : zMi := ((yX8_can, cX8_can, 2, (some .int)), (8, 2, 4), zt_133, [(23, [])])
/-- NotWhereYesterday.breaking(I)I -/
def zt_134 : zT := [ze0 0 (.iload_n 1) 1 1, zex 1 (.ifCond .lt 10) 3 4 11 0 0, ze0 4 (.iload_n 1) 1 5, zev32 5 (.sipush 5000) 3 8 5000, zex 8 (.if_icmp .le 5) 3 11 13 0 0, zev32 11 (.iconst (-1)) 1 12 (-1),
  ze0 12 .ireturn 1 13, ze0 13 (.aload_n 0) 1 14, zex 14 (.getfield 61) 3 17 8 7 2, zev32 17 (.bipush (-2)) 2 19 (-2), ze0 19 (.iload_n 1) 1 20, zcal 20 (.invokevirtual 211) 3 23 1 3 1 0,
  ze0 23 (.aload_n 0) 1 24, zex 24 (.getfield 61) 3 27 8 7 2, zcal 27 (.invokevirtual 214) 3 30 5 1 0 0, ze0 30 (.istore_n 2) 1 31, ze0 31 (.aload_n 0) 1 32, zcal 32 (.invokevirtual 167) 3 35 167 1 1 8,
  ze0 35 (.aload_n 0) 1 36, ze0 36 (.aload_n 0) 1 37, zex 37 (.getfield 52) 3 40 8 6 2, ze0 40 (.aload_n 0) 1 41, zex 41 (.getfield 61) 3 44 8 7 2, zex 44 (.getfield 217) 3 47 0 0 2,
  zcal 47 (.invokevirtual 246) 3 50 100 2 0 7, zcal 50 (.invokevirtual 173) 3 53 168 2 1 8, ze0 53 (.aload_n 0) 1 54, ze0 54 (.aload_n 0) 1 55, zex 55 (.getfield 52) 3 58 8 6 2, ze0 58 (.aload_n 0) 1 59,
  zex 59 (.getfield 61) 3 62 8 7 2, zex 62 (.getfield 217) 3 65 0 0 2, zcal 65 (.invokevirtual 250) 3 68 101 2 0 7, zcal 68 (.invokevirtual 173) 3 71 168 2 1 8, ze0 71 (.aload_n 0) 1 72, ze0 72 (.aload_n 0) 1 73,
  zex 73 (.getfield 61) 3 76 8 7 2, zex 76 (.getfield 217) 3 79 0 0 2, zcal 79 (.invokevirtual 220) 3 82 169 2 1 8, ze0 82 (.iload_n 2) 1 83, ze0 83 .ireturn 1 84]
def zm_134 : zMi := ((yX8_breaking, cX8_breaking, 3, (some .int)), (8, 2, 6), zt_134, [(11, [])])
/-- NotWhereYesterday.few(I)I -/
def zt_135 : zT := [ze0 0 (.aload_n 0) 1 1, zex 1 (.getfield 10) 3 4 8 0 2, ze0 4 (.iload_n 1) 1 5, zcal 5 (.invokevirtual 127) 3 8 15 2 0 1, zex 8 (.ifCond .ne 5) 3 11 13 0 0, zev32 11 (.iconst (-1)) 1 12 (-1),
  ze0 12 .ireturn 1 13, ze0 13 (.aload_n 0) 1 14, zex 14 (.getfield 52) 3 17 8 6 2, ze0 17 (.iload_n 1) 1 18, zcal 18 (.invokevirtual 253) 3 21 102 2 0 7, ze0 21 (.istore_n 2) 1 22,
  ze0 22 (.aload_n 0) 1 23, zex 23 (.getfield 19) 3 26 8 1 2, ze0 26 (.iload_n 1) 1 27, zcal 27 (.invokevirtual 256) 3 30 23 2 0 2, zex 30 (.ifCond .eq 7) 3 33 37 0 0, zev32 33 (.iconst 1) 1 34 1,
  zex 34 (.goto 14) 3 37 48 0 0, ze0 37 (.aload_n 0) 1 38, zex 38 (.getfield 19) 3 41 8 1 2, zex 41 (.getfield 259) 3 44 2 0 2, zev32 44 (.iconst 0) 1 45 0, ze0 45 .iaload 1 46,
  zev32 46 (.iconst 1) 1 47 1, ze0 47 .iadd 1 48, ze0 48 (.istore_n 3) 1 49, ze0 49 (.aload_n 0) 1 50, zcal 50 (.invokevirtual 167) 3 53 167 1 1 8, ze0 53 (.aload_n 0) 1 54,
  ze0 54 (.iload_n 2) 1 55, zcal 55 (.invokevirtual 173) 3 58 168 2 1 8, zev32 58 (.iconst 0) 1 59 0, ze0 59 (.iload_n 3) 1 60, ze0 60 (.iload_n 2) 1 61, zcal 61 (.invokestatic 238) 3 64 288 1 0 11,
  ze0 64 .isub 1 65, zcal 65 (.invokestatic 262) 3 68 0 2 8 0, ze0 68 .ireturn 1 69]
def zm_135 : zMi := ((yX8_few, cX8_few, 4, (some .int)), (8, 2, 4), zt_135, [(48, [0, 2])])
/-- NotWhereYesterday.till(II)I -/
def zt_136 : zT := [ze0 0 (.aload_n 0) 1 1, zex 1 (.getfield 10) 3 4 8 0 2, ze0 4 (.iload_n 1) 1 5, zcal 5 (.invokevirtual 127) 3 8 15 2 0 1, zex 8 (.ifCond .eq 12) 3 11 20 0 0, ze0 11 (.iload_n 2) 1 12,
  zex 12 (.ifCond .lt 8) 3 15 20 0 0, ze0 15 (.iload_n 2) 1 16, zev32 16 (.iconst 1) 1 17 1, zex 17 (.if_icmp .le 5) 3 20 22 0 0, zev32 20 (.iconst (-1)) 1 21 (-1), ze0 21 .ireturn 1 22,
  zev32 22 (.bipush 10) 2 24 10, ze0 24 (.aload_n 0) 1 25, zex 25 (.getfield 10) 3 28 8 0 2, zex 28 (.getfield 100) 3 31 1 5 2, ze0 31 (.iload_n 1) 1 32, ze0 32 .iaload 1 33,
  ze0 33 .imul 1 34, ze0 34 (.istore_n 3) 1 35, ze0 35 (.aload_n 0) 1 36, zex 36 (.getfield 26) 3 39 8 2 2, zex 39 (.getfield 202) 3 42 6 2 2, ze0 42 (.iload_n 1) 1 43,
  ze0 43 .iaload 1 44, ze0 44 (.istore 4) 2 46, ze0 46 (.iload_n 2) 1 47, zex 47 (.ifCond .ne 20) 3 50 67 0 0, ze0 50 (.aload_n 0) 1 51, zex 51 (.getfield 26) 3 54 8 2 2,
  zex 54 (.getfield 205) 3 57 6 3 2, ze0 57 (.iload_n 1) 1 58, ze0 58 .iaload 1 59, zev32 59 (.iconst (-1)) 1 60 (-1), zex 60 (.if_icmp .eq 7) 3 63 67 0 0, zev32 63 (.iconst 1) 1 64 1,
  zex 64 (.goto 4) 3 67 68 0 0, zev32 67 (.iconst 0) 1 68 0, ze0 68 (.istore 5) 2 70, zev32 70 (.iconst 1) 1 71 1, ze0 71 (.istore 6) 2 73, ze0 73 (.iload 6) 2 75,
  zev32 75 (.sipush 1000) 3 78 1000, zex 78 (.if_icmp .gt 56) 3 81 134 0 0, ze0 81 (.iload 4) 2 83, ze0 83 (.iload 5) 2 85, zex 85 (.ifCond .eq 18) 3 88 103 0 0, zev32 88 (.bipush 10) 2 90 10,
  ze0 90 (.aload_n 0) 1 91, zex 91 (.getfield 10) 3 94 8 0 2, zex 94 (.getfield 103) 3 97 1 6 2, ze0 97 (.iload_n 1) 1 98, ze0 98 .iaload 1 99, ze0 99 .isub 1 100,
  zex 100 (.goto 5) 3 103 105 0 0, zev32 103 (.bipush 10) 2 105 10, ze0 105 .iadd 1 106, ze0 106 (.istore 4) 2 108, ze0 108 (.iload 4) 2 110, ze0 110 (.iload_n 3) 1 111,
  zex 111 (.if_icmp .lt 6) 3 114 117 0 0, ze0 114 (.iload 6) 2 116, ze0 116 .ireturn 1 117, ze0 117 (.iload_n 2) 1 118, zex 118 (.ifCond .ne 7) 3 121 125 0 0, zev32 121 (.iconst 1) 1 122 1,
  zex 122 (.goto 4) 3 125 126 0 0, zev32 125 (.iconst 0) 1 126 0, ze0 126 (.istore 5) 2 128, zev32 128 (.iinc 6 1) 3 131 1, zex 131 (.goto (-58)) 3 134 73 0 0, zev32 134 (.bipush (-2)) 2 136 (-2),
  ze0 136 .ireturn 1 137]
def zm_136 : zMi := ((yX8_till, cX8_till, 7, (some .int)), (8, 3, 2), zt_136, [(20, []), (67, [0, 1, 2, 3, 4]), (68, [0, 1, 2, 3, 4]), (73, [0, 1, 2, 3, 4, 5, 6]), (105, [0, 1, 2, 3, 6]), (126, [0, 1, 2, 3, 4, 6])])
/-- NotWhereYesterday.law(II)I -/
def zt_137 : zT := [ze0 0 (.iload_n 1) 1 1, zex 1 (.ifCond .lt 18) 3 4 19 0 0, ze0 4 (.iload_n 1) 1 5, zev32 5 (.iconst 1) 1 6 1, zex 6 (.if_icmp .gt 13) 3 9 19 0 0, ze0 9 (.iload_n 2) 1 10,
  zex 10 (.ifCond .lt 9) 3 13 19 0 0, ze0 13 (.iload_n 2) 1 14, zev32 14 (.bipush 9) 2 16 9, zex 16 (.if_icmp .le 5) 3 19 21 0 0, zev32 19 (.iconst (-1)) 1 20 (-1), ze0 20 .ireturn 1 21,
  ze0 21 (.aload_n 0) 1 22, zex 22 (.getfield 19) 3 25 8 1 2, zex 25 (.getfield 259) 3 28 2 0 2, ze0 28 (.iload_n 1) 1 29, ze0 29 .iaload 1 30, ze0 30 (.istore_n 3) 1 31,
  ze0 31 (.aload_n 0) 1 32, zex 32 (.getfield 19) 3 35 8 1 2, zex 35 (.getfield 259) 3 38 2 0 2, ze0 38 (.iload_n 1) 1 39, ze0 39 (.iload_n 2) 1 40, ze0 40 .iastore 1 41,
  zev32 41 (.iconst 0) 1 42 0, ze0 42 (.istore 4) 2 44, zev32 44 (.iconst 0) 1 45 0, ze0 45 (.istore 5) 2 47, ze0 47 (.iload 5) 2 49, ze0 49 (.aload_n 0) 1 50,
  zex 50 (.getfield 26) 3 53 8 2 2, zex 53 (.getfield 130) 3 56 6 6 0, zex 56 (.if_icmp .ge 25) 3 59 81 0 0, ze0 59 (.aload_n 0) 1 60, zex 60 (.getfield 52) 3 63 8 6 2, ze0 63 (.iload 5) 2 65,
  zev32 65 (.iconst 0) 1 66 0, zcal 66 (.invokevirtual 181) 3 69 98 3 0 7, zex 69 (.ifCond .ne 6) 3 72 75 0 0, zev32 72 (.iinc 4 1) 3 75 1, zev32 75 (.iinc 5 1) 3 78 1, zex 78 (.goto (-31)) 3 81 47 0 0,
  ze0 81 (.aload_n 0) 1 82, zev32 82 (.bipush (-2)) 2 84 (-2), zcal 84 (.invokevirtual 229) 3 87 129 2 0 8, ze0 87 (.istore 5) 2 89, ze0 89 (.aload_n 0) 1 90, zex 90 (.getfield 19) 3 93 8 1 2,
  zex 93 (.getfield 259) 3 96 2 0 2, ze0 96 (.iload_n 1) 1 97, ze0 97 (.iload_n 3) 1 98, ze0 98 .iastore 1 99, ze0 99 (.aload_n 0) 1 100, zcal 100 (.invokevirtual 167) 3 103 167 1 1 8,
  ze0 103 (.aload_n 0) 1 104, ze0 104 (.iload 5) 2 106, zcal 106 (.invokevirtual 173) 3 109 168 2 1 8, ze0 109 (.iload 4) 2 111, ze0 111 .ireturn 1 112]
def zm_137 : zMi := ((yX8_law, cX8_law, 6, (some .int)), (8, 3, 7), zt_137, [(19, []), (47, [0, 1, 3, 4, 5]), (75, [0, 1, 3, 4, 5])])
/-- NotWhereYesterday.price(I)I -/
def zt_138 : zT := [ze0 0 (.iload_n 1) 1 1, zex 1 (.ifCond .lt 8) 3 4 9 0 0, ze0 4 (.iload_n 1) 1 5, zev32 5 (.iconst 1) 1 6 1, zex 6 (.if_icmp .le 5) 3 9 11 0 0, zev32 9 (.iconst (-1)) 1 10 (-1),
  ze0 10 .ireturn 1 11, ze0 11 (.aload_n 0) 1 12, ze0 12 (.iload_n 1) 1 13, zev32 13 (.iconst 0) 1 14 0, zcal 14 (.invokevirtual 265) 3 17 139 3 0 8, ze0 17 (.istore_n 2) 1 18,
  zev32 18 (.bipush 9) 2 20 9, ze0 20 (.istore_n 3) 1 21, ze0 21 (.iload_n 3) 1 22, zex 22 (.ifCond .le 19) 3 25 41 0 0, ze0 25 (.aload_n 0) 1 26, ze0 26 (.iload_n 1) 1 27,
  ze0 27 (.iload_n 3) 1 28, zcal 28 (.invokevirtual 265) 3 31 139 3 0 8, ze0 31 (.iload_n 2) 1 32, zex 32 (.if_icmp .eq 9) 3 35 41 0 0, zev32 35 (.iinc 3 (-1)) 3 38 (-1), zex 38 (.goto (-17)) 3 41 21 0 0,
  ze0 41 (.aload_n 0) 1 42, zcal 42 (.invokevirtual 167) 3 45 167 1 1 8, ze0 45 (.aload_n 0) 1 46, ze0 46 (.iload_n 2) 1 47, zcal 47 (.invokevirtual 173) 3 50 168 2 1 8, ze0 50 (.iload_n 3) 1 51,
  ze0 51 .ireturn 1 52]
def zm_138 : zMi := ((yX8_price, cX8_price, 4, (some .int)), (8, 2, 7), zt_138, [(9, []), (21, [0, 1, 2, 3]), (41, [0, 2, 3])])
/-- NotWhereYesterday.worthWith(II)I -/
def zt_139 : zT := [ze0 0 (.aload_n 0) 1 1, zex 1 (.getfield 19) 3 4 8 1 2, zex 4 (.getfield 259) 3 7 2 0 2, ze0 7 (.iload_n 1) 1 8, ze0 8 .iaload 1 9, ze0 9 (.istore_n 3) 1 10,
  ze0 10 (.aload_n 0) 1 11, zex 11 (.getfield 19) 3 14 8 1 2, zex 14 (.getfield 259) 3 17 2 0 2, ze0 17 (.iload_n 1) 1 18, ze0 18 (.iload_n 2) 1 19, ze0 19 .iastore 1 20,
  ze0 20 (.aload_n 0) 1 21, zev32 21 (.bipush (-2)) 2 23 (-2), zcal 23 (.invokevirtual 229) 3 26 129 2 0 8, ze0 26 (.istore 4) 2 28, ze0 28 (.aload_n 0) 1 29, zex 29 (.getfield 19) 3 32 8 1 2,
  zex 32 (.getfield 259) 3 35 2 0 2, ze0 35 (.iload_n 1) 1 36, ze0 36 (.iload_n 3) 1 37, ze0 37 .iastore 1 38, ze0 38 (.iload 4) 2 40, ze0 40 .ireturn 1 41]
def zm_139 : zMi := ((yX8_worthWith, cX8_worthWith, 5, (some .int)), (8, 3, 6), zt_139, [])
/-- NotWhereYesterday.written()I -/
def zt_140 : zT := [ze0 0 (.aload_n 0) 1 1, zex 1 (.getfield 77) 3 4 8 10 2, zev32 4 (.iconst 0) 1 5 0, zcal 5 (.invokestatic 192) 3 8 290 2 1 14, zev32 8 (.iconst 0) 1 9 0, ze0 9 (.aload_n 0) 1 10,
  zex 10 (.getfield 26) 3 13 8 2 2, zex 13 (.getfield 130) 3 16 6 6 0, ze0 16 (.aload_n 0) 1 17, zex 17 (.getfield 19) 3 20 8 1 2, zex 20 (.getfield 259) 3 23 2 0 2, zev32 23 (.iconst 0) 1 24 0,
  ze0 24 .iaload 1 25, ze0 25 .isub 1 26, zcal 26 (.invokestatic 262) 3 29 0 2 8 0, ze0 29 (.istore_n 1) 1 30, ze0 30 (.iload_n 1) 1 31, ze0 31 (.aload_n 0) 1 32,
  zex 32 (.getfield 26) 3 35 8 2 2, zex 35 (.getfield 130) 3 38 6 6 0, zex 38 (.if_icmp .ge 72) 3 41 110 0 0, zev32 41 (.iconst 0) 1 42 0, ze0 42 (.istore_n 2) 1 43, ze0 43 (.iload_n 2) 1 44,
  ze0 44 (.aload_n 0) 1 45, zex 45 (.getfield 10) 3 48 8 0 2, zex 48 (.getfield 90) 3 51 1 1 0, zex 51 (.if_icmp .ge 53) 3 54 104 0 0, ze0 54 (.aload_n 0) 1 55, zex 55 (.getfield 26) 3 58 8 2 2,
  ze0 58 (.iload_n 1) 1 59, ze0 59 (.iload_n 2) 1 60, zcal 60 (.invokevirtual 145) 3 63 80 3 0 6, ze0 63 (.istore_n 3) 1 64, ze0 64 (.aload_n 0) 1 65, zex 65 (.getfield 10) 3 68 8 0 2,
  ze0 68 (.iload_n 3) 1 69, zcal 69 (.invokevirtual 120) 3 72 14 2 0 1, zex 72 (.ifCond .eq 26) 3 75 98 0 0, ze0 75 (.aload_n 0) 1 76, zex 76 (.getfield 19) 3 79 8 1 2, ze0 79 (.iload_n 2) 1 80,
  zcal 80 (.invokevirtual 256) 3 83 23 2 0 2, zex 83 (.ifCond .ne 15) 3 86 98 0 0, ze0 86 (.aload_n 0) 1 87, zex 87 (.getfield 77) 3 90 8 10 2, ze0 90 (.iload_n 2) 1 91, ze0 91 .dup2 1 92,
  ze0 92 .iaload 1 93, zev32 93 (.iconst 1) 1 94 1, ze0 94 (.iload_n 3) 1 95, ze0 95 .ishl 1 96, ze0 96 .ior 1 97, ze0 97 .iastore 1 98,
  zev32 98 (.iinc 2 1) 3 101 1, zex 101 (.goto (-58)) 3 104 43 0 0, zev32 104 (.iinc 1 1) 3 107 1, zex 107 (.goto (-77)) 3 110 30 0 0, ze0 110 (.aload_n 0) 1 111, zcal 111 (.invokevirtual 268) 3 114 142 1 0 8,
  ze0 114 (.istore_n 1) 1 115, ze0 115 (.aload_n 0) 1 116, zex 116 (.getfield 77) 3 119 8 10 2, zev32 119 (.iconst 0) 1 120 0, zcal 120 (.invokestatic 192) 3 123 290 2 1 14, zev32 123 (.iconst 0) 1 124 0,
  ze0 124 (.aload_n 0) 1 125, zex 125 (.getfield 26) 3 128 8 2 2, zex 128 (.getfield 130) 3 131 6 6 0, ze0 131 (.aload_n 0) 1 132, zex 132 (.getfield 19) 3 135 8 1 2, zex 135 (.getfield 259) 3 138 2 0 2,
  zev32 138 (.iconst 1) 1 139 1, ze0 139 .iaload 1 140, ze0 140 .isub 1 141, zcal 141 (.invokestatic 262) 3 144 0 2 8 0, ze0 144 (.istore_n 2) 1 145, ze0 145 (.iload_n 2) 1 146,
  ze0 146 (.aload_n 0) 1 147, zex 147 (.getfield 26) 3 150 8 2 2, zex 150 (.getfield 130) 3 153 6 6 0, zex 153 (.if_icmp .ge 14) 3 156 167 0 0, ze0 156 (.aload_n 0) 1 157, ze0 157 (.iload_n 2) 1 158,
  zcal 158 (.invokevirtual 271) 3 161 141 2 1 8, zev32 161 (.iinc 2 1) 3 164 1, zex 164 (.goto (-19)) 3 167 145 0 0, ze0 167 (.aload_n 0) 1 168, zcal 168 (.invokevirtual 167) 3 171 167 1 1 8, ze0 171 (.aload_n 0) 1 172,
  ze0 172 (.aload_n 0) 1 173, zcal 173 (.invokevirtual 268) 3 176 142 1 0 8, zev32 176 (.iconst 2) 1 177 2, ze0 177 .idiv 1 178, zcal 178 (.invokevirtual 173) 3 181 168 2 1 8, ze0 181 (.iload_n 1) 1 182,
  ze0 182 .ireturn 1 183]
def zm_140 : zMi := ((yX8_written, cX8_written, 4, (some .int)), (8, 1, 4), zt_140, [(30, [0, 1]), (43, [0, 1, 2]), (98, [0, 1, 2]), (145, [0, 1, 2])])
/-- NotWhereYesterday.addMeetings(I)V -/
def zt_141 : zT := [zev32 0 (.iconst 0) 1 1 0, ze0 1 (.istore_n 2) 1 2, ze0 2 (.iload_n 2) 1 3, ze0 3 (.aload_n 0) 1 4, zex 4 (.getfield 10) 3 7 8 0 2, zex 7 (.getfield 80) 3 10 1 0 0,
  zex 10 (.if_icmp .ge 27) 3 13 37 0 0, ze0 13 (.aload_n 0) 1 14, zex 14 (.getfield 77) 3 17 8 10 2, ze0 17 (.iload_n 2) 1 18, ze0 18 .dup2 1 19, ze0 19 .iaload 1 20,
  ze0 20 (.aload_n 0) 1 21, zex 21 (.getfield 26) 3 24 8 2 2, ze0 24 (.iload_n 1) 1 25, ze0 25 (.iload_n 2) 1 26, zcal 26 (.invokevirtual 274) 3 29 82 3 0 6, ze0 29 .ior 1 30,
  ze0 30 .iastore 1 31, zev32 31 (.iinc 2 1) 3 34 1, zex 34 (.goto (-32)) 3 37 2 0 0, ze0 37 .return_ 1 38]
def zm_141 : zMi := ((yX8_addMeetings, cX8_addMeetings, 3, none), (8, 2, 3), zt_141, [(2, [0, 1, 2])])
/-- NotWhereYesterday.countBits()I -/
def zt_142 : zT := [zev32 0 (.iconst 0) 1 1 0, ze0 1 (.istore_n 1) 1 2, zev32 2 (.iconst 0) 1 3 0, ze0 3 (.istore_n 2) 1 4, ze0 4 (.iload_n 2) 1 5, zev32 5 (.bipush 10) 2 7 10,
  zex 7 (.if_icmp .ge 21) 3 10 28 0 0, ze0 10 (.iload_n 1) 1 11, ze0 11 (.aload_n 0) 1 12, zex 12 (.getfield 77) 3 15 8 10 2, ze0 15 (.iload_n 2) 1 16, ze0 16 .iaload 1 17,
  zcal 17 (.invokestatic 238) 3 20 288 1 0 11, ze0 20 .iadd 1 21, ze0 21 (.istore_n 1) 1 22, zev32 22 (.iinc 2 1) 3 25 1, zex 25 (.goto (-21)) 3 28 4 0 0, ze0 28 (.iload_n 1) 1 29,
  ze0 29 .ireturn 1 30]
def zm_142 : zMi := ((yX8_countBits, cX8_countBits, 3, (some .int)), (8, 1, 2), zt_142, [(4, [0, 1, 2])])
/-- NotWhereYesterday.ever()I -/
def zt_143 : zT := [ze0 0 (.aload_n 0) 1 1, zex 1 (.getfield 70) 3 4 8 8 2, zcal 4 (.invokevirtual 277) 3 7 38 1 0 4, zex 7 (.ifCond .ne 6) 3 10 13 0 0, zev32 10 (.bipush (-3)) 2 12 (-3), ze0 12 .ireturn 1 13,
  ze0 13 (.aload_n 0) 1 14, zex 14 (.getfield 70) 3 17 8 8 2, zcal 17 (.invokevirtual 281) 3 20 40 1 1 4, ze0 20 (.aload_n 0) 1 21, zex 21 (.getfield 70) 3 24 8 8 2, zcal 24 (.invokevirtual 284) 3 27 48 1 0 4,
  ze0 27 (.istore_n 1) 1 28, ze0 28 (.aload_n 0) 1 29, zex 29 (.getfield 70) 3 32 8 8 2, ze0 32 (.iload_n 1) 1 33, zcal 33 (.invokevirtual 287) 3 36 49 2 1 4, ze0 36 (.aload_n 0) 1 37,
  zex 37 (.getfield 70) 3 40 8 8 2, zcal 40 (.invokevirtual 290) 3 43 50 1 0 4, ze0 43 (.istore_n 2) 1 44, ze0 44 (.aload_n 0) 1 45, zcal 45 (.invokevirtual 167) 3 48 167 1 1 8, ze0 48 (.aload_n 0) 1 49,
  ze0 49 (.iload_n 2) 1 50, zcal 50 (.invokevirtual 173) 3 53 168 2 1 8, ze0 53 (.aload_n 0) 1 54, zex 54 (.getfield 70) 3 57 8 8 2, ze0 57 (.iload_n 1) 1 58, zcal 58 (.invokevirtual 293) 3 61 51 2 0 4,
  ze0 61 .ireturn 1 62]
def zm_143 : zMi := ((yX8_ever, cX8_ever, 3, (some .int)), (8, 1, 5), zt_143, [])
/-- NotWhereYesterday.round()I -/
def zt_144 : zT := [ze0 0 (.aload_n 0) 1 1, zex 1 (.getfield 70) 3 4 8 8 2, zcal 4 (.invokevirtual 277) 3 7 38 1 0 4, zex 7 (.ifCond .ne 6) 3 10 13 0 0, zev32 10 (.bipush (-3)) 2 12 (-3), ze0 12 .ireturn 1 13,
  ze0 13 (.aload_n 0) 1 14, zex 14 (.getfield 70) 3 17 8 8 2, zcal 17 (.invokevirtual 281) 3 20 40 1 1 4, ze0 20 (.aload_n 0) 1 21, zex 21 (.getfield 70) 3 24 8 8 2, ze0 24 (.aload_n 0) 1 25,
  zex 25 (.getfield 70) 3 28 8 8 2, zcal 28 (.invokevirtual 284) 3 31 48 1 0 4, zcal 31 (.invokevirtual 287) 3 34 49 2 1 4, ze0 34 (.aload_n 0) 1 35, zex 35 (.getfield 70) 3 38 8 8 2, zcal 38 (.invokevirtual 296) 3 41 52 1 0 4,
  ze0 41 (.istore_n 1) 1 42, ze0 42 (.iload_n 1) 1 43, zex 43 (.ifCond .ne 6) 3 46 49 0 0, zev32 46 (.bipush (-2)) 2 48 (-2), ze0 48 .ireturn 1 49, ze0 49 (.aload_n 0) 1 50,
  zex 50 (.getfield 70) 3 53 8 8 2, ze0 53 (.aload_n 0) 1 54, zex 54 (.getfield 70) 3 57 8 8 2, zex 57 (.getfield 299) 3 60 4 0 0, ze0 60 (.iload_n 1) 1 61, zcal 61 (.invokevirtual 302) 3 64 53 3 0 4,
  ze0 64 (.istore_n 2) 1 65, ze0 65 (.aload_n 0) 1 66, zcal 66 (.invokevirtual 167) 3 69 167 1 1 8, ze0 69 (.aload_n 0) 1 70, ze0 70 (.aload_n 0) 1 71, zex 71 (.getfield 70) 3 74 8 8 2,
  zex 74 (.getfield 299) 3 77 4 0 0, zcal 77 (.invokevirtual 305) 3 80 149 2 1 8, ze0 80 (.aload_n 0) 1 81, ze0 81 (.iload_n 2) 1 82, zcal 82 (.invokevirtual 305) 3 85 149 2 1 8, ze0 85 (.iload_n 1) 1 86,
  ze0 86 .ireturn 1 87]
def zm_144 : zMi := ((yX8_round, cX8_round, 3, (some .int)), (8, 1, 5), zt_144, [])
/-- NotWhereYesterday.lasts()I -/
def zt_145 : zT := [ze0 0 (.aload_n 0) 1 1, zex 1 (.getfield 70) 3 4 8 8 2, zcal 4 (.invokevirtual 277) 3 7 38 1 0 4, zex 7 (.ifCond .ne 6) 3 10 13 0 0, zev32 10 (.bipush (-3)) 2 12 (-3), ze0 12 .ireturn 1 13,
  ze0 13 (.aload_n 0) 1 14, zex 14 (.getfield 70) 3 17 8 8 2, zcal 17 (.invokevirtual 281) 3 20 40 1 1 4, ze0 20 (.aload_n 0) 1 21, zex 21 (.getfield 70) 3 24 8 8 2, ze0 24 (.aload_n 0) 1 25,
  zex 25 (.getfield 70) 3 28 8 8 2, zcal 28 (.invokevirtual 284) 3 31 48 1 0 4, zcal 31 (.invokevirtual 287) 3 34 49 2 1 4, ze0 34 (.aload_n 0) 1 35, zex 35 (.getfield 70) 3 38 8 8 2, zcal 38 (.invokevirtual 308) 3 41 56 1 0 4,
  ze0 41 .ireturn 1 42]
def zm_145 : zMi := ((yX8_lasts, cX8_lasts, 1, (some .int)), (8, 1, 5), zt_145, [])
/-- NotWhereYesterday.lessons()I -/
def zt_146 : zT := [ze0 0 (.aload_n 0) 1 1, zex 1 (.getfield 70) 3 4 8 8 2, zcal 4 (.invokevirtual 277) 3 7 38 1 0 4, zex 7 (.ifCond .ne 6) 3 10 13 0 0, zev32 10 (.bipush (-3)) 2 12 (-3), ze0 12 .ireturn 1 13,
  ze0 13 (.aload_n 0) 1 14, zex 14 (.getfield 70) 3 17 8 8 2, zcal 17 (.invokevirtual 281) 3 20 40 1 1 4, ze0 20 (.aload_n 0) 1 21, zex 21 (.getfield 70) 3 24 8 8 2, zcal 24 (.invokevirtual 311) 3 27 58 1 0 4,
  ze0 27 (.istore_n 1) 1 28, ze0 28 (.iload_n 1) 1 29, zex 29 (.ifCond .ge 6) 3 32 35 0 0, zev32 32 (.bipush (-2)) 2 34 (-2), ze0 34 .ireturn 1 35, ze0 35 (.aload_n 0) 1 36,
  zcal 36 (.invokevirtual 167) 3 39 167 1 1 8, ze0 39 (.iload_n 1) 1 40, zex 40 (.ifCond .le 14) 3 43 54 0 0, ze0 43 (.aload_n 0) 1 44, ze0 44 (.aload_n 0) 1 45, zex 45 (.getfield 70) 3 48 8 8 2,
  zex 48 (.getfield 299) 3 51 4 0 0, zcal 51 (.invokevirtual 314) 3 54 147 2 1 8, ze0 54 (.iload_n 1) 1 55, zev32 55 (.iconst 1) 1 56 1, zex 56 (.if_icmp .le 14) 3 59 70 0 0, ze0 59 (.aload_n 0) 1 60,
  ze0 60 (.aload_n 0) 1 61, zex 61 (.getfield 70) 3 64 8 8 2, zex 64 (.getfield 317) 3 67 4 1 0, zcal 67 (.invokevirtual 314) 3 70 147 2 1 8, ze0 70 (.iload_n 1) 1 71, ze0 71 .ireturn 1 72]
def zm_146 : zMi := ((yX8_lessons, cX8_lessons, 2, (some .int)), (8, 1, 6), zt_146, [(54, [0, 1]), (70, [1])])
/-- NotWhereYesterday.tellLesson(I)V -/
def zt_147 : zT := [ze0 0 (.aload_n 0) 1 1, ze0 1 (.iload_n 1) 1 2, zev32 2 (.bipush 6) 2 4 6, ze0 4 .idiv 1 5, zcal 5 (.invokevirtual 173) 3 8 168 2 1 8, ze0 8 (.aload_n 0) 1 9,
  ze0 9 (.iload_n 1) 1 10, zev32 10 (.bipush 6) 2 12 6, ze0 12 .irem 1 13, zcal 13 (.invokevirtual 173) 3 16 168 2 1 8, ze0 16 .return_ 1 17]
def zm_147 : zMi := ((yX8_tellLesson, cX8_tellLesson, 2, none), (8, 2, 2), zt_147, [])
/-- NotWhereYesterday.most(I)I -/
def zt_148 : zT := [ze0 0 (.iload_n 1) 1 1, zev32 1 (.iconst 1) 1 2 1, zex 2 (.if_icmp .lt 8) 3 5 10 0 0, ze0 5 (.iload_n 1) 1 6, zev32 6 (.iconst 3) 1 7 3, zex 7 (.if_icmp .le 5) 3 10 12 0 0,
  zev32 10 (.iconst (-1)) 1 11 (-1), ze0 11 .ireturn 1 12, ze0 12 (.aload_n 0) 1 13, zex 13 (.getfield 70) 3 16 8 8 2, zcal 16 (.invokevirtual 277) 3 19 38 1 0 4, zex 19 (.ifCond .ne 6) 3 22 25 0 0,
  zev32 22 (.bipush (-3)) 2 24 (-3), ze0 24 .ireturn 1 25, ze0 25 (.aload_n 0) 1 26, zex 26 (.getfield 70) 3 29 8 8 2, zcal 29 (.invokevirtual 281) 3 32 40 1 1 4, ze0 32 (.aload_n 0) 1 33,
  zex 33 (.getfield 70) 3 36 8 8 2, ze0 36 (.iload_n 1) 1 37, zcal 37 (.invokevirtual 320) 3 40 61 2 0 4, ze0 40 (.istore_n 2) 1 41, ze0 41 (.iload_n 2) 1 42, zex 42 (.ifCond .ge 6) 3 45 48 0 0,
  zev32 45 (.bipush (-2)) 2 47 (-2), ze0 47 .ireturn 1 48, ze0 48 (.aload_n 0) 1 49, zcal 49 (.invokevirtual 167) 3 52 167 1 1 8, zev32 52 (.iconst 0) 1 53 0, ze0 53 (.istore_n 3) 1 54,
  ze0 54 (.iload_n 3) 1 55, ze0 55 (.iload_n 1) 1 56, zex 56 (.if_icmp .ge 22) 3 59 78 0 0, ze0 59 (.aload_n 0) 1 60, ze0 60 (.aload_n 0) 1 61, zex 61 (.getfield 70) 3 64 8 8 2,
  zex 64 (.getfield 323) 3 67 4 2 2, ze0 67 (.iload_n 3) 1 68, ze0 68 .iaload 1 69, zcal 69 (.invokevirtual 305) 3 72 149 2 1 8, zev32 72 (.iinc 3 1) 3 75 1, zex 75 (.goto (-21)) 3 78 54 0 0,
  ze0 78 (.iload_n 2) 1 79, ze0 79 .ireturn 1 80]
def zm_148 : zMi := ((yX8_most, cX8_most, 4, (some .int)), (8, 2, 7), zt_148, [(10, []), (54, [0, 1, 2, 3])])
/-- NotWhereYesterday.tellNode(I)V -/
def zt_149 : zT := [zev32 0 (.iconst 0) 1 1 0, ze0 1 (.istore_n 2) 1 2, ze0 2 (.iload_n 2) 1 3, ze0 3 (.aload_n 0) 1 4, zex 4 (.getfield 10) 3 7 8 0 2, zex 7 (.getfield 90) 3 10 1 1 0,
  zex 10 (.if_icmp .ge 22) 3 13 32 0 0, ze0 13 (.aload_n 0) 1 14, ze0 14 (.aload_n 0) 1 15, zex 15 (.getfield 70) 3 18 8 8 2, ze0 18 (.iload_n 1) 1 19, ze0 19 (.iload_n 2) 1 20,
  zcal 20 (.invokevirtual 326) 3 23 39 3 0 4, zcal 23 (.invokevirtual 173) 3 26 168 2 1 8, zev32 26 (.iinc 2 1) 3 29 1, zex 29 (.goto (-27)) 3 32 2 0 0, ze0 32 .return_ 1 33]
def zm_149 : zMi := ((yX8_tellNode, cX8_tellNode, 3, none), (8, 2, 2), zt_149, [(2, [0, 1, 2])])
/-- NotWhereYesterday.fresh()I -/
def zt_150 : zT := [ze0 0 (.aload_n 0) 1 1, zex 1 (.getfield 70) 3 4 8 8 2, zcal 4 (.invokevirtual 277) 3 7 38 1 0 4, zex 7 (.ifCond .ne 6) 3 10 13 0 0, zev32 10 (.bipush (-3)) 2 12 (-3), ze0 12 .ireturn 1 13,
  ze0 13 (.aload_n 0) 1 14, zex 14 (.getfield 61) 3 17 8 7 2, zev32 17 (.bipush (-2)) 2 19 (-2), zev32 19 (.iconst (-1)) 1 20 (-1), zcal 20 (.invokevirtual 211) 3 23 1 3 1 0, ze0 23 (.aload_n 0) 1 24,
  zex 24 (.getfield 61) 3 27 8 7 2, zcal 27 (.invokevirtual 329) 3 30 10 1 0 0, ze0 30 (.istore_n 1) 1 31, ze0 31 (.iload_n 1) 1 32, zex 32 (.ifCond .ge 6) 3 35 38 0 0, zev32 35 (.bipush (-2)) 2 37 (-2),
  ze0 37 .ireturn 1 38, ze0 38 (.aload_n 0) 1 39, zcal 39 (.invokevirtual 167) 3 42 167 1 1 8, ze0 42 (.aload_n 0) 1 43, ze0 43 (.aload_n 0) 1 44, zex 44 (.getfield 61) 3 47 8 7 2,
  zex 47 (.getfield 217) 3 50 0 0 2, zcal 50 (.invokevirtual 220) 3 53 169 2 1 8, ze0 53 (.iload_n 1) 1 54, ze0 54 .ireturn 1 55]
def zm_150 : zMi := ((yX8_fresh, cX8_fresh, 2, (some .int)), (8, 1, 5), zt_150, [])
/-- NotWhereYesterday.go(II)I -/
def zt_151 : zT := [ze0 0 (.iload_n 1) 1 1, zex 1 (.ifCond .lt 36) 3 4 37 0 0, ze0 4 (.iload_n 1) 1 5, zev32 5 (.iconst 3) 1 6 3, zex 6 (.if_icmp .gt 31) 3 9 37 0 0, ze0 9 (.iload_n 2) 1 10,
  zex 10 (.ifCond .lt 27) 3 13 37 0 0, ze0 13 (.iload_n 2) 1 14, zev32 14 (.bipush 60) 2 16 60, ze0 16 (.aload_n 0) 1 17, zex 17 (.getfield 26) 3 20 8 2 2, zex 20 (.getfield 130) 3 23 6 6 0,
  ze0 23 .isub 1 24, zex 24 (.if_icmp .gt 13) 3 27 37 0 0, ze0 27 (.aload_n 0) 1 28, zex 28 (.getfield 10) 3 31 8 0 2, zex 31 (.getfield 80) 3 34 1 0 0, zex 34 (.ifCond .ne 5) 3 37 39 0 0,
  zev32 37 (.iconst (-1)) 1 38 (-1), ze0 38 .ireturn 1 39, zev32 39 (.iconst 0) 1 40 0, ze0 40 (.istore_n 3) 1 41, zev32 41 (.iconst 0) 1 42 0, ze0 42 (.istore 4) 2 44,
  ze0 44 (.iload 4) 2 46, ze0 46 (.iload_n 2) 1 47, zex 47 (.if_icmp .ge 71) 3 50 118 0 0, ze0 50 (.aload_n 0) 1 51, zex 51 (.getfield 26) 3 54 8 2 2, zex 54 (.getfield 130) 3 57 6 6 0,
  zev32 57 (.bipush 60) 2 59 60, zex 59 (.if_icmp .ge 59) 3 62 118 0 0, ze0 62 (.iload_n 1) 1 63, zev32 63 (.iconst 3) 1 64 3, zex 64 (.if_icmp .ne 11) 3 67 75 0 0, ze0 67 (.aload_n 0) 1 68,
  zcal 68 (.invokevirtual 223) 3 71 126 1 0 8, ze0 71 .pop 1 72, zex 72 (.goto 8) 3 75 80 0 0, ze0 75 (.aload_n 0) 1 76, ze0 76 (.iload_n 1) 1 77, zcal 77 (.invokevirtual 332) 3 80 152 2 1 8,
  ze0 80 (.aload_n 0) 1 81, zex 81 (.getfield 52) 3 84 8 6 2, ze0 84 (.aload_n 0) 1 85, zex 85 (.getfield 26) 3 88 8 2 2, zex 88 (.getfield 130) 3 91 6 6 0, zev32 91 (.iconst 1) 1 92 1,
  zcal 92 (.invokevirtual 181) 3 95 98 3 0 7, zex 95 (.ifCond .ne 6) 3 98 101 0 0, zev32 98 (.iinc 3 1) 3 101 1, ze0 101 (.aload_n 0) 1 102, zex 102 (.getfield 26) 3 105 8 2 2, ze0 105 (.aload_n 0) 1 106,
  zex 106 (.getfield 10) 3 109 8 0 2, zcal 109 (.invokevirtual 185) 3 112 88 2 1 6, zev32 112 (.iinc 4 1) 3 115 1, zex 115 (.goto (-71)) 3 118 44 0 0, ze0 118 (.iload_n 3) 1 119, ze0 119 .ireturn 1 120]
def zm_151 : zMi := ((yX8_go, cX8_go, 5, (some .int)), (8, 3, 7), zt_151, [(37, []), (44, [0, 1, 2, 3, 4]), (80, [0, 1, 2, 3, 4]), (101, [0, 1, 2, 3, 4]), (118, [3])])
/-- NotWhereYesterday.draftByKind(I)V -/
def zt_152 : zT := [zev32 0 (.iconst 0) 1 1 0, ze0 1 (.istore_n 2) 1 2, ze0 2 (.iload_n 2) 1 3, ze0 3 (.aload_n 0) 1 4, zex 4 (.getfield 10) 3 7 8 0 2, zex 7 (.getfield 90) 3 10 1 1 0,
  zex 10 (.if_icmp .ge 40) 3 13 50 0 0, ze0 13 (.aload_n 0) 1 14, ze0 14 (.iload_n 1) 1 15, ze0 15 (.iload_n 2) 1 16, zcal 16 (.invokevirtual 335) 3 19 153 3 0 8, ze0 19 (.istore_n 3) 1 20,
  ze0 20 (.aload_n 0) 1 21, zex 21 (.getfield 26) 3 24 8 2 2, ze0 24 (.iload_n 2) 1 25, ze0 25 (.aload_n 0) 1 26, zex 26 (.getfield 10) 3 29 8 0 2, ze0 29 (.iload_n 3) 1 30,
  zcal 30 (.invokevirtual 120) 3 33 14 2 0 1, zex 33 (.ifCond .eq 7) 3 36 40 0 0, ze0 36 (.iload_n 3) 1 37, zex 37 (.goto 4) 3 40 41 0 0, zev32 40 (.iconst (-1)) 1 41 (-1), zcal 41 (.invokevirtual 148) 3 44 85 3 1 6,
  zev32 44 (.iinc 2 1) 3 47 1, zex 47 (.goto (-45)) 3 50 2 0 0, ze0 50 .return_ 1 51]
def zm_152 : zMi := ((yX8_draftByKind, cX8_draftByKind, 4, none), (8, 2, 3), zt_152, [(2, [0, 1, 2]), (41, [0, 1, 2])])
/-- NotWhereYesterday.oneByKind(II)I -/
def zt_153 : zT := [ze0 0 (.iload_n 1) 1 1, zev32 1 (.iconst 1) 1 2 1, zex 2 (.if_icmp .ne 17) 3 5 19 0 0, zev32 5 (.iconst 2) 1 6 2, ze0 6 (.iload_n 2) 1 7, ze0 7 .imul 1 8,
  ze0 8 (.aload_n 0) 1 9, zex 9 (.getfield 26) 3 12 8 2 2, zex 12 (.getfield 130) 3 15 6 6 0, zev32 15 (.iconst 2) 1 16 2, ze0 16 .irem 1 17, ze0 17 .iadd 1 18,
  ze0 18 .ireturn 1 19, ze0 19 (.iload_n 2) 1 20, ze0 20 (.aload_n 0) 1 21, zex 21 (.getfield 10) 3 24 8 0 2, zex 24 (.getfield 80) 3 27 1 0 0, zex 27 (.if_icmp .lt 5) 3 30 32 0 0,
  zev32 30 (.iconst (-1)) 1 31 (-1), ze0 31 .ireturn 1 32, ze0 32 (.iload_n 1) 1 33, zex 33 (.ifCond .ne 23) 3 36 56 0 0, ze0 36 (.iload_n 2) 1 37, ze0 37 (.aload_n 0) 1 38,
  zex 38 (.getfield 26) 3 41 8 2 2, zex 41 (.getfield 130) 3 44 6 6 0, ze0 44 .iadd 1 45, ze0 45 (.aload_n 0) 1 46, zex 46 (.getfield 10) 3 49 8 0 2, zex 49 (.getfield 80) 3 52 1 0 0,
  ze0 52 .irem 1 53, zex 53 (.goto 21) 3 56 74 0 0, ze0 56 (.aload_n 0) 1 57, zex 57 (.getfield 10) 3 60 8 0 2, zex 60 (.getfield 80) 3 63 1 0 0, ze0 63 (.aload_n 0) 1 64,
  zex 64 (.getfield 26) 3 67 8 2 2, zex 67 (.getfield 130) 3 70 6 6 0, ze0 70 (.iload_n 2) 1 71, zcal 71 (.invokestatic 338) 3 74 154 3 0 8, ze0 74 .ireturn 1 75]
def zm_153 : zMi := ((yX8_oneByKind, cX8_oneByKind, 3, (some .int)), (8, 3, 2), zt_153, [(74, [])])
/-- NotWhereYesterday.zigzag(III)I -/
def zt_154 : zT := [ze0 0 (.iload_n 0) 1 1, zev32 1 (.iconst 1) 1 2 1, zex 2 (.if_icmp .ge 5) 3 5 7 0 0, zev32 5 (.iconst (-1)) 1 6 (-1), ze0 6 .ireturn 1 7, ze0 7 (.iload_n 2) 1 8,
  zev32 8 (.iconst 2) 1 9 2, ze0 9 .irem 1 10, zex 10 (.ifCond .ne 9) 3 13 19 0 0, ze0 13 (.iload_n 2) 1 14, zev32 14 (.iconst 2) 1 15 2, ze0 15 .idiv 1 16,
  zex 16 (.goto 10) 3 19 26 0 0, ze0 19 (.iload_n 0) 1 20, ze0 20 (.iload_n 2) 1 21, zev32 21 (.iconst 1) 1 22 1, ze0 22 .iadd 1 23, zev32 23 (.iconst 2) 1 24 2,
  ze0 24 .idiv 1 25, ze0 25 .isub 1 26, ze0 26 (.istore_n 3) 1 27, ze0 27 (.iload_n 1) 1 28, ze0 28 (.iload_n 3) 1 29, ze0 29 .iadd 1 30,
  ze0 30 (.iload_n 0) 1 31, ze0 31 .irem 1 32, ze0 32 .ireturn 1 33]
def zm_154 : zMi := ((yX8_zigzag, cX8_zigzag, 4, (some .int)), (8, 3, 1), zt_154, [(26, [0, 1])])
/-- NotWhereYesterday.met(I)I -/
def zt_155 : zT := [ze0 0 (.aload_n 0) 1 1, zex 1 (.getfield 10) 3 4 8 0 2, ze0 4 (.iload_n 1) 1 5, zcal 5 (.invokevirtual 120) 3 8 14 2 0 1, zex 8 (.ifCond .ne 5) 3 11 13 0 0, zev32 11 (.iconst (-1)) 1 12 (-1),
  ze0 12 .ireturn 1 13, zev32 13 (.iconst 0) 1 14 0, ze0 14 (.istore_n 2) 1 15, zev32 15 (.iconst 0) 1 16 0, ze0 16 (.istore_n 3) 1 17, ze0 17 (.iload_n 3) 1 18,
  ze0 18 (.aload_n 0) 1 19, zex 19 (.getfield 26) 3 22 8 2 2, zex 22 (.getfield 130) 3 25 6 6 0, zex 25 (.if_icmp .ge 21) 3 28 46 0 0, ze0 28 (.iload_n 2) 1 29, ze0 29 (.aload_n 0) 1 30,
  zex 30 (.getfield 26) 3 33 8 2 2, ze0 33 (.iload_n 3) 1 34, ze0 34 (.iload_n 1) 1 35, zcal 35 (.invokevirtual 274) 3 38 82 3 0 6, ze0 38 .ior 1 39, ze0 39 (.istore_n 2) 1 40,
  zev32 40 (.iinc 3 1) 3 43 1, zex 43 (.goto (-26)) 3 46 17 0 0, ze0 46 (.iload_n 2) 1 47, ze0 47 .ireturn 1 48]
def zm_155 : zMi := ((yX8_met, cX8_met, 4, (some .int)), (8, 2, 3), zt_155, [(17, [0, 1, 2, 3])])
/-- NotWhereYesterday.all()I -/
def zt_156 : zT := [ze0 0 (.aload_n 0) 1 1, zex 1 (.getfield 10) 3 4 8 0 2, zex 4 (.getfield 80) 3 7 1 0 0, zev32 7 (.iconst 2) 1 8 2, zex 8 (.if_icmp .ge 5) 3 11 13 0 0, zev32 11 (.iconst (-1)) 1 12 (-1),
  ze0 12 .ireturn 1 13, ze0 13 (.aload_n 0) 1 14, zex 14 (.getfield 77) 3 17 8 10 2, zev32 17 (.iconst 0) 1 18 0, zcal 18 (.invokestatic 192) 3 21 290 2 1 14, zev32 21 (.iconst 0) 1 22 0,
  ze0 22 (.istore_n 1) 1 23, ze0 23 (.iload_n 1) 1 24, ze0 24 (.aload_n 0) 1 25, zex 25 (.getfield 26) 3 28 8 2 2, zex 28 (.getfield 130) 3 31 6 6 0, zex 31 (.if_icmp .ge 42) 3 34 73 0 0,
  ze0 34 (.aload_n 0) 1 35, ze0 35 (.iload_n 1) 1 36, zcal 36 (.invokevirtual 271) 3 39 141 2 1 8, ze0 39 (.aload_n 0) 1 40, zcal 40 (.invokevirtual 268) 3 43 142 1 0 8, ze0 43 (.aload_n 0) 1 44,
  zex 44 (.getfield 10) 3 47 8 0 2, zex 47 (.getfield 80) 3 50 1 0 0, ze0 50 (.aload_n 0) 1 51, zex 51 (.getfield 10) 3 54 8 0 2, zex 54 (.getfield 80) 3 57 1 0 0, zev32 57 (.iconst 1) 1 58 1,
  ze0 58 .isub 1 59, ze0 59 .imul 1 60, zex 60 (.if_icmp .ne 7) 3 63 67 0 0, ze0 63 (.iload_n 1) 1 64, zev32 64 (.iconst 1) 1 65 1, ze0 65 .iadd 1 66,
  ze0 66 .ireturn 1 67, zev32 67 (.iinc 1 1) 3 70 1, zex 70 (.goto (-47)) 3 73 23 0 0, zev32 73 (.bipush (-2)) 2 75 (-2), ze0 75 .ireturn 1 76]
def zm_156 : zMi := ((yX8_all, cX8_all, 2, (some .int)), (8, 1, 4), zt_156, [(23, [0, 1])])
/-- NotWhereYesterday.soon(I)I -/
def zt_157 : zT := [ze0 0 (.iload_n 1) 1 1, zev32 1 (.iconst 2) 1 2 2, zex 2 (.if_icmp .lt 9) 3 5 11 0 0, ze0 5 (.iload_n 1) 1 6, zev32 6 (.bipush 10) 2 8 10, zex 8 (.if_icmp .le 5) 3 11 13 0 0,
  zev32 11 (.iconst (-1)) 1 12 (-1), ze0 12 .ireturn 1 13, ze0 13 (.aload_n 0) 1 14, zex 14 (.getfield 77) 3 17 8 10 2, zev32 17 (.iconst 0) 1 18 0, zcal 18 (.invokestatic 192) 3 21 290 2 1 14,
  zev32 21 (.iconst 0) 1 22 0, ze0 22 (.istore_n 2) 1 23, ze0 23 (.iload_n 2) 1 24, zev32 24 (.bipush 60) 2 26 60, zex 26 (.if_icmp .ge 104) 3 29 130 0 0, ze0 29 (.aload_n 0) 1 30,
  zcal 30 (.invokevirtual 268) 3 33 142 1 0 8, ze0 33 (.iload_n 1) 1 34, ze0 34 (.iload_n 1) 1 35, zev32 35 (.iconst 1) 1 36 1, ze0 36 .isub 1 37, ze0 37 .imul 1 38,
  zex 38 (.if_icmp .ge 92) 3 41 130 0 0, zev32 41 (.iconst 1) 1 42 1, ze0 42 (.istore_n 3) 1 43, ze0 43 (.iload_n 3) 1 44, ze0 44 (.iload_n 1) 1 45, zex 45 (.if_icmp .ge 79) 3 48 124 0 0,
  ze0 48 (.iload_n 1) 1 49, ze0 49 (.iload_n 2) 1 50, ze0 50 (.iload_n 3) 1 51, zev32 51 (.iconst 1) 1 52 1, ze0 52 .isub 1 53, zcal 53 (.invokestatic 338) 3 56 154 3 0 8,
  ze0 56 (.istore 4) 2 58, ze0 58 (.iload_n 1) 1 59, ze0 59 (.iload_n 2) 1 60, ze0 60 (.iload_n 3) 1 61, zcal 61 (.invokestatic 338) 3 64 154 3 0 8, ze0 64 (.istore 5) 2 66,
  ze0 66 (.iload 4) 2 68, zex 68 (.ifCond .lt 50) 3 71 118 0 0, ze0 71 (.iload 4) 2 73, zev32 73 (.bipush 10) 2 75 10, zex 75 (.if_icmp .ge 43) 3 78 118 0 0, ze0 78 (.iload 5) 2 80,
  zex 80 (.ifCond .lt 38) 3 83 118 0 0, ze0 83 (.iload 5) 2 85, zev32 85 (.bipush 10) 2 87 10, zex 87 (.if_icmp .ge 31) 3 90 118 0 0, ze0 90 (.aload_n 0) 1 91, zex 91 (.getfield 77) 3 94 8 10 2,
  ze0 94 (.iload 4) 2 96, ze0 96 .dup2 1 97, ze0 97 .iaload 1 98, zev32 98 (.iconst 1) 1 99 1, ze0 99 (.iload 5) 2 101, ze0 101 .ishl 1 102,
  ze0 102 .ior 1 103, ze0 103 .iastore 1 104, ze0 104 (.aload_n 0) 1 105, zex 105 (.getfield 77) 3 108 8 10 2, ze0 108 (.iload 5) 2 110, ze0 110 .dup2 1 111,
  ze0 111 .iaload 1 112, zev32 112 (.iconst 1) 1 113 1, ze0 113 (.iload 4) 2 115, ze0 115 .ishl 1 116, ze0 116 .ior 1 117, ze0 117 .iastore 1 118,
  zev32 118 (.iinc 3 1) 3 121 1, zex 121 (.goto (-78)) 3 124 43 0 0, zev32 124 (.iinc 2 1) 3 127 1, zex 127 (.goto (-104)) 3 130 23 0 0, ze0 130 (.iload_n 2) 1 131, ze0 131 .ireturn 1 132]
def zm_157 : zMi := ((yX8_soon, cX8_soon, 6, (some .int)), (8, 2, 3), zt_157, [(11, []), (23, [0, 1, 2]), (43, [0, 1, 2, 3]), (118, [0, 1, 2, 3]), (130, [2])])
/-- NotWhereYesterday.often(II)I -/
def zt_158 : zT := [ze0 0 (.aload_n 0) 1 1, zex 1 (.getfield 10) 3 4 8 0 2, ze0 4 (.iload_n 1) 1 5, zcal 5 (.invokevirtual 120) 3 8 14 2 0 1, zex 8 (.ifCond .eq 14) 3 11 22 0 0, ze0 11 (.aload_n 0) 1 12,
  zex 12 (.getfield 10) 3 15 8 0 2, ze0 15 (.iload_n 2) 1 16, zcal 16 (.invokevirtual 127) 3 19 15 2 0 1, zex 19 (.ifCond .ne 5) 3 22 24 0 0, zev32 22 (.iconst (-1)) 1 23 (-1), ze0 23 .ireturn 1 24,
  zev32 24 (.iconst 0) 1 25 0, ze0 25 (.istore_n 3) 1 26, zev32 26 (.iconst 0) 1 27 0, ze0 27 (.istore 4) 2 29, zev32 29 (.bipush 60) 2 31 60, ze0 31 (.istore 5) 2 33,
  zev32 33 (.iconst 0) 1 34 0, ze0 34 (.istore 6) 2 36, zev32 36 (.iconst 0) 1 37 0, ze0 37 (.istore 7) 2 39, ze0 39 (.iload 7) 2 41, ze0 41 (.aload_n 0) 1 42,
  zex 42 (.getfield 26) 3 45 8 2 2, zex 45 (.getfield 130) 3 48 6 6 0, zex 48 (.if_icmp .ge 58) 3 51 106 0 0, ze0 51 (.aload_n 0) 1 52, zex 52 (.getfield 26) 3 55 8 2 2, ze0 55 (.iload 7) 2 57,
  ze0 57 (.iload_n 2) 1 58, zcal 58 (.invokevirtual 145) 3 61 80 3 0 6, ze0 61 (.iload_n 1) 1 62, zex 62 (.if_icmp .ne 38) 3 65 100 0 0, ze0 65 (.iload_n 3) 1 66, zex 66 (.ifCond .le 27) 3 69 93 0 0,
  ze0 69 (.iload 5) 2 71, ze0 71 (.iload 7) 2 73, ze0 73 (.iload 4) 2 75, ze0 75 .isub 1 76, zcal 76 (.invokestatic 155) 3 79 0 2 9 0, ze0 79 (.istore 5) 2 81,
  ze0 81 (.iload 6) 2 83, ze0 83 (.iload 7) 2 85, ze0 85 (.iload 4) 2 87, ze0 87 .isub 1 88, zcal 88 (.invokestatic 262) 3 91 0 2 8 0, ze0 91 (.istore 6) 2 93,
  zev32 93 (.iinc 3 1) 3 96 1, ze0 96 (.iload 7) 2 98, ze0 98 (.istore 4) 2 100, zev32 100 (.iinc 7 1) 3 103 1, zex 103 (.goto (-64)) 3 106 39 0 0, ze0 106 (.aload_n 0) 1 107,
  zcal 107 (.invokevirtual 167) 3 110 167 1 1 8, ze0 110 (.aload_n 0) 1 111, ze0 111 (.iload_n 3) 1 112, zev32 112 (.iconst 2) 1 113 2, zex 113 (.if_icmp .ge 7) 3 116 120 0 0, zev32 116 (.iconst 0) 1 117 0,
  zex 117 (.goto 5) 3 120 122 0 0, ze0 120 (.iload 5) 2 122, zcal 122 (.invokevirtual 173) 3 125 168 2 1 8, ze0 125 (.aload_n 0) 1 126, ze0 126 (.iload_n 3) 1 127, zev32 127 (.iconst 2) 1 128 2,
  zex 128 (.if_icmp .lt 19) 3 131 147 0 0, ze0 131 (.iload 5) 2 133, zev32 133 (.iconst 2) 1 134 2, zex 134 (.if_icmp .ne 13) 3 137 147 0 0, ze0 137 (.iload 6) 2 139, zev32 139 (.iconst 2) 1 140 2,
  zex 140 (.if_icmp .ne 7) 3 143 147 0 0, zev32 143 (.iconst 1) 1 144 1, zex 144 (.goto 4) 3 147 148 0 0, zev32 147 (.iconst 0) 1 148 0, zcal 148 (.invokevirtual 173) 3 151 168 2 1 8, ze0 151 (.iload_n 3) 1 152,
  ze0 152 .ireturn 1 153]
def zm_158 : zMi := ((yX8_often, cX8_often, 8, (some .int)), (8, 3, 2), zt_158, [(22, []), (39, [0, 1, 2, 3, 4, 5, 6, 7]), (93, [0, 1, 2, 3, 5, 6, 7]), (100, [0, 1, 2, 3, 4, 5, 6, 7]), (122, [0, 3, 5, 6]), (147, [3]), (148, [3])])
/-- NotWhereYesterday.alternate(I)I -/
def zt_159 : zT := [ze0 0 (.aload_n 0) 1 1, zex 1 (.getfield 10) 3 4 8 0 2, ze0 4 (.iload_n 1) 1 5, zcal 5 (.invokevirtual 127) 3 8 15 2 0 1, zex 8 (.ifCond .ne 5) 3 11 13 0 0, zev32 11 (.iconst (-1)) 1 12 (-1),
  ze0 12 .ireturn 1 13, ze0 13 (.aload_n 0) 1 14, zex 14 (.getfield 26) 3 17 8 2 2, ze0 17 (.aload_n 0) 1 18, zex 18 (.getfield 26) 3 21 8 2 2, zex 21 (.getfield 130) 3 24 6 6 0,
  zev32 24 (.iconst 1) 1 25 1, ze0 25 .isub 1 26, ze0 26 (.iload_n 1) 1 27, zcal 27 (.invokevirtual 145) 3 30 80 3 0 6, ze0 30 (.istore_n 2) 1 31, ze0 31 (.aload_n 0) 1 32,
  zex 32 (.getfield 26) 3 35 8 2 2, ze0 35 (.aload_n 0) 1 36, zex 36 (.getfield 26) 3 39 8 2 2, zex 39 (.getfield 130) 3 42 6 6 0, zev32 42 (.iconst 2) 1 43 2, ze0 43 .isub 1 44,
  ze0 44 (.iload_n 1) 1 45, zcal 45 (.invokevirtual 145) 3 48 80 3 0 6, ze0 48 (.istore_n 3) 1 49, ze0 49 (.aload_n 0) 1 50, zcal 50 (.invokevirtual 167) 3 53 167 1 1 8, ze0 53 (.iload_n 2) 1 54,
  zev32 54 (.iconst (-1)) 1 55 (-1), zex 55 (.if_icmp .eq 13) 3 58 68 0 0, ze0 58 (.iload_n 3) 1 59, zev32 59 (.iconst (-1)) 1 60 (-1), zex 60 (.if_icmp .eq 8) 3 63 68 0 0, ze0 63 (.iload_n 2) 1 64,
  ze0 64 (.iload_n 3) 1 65, zex 65 (.if_icmp .ne 5) 3 68 70 0 0, zev32 68 (.iconst 0) 1 69 0, ze0 69 .ireturn 1 70, zev32 70 (.iconst 2) 1 71 2, ze0 71 (.istore 4) 2 73,
  ze0 73 (.iload 4) 2 75, ze0 75 (.aload_n 0) 1 76, zex 76 (.getfield 26) 3 79 8 2 2, zex 79 (.getfield 130) 3 82 6 6 0, zex 82 (.if_icmp .ge 44) 3 85 126 0 0, ze0 85 (.aload_n 0) 1 86,
  zex 86 (.getfield 26) 3 89 8 2 2, ze0 89 (.aload_n 0) 1 90, zex 90 (.getfield 26) 3 93 8 2 2, zex 93 (.getfield 130) 3 96 6 6 0, zev32 96 (.iconst 1) 1 97 1, ze0 97 .isub 1 98,
  ze0 98 (.iload 4) 2 100, ze0 100 .isub 1 101, ze0 101 (.iload_n 1) 1 102, zcal 102 (.invokevirtual 145) 3 105 80 3 0 6, ze0 105 (.iload 4) 2 107, zev32 107 (.iconst 2) 1 108 2,
  ze0 108 .irem 1 109, zex 109 (.ifCond .ne 7) 3 112 116 0 0, ze0 112 (.iload_n 2) 1 113, zex 113 (.goto 4) 3 116 117 0 0, ze0 116 (.iload_n 3) 1 117, zex 117 (.if_icmp .ne 9) 3 120 126 0 0,
  zev32 120 (.iinc 4 1) 3 123 1, zex 123 (.goto (-50)) 3 126 73 0 0, ze0 126 (.aload_n 0) 1 127, ze0 127 (.iload_n 2) 1 128, zcal 128 (.invokevirtual 173) 3 131 168 2 1 8, ze0 131 (.aload_n 0) 1 132,
  ze0 132 (.iload_n 3) 1 133, zcal 133 (.invokevirtual 173) 3 136 168 2 1 8, ze0 136 (.iload 4) 2 138, ze0 138 .ireturn 1 139]
def zm_159 : zMi := ((yX8_alternate, cX8_alternate, 5, (some .int)), (8, 2, 2), zt_159, [(68, []), (73, [0, 1, 2, 3, 4]), (117, [0, 1, 2, 3, 4]), (126, [0, 2, 3, 4])])
/-- NotWhereYesterday.chairs(I)I -/
def zt_160 : zT := [ze0 0 (.aload_n 0) 1 1, zex 1 (.getfield 10) 3 4 8 0 2, ze0 4 (.iload_n 1) 1 5, zcal 5 (.invokevirtual 120) 3 8 14 2 0 1, zex 8 (.ifCond .ne 5) 3 11 13 0 0, zev32 11 (.iconst (-1)) 1 12 (-1),
  ze0 12 .ireturn 1 13, zev32 13 (.iconst 0) 1 14 0, ze0 14 (.istore_n 2) 1 15, zev32 15 (.iconst 0) 1 16 0, ze0 16 (.istore_n 3) 1 17, ze0 17 (.iload_n 3) 1 18,
  ze0 18 (.aload_n 0) 1 19, zex 19 (.getfield 10) 3 22 8 0 2, zex 22 (.getfield 80) 3 25 1 0 0, zex 25 (.if_icmp .ge 31) 3 28 56 0 0, ze0 28 (.aload_n 0) 1 29, ze0 29 (.iload_n 3) 1 30,
  zcal 30 (.invokevirtual 341) 3 33 161 2 0 8, zev32 33 (.iconst 1) 1 34 1, ze0 34 (.aload_n 0) 1 35, zex 35 (.getfield 10) 3 38 8 0 2, zex 38 (.getfield 90) 3 41 1 1 0, ze0 41 .ishl 1 42,
  zev32 42 (.iconst 1) 1 43 1, ze0 43 .isub 1 44, zex 44 (.if_icmp .ne 6) 3 47 50 0 0, zev32 47 (.iinc 2 1) 3 50 1, zev32 50 (.iinc 3 1) 3 53 1, zex 53 (.goto (-36)) 3 56 17 0 0,
  ze0 56 (.aload_n 0) 1 57, zcal 57 (.invokevirtual 167) 3 60 167 1 1 8, ze0 60 (.aload_n 0) 1 61, ze0 61 (.iload_n 2) 1 62, zcal 62 (.invokevirtual 173) 3 65 168 2 1 8, ze0 65 (.aload_n 0) 1 66,
  ze0 66 (.iload_n 1) 1 67, zcal 67 (.invokevirtual 341) 3 70 161 2 0 8, ze0 70 .ireturn 1 71]
def zm_160 : zMi := ((yX8_chairs, cX8_chairs, 4, (some .int)), (8, 2, 3), zt_160, [(17, [0, 1, 2, 3]), (50, [0, 1, 2, 3])])
/-- NotWhereYesterday.chairsOf(I)I -/
def zt_161 : zT := [zev32 0 (.iconst 0) 1 1 0, ze0 1 (.istore_n 2) 1 2, zev32 2 (.iconst 0) 1 3 0, ze0 3 (.istore_n 3) 1 4, ze0 4 (.iload_n 3) 1 5, ze0 5 (.aload_n 0) 1 6,
  zex 6 (.getfield 26) 3 9 8 2 2, zex 9 (.getfield 130) 3 12 6 6 0, zex 12 (.if_icmp .ge 37) 3 15 49 0 0, ze0 15 (.aload_n 0) 1 16, zex 16 (.getfield 26) 3 19 8 2 2, ze0 19 (.iload_n 3) 1 20,
  ze0 20 (.iload_n 1) 1 21, zcal 21 (.invokevirtual 141) 3 24 81 3 0 6, ze0 24 (.istore 4) 2 26, ze0 26 (.iload_n 2) 1 27, ze0 27 (.iload 4) 2 29, zev32 29 (.iconst (-1)) 1 30 (-1),
  zex 30 (.if_icmp .ne 7) 3 33 37 0 0, zev32 33 (.iconst 0) 1 34 0, zex 34 (.goto 7) 3 37 41 0 0, zev32 37 (.iconst 1) 1 38 1, ze0 38 (.iload 4) 2 40, ze0 40 .ishl 1 41,
  ze0 41 .ior 1 42, ze0 42 (.istore_n 2) 1 43, zev32 43 (.iinc 3 1) 3 46 1, zex 46 (.goto (-42)) 3 49 4 0 0, ze0 49 (.iload_n 2) 1 50, ze0 50 .ireturn 1 51]
def zm_161 : zMi := ((yX8_chairsOf, cX8_chairsOf, 5, (some .int)), (8, 2, 2), zt_161, [(4, [0, 1, 2, 3]), (41, [0, 1, 3])])
/-- NotWhereYesterday.unlike()I -/
def zt_162 : zT := [zev32 0 (.iconst 0) 1 1 0, ze0 1 (.istore_n 1) 1 2, ze0 2 (.iload_n 1) 1 3, ze0 3 (.aload_n 0) 1 4, zex 4 (.getfield 26) 3 7 8 2 2, zex 7 (.getfield 130) 3 10 6 6 0,
  zex 10 (.if_icmp .ge 27) 3 13 37 0 0, ze0 13 (.aload_n 0) 1 14, ze0 14 (.aload_n 0) 1 15, zex 15 (.getfield 26) 3 18 8 2 2, zex 18 (.getfield 130) 3 21 6 6 0, zev32 21 (.iconst 1) 1 22 1,
  ze0 22 .isub 1 23, ze0 23 (.iload_n 1) 1 24, ze0 24 .isub 1 25, zcal 25 (.invokevirtual 344) 3 28 163 2 0 8, zex 28 (.ifCond .ne 9) 3 31 37 0 0, zev32 31 (.iinc 1 1) 3 34 1,
  zex 34 (.goto (-32)) 3 37 2 0 0, ze0 37 (.iload_n 1) 1 38, ze0 38 .ireturn 1 39]
def zm_162 : zMi := ((yX8_unlike, cX8_unlike, 2, (some .int)), (8, 1, 4), zt_162, [(2, [0, 1]), (37, [1])])
/-- NotWhereYesterday.comesAgain(I)Z -/
def zt_163 : zT := [ze0 0 (.iload_n 1) 1 1, zev32 1 (.iconst 1) 1 2 1, ze0 2 .iadd 1 3, ze0 3 (.istore_n 2) 1 4, ze0 4 (.iload_n 2) 1 5, ze0 5 (.aload_n 0) 1 6,
  zex 6 (.getfield 26) 3 9 8 2 2, zex 9 (.getfield 130) 3 12 6 6 0, zex 12 (.if_icmp .ge 23) 3 15 35 0 0, ze0 15 (.aload_n 0) 1 16, zex 16 (.getfield 26) 3 19 8 2 2, ze0 19 (.iload_n 1) 1 20,
  ze0 20 (.iload_n 2) 1 21, zcal 21 (.invokevirtual 347) 3 24 84 3 0 6, zex 24 (.ifCond .eq 5) 3 27 29 0 0, zev32 27 (.iconst 1) 1 28 1, ze0 28 .ireturn 1 29, zev32 29 (.iinc 2 1) 3 32 1,
  zex 32 (.goto (-28)) 3 35 4 0 0, zev32 35 (.iconst 0) 1 36 0, ze0 36 .ireturn 1 37]
def zm_163 : zMi := ((yX8_comesAgain, cX8_comesAgain, 3, (some .boolean)), (8, 2, 3), zt_163, [(4, [0, 1, 2])])
/-- NotWhereYesterday.keep(I)Z -/
def zt_164 : zT := [ze0 0 (.iload_n 1) 1 1, zex 1 (.ifCond .lt 12) 3 4 13 0 0, ze0 4 (.iload_n 1) 1 5, ze0 5 (.aload_n 0) 1 6, zex 6 (.getfield 30) 3 9 8 3 2, ze0 9 .arraylength 1 10,
  zex 10 (.if_icmp .lt 5) 3 13 15 0 0, zev32 13 (.iconst 0) 1 14 0, ze0 14 .ireturn 1 15, ze0 15 (.aload_n 0) 1 16, zex 16 (.getfield 30) 3 19 8 3 2, ze0 19 (.iload_n 1) 1 20,
  ze0 20 .aaload 1 21, ze0 21 (.aload_n 0) 1 22, zex 22 (.getfield 26) 3 25 8 2 2, zcal 25 (.invokevirtual 350) 3 28 79 2 1 6, ze0 28 (.aload_n 0) 1 29, zex 29 (.getfield 30) 3 32 8 3 2,
  ze0 32 (.iload_n 1) 1 33, ze0 33 .aaload 1 34, ze0 34 (.aload_n 0) 1 35, zex 35 (.getfield 10) 3 38 8 0 2, zex 38 (.getfield 80) 3 41 1 0 0, zex 41 (.putfield 353) 3 44 6 7 0,
  ze0 44 (.aload_n 0) 1 45, zex 45 (.getfield 30) 3 48 8 3 2, ze0 48 (.iload_n 1) 1 49, ze0 49 .aaload 1 50, ze0 50 (.aload_n 0) 1 51, zex 51 (.getfield 10) 3 54 8 0 2,
  zex 54 (.getfield 90) 3 57 1 1 0, zex 57 (.putfield 356) 3 60 6 8 0, zev32 60 (.iconst 1) 1 61 1, ze0 61 .ireturn 1 62]
def zm_164 : zMi := ((yX8_keep, cX8_keep, 2, (some .boolean)), (8, 2, 2), zt_164, [(13, [])])
/-- NotWhereYesterday.again(I)Z -/
def zt_165 : zT := [ze0 0 (.iload_n 1) 1 1, zex 1 (.ifCond .lt 12) 3 4 13 0 0, ze0 4 (.iload_n 1) 1 5, ze0 5 (.aload_n 0) 1 6, zex 6 (.getfield 30) 3 9 8 3 2, ze0 9 .arraylength 1 10,
  zex 10 (.if_icmp .lt 5) 3 13 15 0 0, zev32 13 (.iconst 0) 1 14 0, ze0 14 .ireturn 1 15, ze0 15 (.aload_n 0) 1 16, zex 16 (.getfield 30) 3 19 8 3 2, ze0 19 (.iload_n 1) 1 20,
  ze0 20 .aaload 1 21, zex 21 (.getfield 353) 3 24 6 7 0, ze0 24 (.aload_n 0) 1 25, zex 25 (.getfield 10) 3 28 8 0 2, zex 28 (.getfield 80) 3 31 1 0 0, zex 31 (.if_icmp .ne 22) 3 34 53 0 0,
  ze0 34 (.aload_n 0) 1 35, zex 35 (.getfield 30) 3 38 8 3 2, ze0 38 (.iload_n 1) 1 39, ze0 39 .aaload 1 40, zex 40 (.getfield 356) 3 43 6 8 0, ze0 43 (.aload_n 0) 1 44,
  zex 44 (.getfield 10) 3 47 8 0 2, zex 47 (.getfield 90) 3 50 1 1 0, zex 50 (.if_icmp .eq 5) 3 53 55 0 0, zev32 53 (.iconst 0) 1 54 0, ze0 54 .ireturn 1 55, ze0 55 (.aload_n 0) 1 56,
  zex 56 (.getfield 26) 3 59 8 2 2, ze0 59 (.aload_n 0) 1 60, zex 60 (.getfield 30) 3 63 8 3 2, ze0 63 (.iload_n 1) 1 64, ze0 64 .aaload 1 65, zcal 65 (.invokevirtual 350) 3 68 79 2 1 6,
  zev32 68 (.iconst 1) 1 69 1, ze0 69 .ireturn 1 70]
def zm_165 : zMi := ((yX8_again, cX8_again, 2, (some .boolean)), (8, 2, 2), zt_165, [(13, []), (53, [])])
/-- NotWhereYesterday.count(I)I -/
def zt_166 : zT := [ze0 0 (.iload_n 1) 1 1, (1, (((.tableswitch 106 0 7 #[47, 55, 63, 71, 81, 91, 96, 101]), 47), 48, (107, 0, 0), (0, 0), [48, 56, 64, 72, 82, 92, 97, 102])), ze0 48 (.aload_n 0) 1 49, zex 49 (.getfield 10) 3 52 8 0 2, zex 52 (.getfield 80) 3 55 1 0 0, ze0 55 .ireturn 1 56,
  ze0 56 (.aload_n 0) 1 57, zex 57 (.getfield 10) 3 60 8 0 2, zex 60 (.getfield 90) 3 63 1 1 0, ze0 63 .ireturn 1 64, ze0 64 (.aload_n 0) 1 65, zex 65 (.getfield 26) 3 68 8 2 2,
  zex 68 (.getfield 130) 3 71 6 6 0, ze0 71 .ireturn 1 72, ze0 72 (.aload_n 0) 1 73, zex 73 (.getfield 19) 3 76 8 1 2, zex 76 (.getfield 259) 3 79 2 0 2, zev32 79 (.iconst 0) 1 80 0,
  ze0 80 .iaload 1 81, ze0 81 .ireturn 1 82, ze0 82 (.aload_n 0) 1 83, zex 83 (.getfield 19) 3 86 8 1 2, zex 86 (.getfield 259) 3 89 2 0 2, zev32 89 (.iconst 1) 1 90 1,
  ze0 90 .iaload 1 91, ze0 91 .ireturn 1 92, ze0 92 (.aload_n 0) 1 93, zcal 93 (.invokevirtual 163) 3 96 116 1 0 8, ze0 96 .ireturn 1 97, ze0 97 (.aload_n 0) 1 98,
  zex 98 (.getfield 359) 3 101 8 12 0, ze0 101 .ireturn 1 102, ze0 102 (.aload_n 0) 1 103, zex 103 (.getfield 106) 3 106 8 11 0, ze0 106 .ireturn 1 107, zev32 107 (.iconst (-1)) 1 108 (-1),
  ze0 108 .ireturn 1 109]
def zm_166 : zMi := ((yX8_count, cX8_count, 2, (some .int)), (8, 2, 3), zt_166, [])
/-- NotWhereYesterday.clearRow()V -/
def zt_167 : zT := [ze0 0 (.aload_n 0) 1 1, zev32 1 (.iconst 0) 1 2 0, zex 2 (.putfield 359) 3 5 8 12 0, ze0 5 .return_ 1 6]
def zm_167 : zMi := ((yX8_clearRow, cX8_clearRow, 1, none), (8, 1, 1), zt_167, [])
/-- NotWhereYesterday.tell(I)V -/
def zt_168 : zT := [ze0 0 (.aload_n 0) 1 1, zex 1 (.getfield 359) 3 4 8 12 0, ze0 4 (.aload_n 0) 1 5, zex 5 (.getfield 74) 3 8 8 9 2, ze0 8 .arraylength 1 9, zex 9 (.if_icmp .ge 23) 3 12 32 0 0,
  ze0 12 (.aload_n 0) 1 13, zex 13 (.getfield 74) 3 16 8 9 2, ze0 16 (.aload_n 0) 1 17, zex 17 (.getfield 359) 3 20 8 12 0, ze0 20 (.iload_n 1) 1 21, ze0 21 .iastore 1 22,
  ze0 22 (.aload_n 0) 1 23, ze0 23 .dup 1 24, zex 24 (.getfield 359) 3 27 8 12 0, zev32 27 (.iconst 1) 1 28 1, ze0 28 .iadd 1 29, zex 29 (.putfield 359) 3 32 8 12 0,
  ze0 32 .return_ 1 33]
def zm_168 : zMi := ((yX8_tell, cX8_tell, 2, none), (8, 2, 1), zt_168, [(32, [])])
/-- NotWhereYesterday.tellFilling([I)V -/
def zt_169 : zT := [zev32 0 (.iconst 0) 1 1 0, ze0 1 (.istore_n 2) 1 2, ze0 2 (.iload_n 2) 1 3, ze0 3 (.aload_n 0) 1 4, zex 4 (.getfield 10) 3 7 8 0 2, zex 7 (.getfield 90) 3 10 1 1 0,
  zex 10 (.if_icmp .ge 16) 3 13 26 0 0, ze0 13 (.aload_n 0) 1 14, ze0 14 (.aload_n 1) 1 15, ze0 15 (.iload_n 2) 1 16, ze0 16 .iaload 1 17, zcal 17 (.invokevirtual 173) 3 20 168 2 1 8,
  zev32 20 (.iinc 2 1) 3 23 1, zex 23 (.goto (-21)) 3 26 2 0 0, ze0 26 .return_ 1 27]
def zm_169 : zMi := ((yX8_tellFilling, cX8_tellFilling, 3, none), (8, 2, 2), zt_169, [(2, [0, 1, 2])])
/-- NotWhereYesterdayModel.thrown()I -/
def zt_170 : zT := [ze0 0 (.aload_n 0) 1 1, zex 1 (.getfield 3) 3 4 9 0 0, ze0 4 .ireturn 1 5]
def zm_170 : zMi := ((yX9_thrown, cX9_thrown, 1, (some .int)), (9, 1, 1), zt_170, [])
/-- NotWhereYesterdayModel.in(JJJ)Z -/
def zt_171 : zT := [ze0 0 (.lload_n 0) 1 1, ze0 1 (.lload_n 2) 1 2, ze0 2 .lcmp 1 3, zex 3 (.ifCond .lt 14) 3 6 17 0 0, ze0 6 (.lload_n 0) 1 7, ze0 7 (.lload 4) 2 9,
  ze0 9 .lcmp 1 10, zex 10 (.ifCond .gt 7) 3 13 17 0 0, zev32 13 (.iconst 1) 1 14 1, zex 14 (.goto 4) 3 17 18 0 0, zev32 17 (.iconst 0) 1 18 0, ze0 18 .ireturn 1 19]
def zm_171 : zMi := ((yX9_in, cX9_in, 6, (some .boolean)), (9, 3, 1), zt_171, [(17, []), (18, [])])
/-- NotWhereYesterdayModel.has(II)Z -/
def zt_172 : zT := [ze0 0 (.iload_n 0) 1 1, ze0 1 (.iload_n 1) 1 2, ze0 2 .ishr 1 3, zev32 3 (.iconst 1) 1 4 1, ze0 4 .iand 1 5, zev32 5 (.iconst 1) 1 6 1,
  zex 6 (.if_icmp .ne 7) 3 9 13 0 0, zev32 9 (.iconst 1) 1 10 1, zex 10 (.goto 4) 3 13 14 0 0, zev32 13 (.iconst 0) 1 14 0, ze0 14 .ireturn 1 15]
def zm_172 : zMi := ((yX9_has, cX9_has, 2, (some .boolean)), (9, 2, 1), zt_172, [(14, [])])
/-- NotWhereYesterdayModel.flag(Z)I -/
def zt_173 : zT := [ze0 0 (.iload_n 0) 1 1, zex 1 (.ifCond .eq 7) 3 4 8 0 0, zev32 4 (.iconst 1) 1 5 1, zex 5 (.goto 4) 3 8 9 0 0, zev32 8 (.iconst 0) 1 9 0, ze0 9 .ireturn 1 10]
def zm_173 : zMi := ((yX9_flag, cX9_flag, 1, (some .int)), (9, 1, 1), zt_173, [(9, [])])
/-- NotWhereYesterdayModel.enters(I)V -/
def zt_174 : zT := [ze0 0 (.aload_n 0) 1 1, zex 1 (.getfield 7) 3 4 9 2 2, ze0 4 (.aload_n 0) 1 5, zex 5 (.getfield 11) 3 8 9 1 0, ze0 8 (.iload_n 1) 1 9, ze0 9 .iastore 1 10,
  ze0 10 (.aload_n 0) 1 11, ze0 11 .dup 1 12, zex 12 (.getfield 11) 3 15 9 1 0, zev32 15 (.iconst 1) 1 16 1, ze0 16 .iadd 1 17, zex 17 (.putfield 11) 3 20 9 1 0,
  ze0 20 .return_ 1 21]
def zm_174 : zMi := ((yX9_enters, cX9_enters, 2, none), (9, 2, 1), zt_174, [])
/-- NotWhereYesterdayModel.person(II)I -/
def zt_175 : zT := [ze0 0 (.aload_n 0) 1 1, zev32 1 (.iconst 0) 1 2 0, zex 2 (.putfield 3) 3 5 9 0 0, ze0 5 (.iload_n 1) 1 6, ze0 6 .i2l 1 7, zev64 7 (.lconst 0) 1 8 0,
  zev64 8 (.ldc2_w 14) 3 11 63, zcal 11 (.invokestatic 16) 3 14 171 3 0 9, zex 14 (.ifCond .eq 24) 3 17 38 0 0, ze0 17 (.iload_n 2) 1 18, ze0 18 .i2l 1 19, zev64 19 (.lconst 1) 1 20 1,
  zev64 20 (.ldc2_w 20) 3 23 9, zcal 23 (.invokestatic 16) 3 26 171 3 0 9, zex 26 (.ifCond .eq 12) 3 29 38 0 0, ze0 29 (.aload_n 0) 1 30, zex 30 (.getfield 22) 3 33 9 3 0, zev32 33 (.bipush 10) 2 35 10,
  zex 35 (.if_icmp .ne 5) 3 38 40 0 0, zev32 38 (.iconst (-1)) 1 39 (-1), ze0 39 .ireturn 1 40, ze0 40 (.aload_n 0) 1 41, zex 41 (.getfield 25) 3 44 9 4 2, ze0 44 (.aload_n 0) 1 45,
  zex 45 (.getfield 22) 3 48 9 3 0, ze0 48 (.iload_n 1) 1 49, ze0 49 .iastore 1 50, ze0 50 (.aload_n 0) 1 51, zex 51 (.getfield 28) 3 54 9 5 2, ze0 54 (.aload_n 0) 1 55,
  zex 55 (.getfield 22) 3 58 9 3 0, ze0 58 (.iload_n 2) 1 59, ze0 59 .iastore 1 60, ze0 60 (.aload_n 0) 1 61, ze0 61 .dup 1 62, zex 62 (.getfield 22) 3 65 9 3 0,
  zev32 65 (.iconst 1) 1 66 1, ze0 66 .iadd 1 67, zex 67 (.putfield 22) 3 70 9 3 0, ze0 70 (.aload_n 0) 1 71, zex 71 (.getfield 22) 3 74 9 3 0, zev32 74 (.iconst 1) 1 75 1,
  ze0 75 .isub 1 76, ze0 76 .ireturn 1 77]
def zm_175 : zMi := ((yX9_person, cX9_person, 3, (some .int)), (9, 3, 2), zt_175, [(38, [])])
/-- NotWhereYesterdayModel.post(IZII)I -/
def zt_176 : zT := [ze0 0 (.aload_n 0) 1 1, zev32 1 (.iconst 0) 1 2 0, zex 2 (.putfield 3) 3 5 9 0 0, ze0 5 (.iload_n 1) 1 6, ze0 6 .i2l 1 7, zev64 7 (.ldc2_w 31) 3 10 (-1),
  zev64 10 (.ldc2_w 33) 3 13 5, zcal 13 (.invokestatic 16) 3 16 171 3 0 9, zex 16 (.ifCond .eq 37) 3 19 53 0 0, ze0 19 (.iload_n 3) 1 20, ze0 20 .i2l 1 21, zev64 21 (.lconst 1) 1 22 1,
  zev64 22 (.ldc2_w 20) 3 25 9, zcal 25 (.invokestatic 16) 3 28 171 3 0 9, zex 28 (.ifCond .eq 25) 3 31 53 0 0, ze0 31 (.iload 4) 2 33, ze0 33 .i2l 1 34, zev64 34 (.lconst 0) 1 35 0,
  zev64 35 (.ldc2_w 35) 3 38 10, zcal 38 (.invokestatic 16) 3 41 171 3 0 9, zex 41 (.ifCond .eq 12) 3 44 53 0 0, ze0 44 (.aload_n 0) 1 45, zex 45 (.getfield 37) 3 48 9 7 0, zev32 48 (.bipush 10) 2 50 10,
  zex 50 (.if_icmp .ne 5) 3 53 55 0 0, zev32 53 (.iconst (-1)) 1 54 (-1), ze0 54 .ireturn 1 55, ze0 55 (.aload_n 0) 1 56, zex 56 (.getfield 40) 3 59 9 8 2, ze0 59 (.aload_n 0) 1 60,
  zex 60 (.getfield 37) 3 63 9 7 0, ze0 63 (.iload_n 1) 1 64, ze0 64 .iastore 1 65, ze0 65 (.aload_n 0) 1 66, zex 66 (.getfield 43) 3 69 9 9 2, ze0 69 (.aload_n 0) 1 70,
  zex 70 (.getfield 37) 3 73 9 7 0, ze0 73 (.iload_n 2) 1 74, ze0 74 .bastore 1 75, ze0 75 (.aload_n 0) 1 76, zex 76 (.getfield 47) 3 79 9 10 2, ze0 79 (.aload_n 0) 1 80,
  zex 80 (.getfield 37) 3 83 9 7 0, ze0 83 (.iload_n 3) 1 84, ze0 84 .iastore 1 85, ze0 85 (.aload_n 0) 1 86, zex 86 (.getfield 50) 3 89 9 11 2, ze0 89 (.aload_n 0) 1 90,
  zex 90 (.getfield 37) 3 93 9 7 0, ze0 93 (.iload 4) 2 95, ze0 95 .iastore 1 96, ze0 96 (.aload_n 0) 1 97, zex 97 (.getfield 53) 3 100 9 14 2, ze0 100 (.aload_n 0) 1 101,
  zex 101 (.getfield 37) 3 104 9 7 0, zev32 104 (.iconst (-1)) 1 105 (-1), ze0 105 .iastore 1 106, zev32 106 (.iconst 0) 1 107 0, ze0 107 (.istore 5) 2 109, ze0 109 (.iload 5) 2 111,
  zev32 111 (.bipush 64) 2 113 64, zex 113 (.if_icmp .ge 25) 3 116 138 0 0, ze0 116 (.aload_n 0) 1 117, zex 117 (.getfield 56) 3 120 9 16 2, zev32 120 (.bipush 10) 2 122 10, ze0 122 (.iload 5) 2 124,
  ze0 124 .imul 1 125, ze0 125 (.aload_n 0) 1 126, zex 126 (.getfield 37) 3 129 9 7 0, ze0 129 .iadd 1 130, zev32 130 (.iconst (-1)) 1 131 (-1), ze0 131 .iastore 1 132,
  zev32 132 (.iinc 5 1) 3 135 1, zex 135 (.goto (-26)) 3 138 109 0 0, ze0 138 (.aload_n 0) 1 139, ze0 139 .dup 1 140, zex 140 (.getfield 37) 3 143 9 7 0, zev32 143 (.iconst 1) 1 144 1,
  ze0 144 .iadd 1 145, zex 145 (.putfield 37) 3 148 9 7 0, ze0 148 (.aload_n 0) 1 149, zex 149 (.getfield 37) 3 152 9 7 0, zev32 152 (.iconst 1) 1 153 1, ze0 153 .isub 1 154,
  ze0 154 .ireturn 1 155]
def zm_176 : zMi := ((yX9_post, cX9_post, 6, (some .int)), (9, 5, 2), zt_176, [(53, []), (109, [0, 5])])
/-- NotWhereYesterdayModel.isPerson(I)Z -/
def zt_177 : zT := [ze0 0 (.iload_n 1) 1 1, ze0 1 .i2l 1 2, zev64 2 (.lconst 0) 1 3 0, ze0 3 (.aload_n 0) 1 4, zex 4 (.getfield 22) 3 7 9 3 0, zev32 7 (.iconst 1) 1 8 1,
  ze0 8 .isub 1 9, ze0 9 .i2l 1 10, zcal 10 (.invokestatic 16) 3 13 171 3 0 9, ze0 13 .ireturn 1 14]
def zm_177 : zMi := ((yX9_isPerson, cX9_isPerson, 2, (some .boolean)), (9, 2, 2), zt_177, [])
/-- NotWhereYesterdayModel.isPost(I)Z -/
def zt_178 : zT := [ze0 0 (.iload_n 1) 1 1, ze0 1 .i2l 1 2, zev64 2 (.lconst 0) 1 3 0, ze0 3 (.aload_n 0) 1 4, zex 4 (.getfield 37) 3 7 9 7 0, zev32 7 (.iconst 1) 1 8 1,
  ze0 8 .isub 1 9, ze0 9 .i2l 1 10, zcal 10 (.invokestatic 16) 3 13 171 3 0 9, ze0 13 .ireturn 1 14]
def zm_178 : zMi := ((yX9_isPost, cX9_isPost, 2, (some .boolean)), (9, 2, 2), zt_178, [])
/-- NotWhereYesterdayModel.sign(I)I -/
def zt_179 : zT := [ze0 0 (.aload_n 0) 1 1, zev32 1 (.iconst 0) 1 2 0, zex 2 (.putfield 3) 3 5 9 0 0, ze0 5 (.aload_n 0) 1 6, zex 6 (.getfield 59) 3 9 9 34 0, zev32 9 (.bipush 76) 2 11 76,
  zex 11 (.if_icmp .le 5) 3 14 16 0 0, zev32 14 (.iconst (-1)) 1 15 (-1), ze0 15 .ireturn 1 16, zev32 16 (.iconst 0) 1 17 0, ze0 17 (.istore_n 2) 1 18, ze0 18 (.iload_n 2) 1 19,
  zev32 19 (.iconst 4) 1 20 4, zex 20 (.if_icmp .ge 33) 3 23 53 0 0, ze0 23 (.aload_n 0) 1 24, zex 24 (.getfield 62) 3 27 9 33 2, ze0 27 (.aload_n 0) 1 28, zex 28 (.getfield 59) 3 31 9 34 0,
  ze0 31 (.iload_n 2) 1 32, ze0 32 .iadd 1 33, ze0 33 (.iload_n 1) 1 34, zev32 34 (.bipush 24) 2 36 24, zev32 36 (.bipush 8) 2 38 8, ze0 38 (.iload_n 2) 1 39,
  ze0 39 .imul 1 40, ze0 40 .isub 1 41, ze0 41 .ishr 1 42, zev32 42 (.sipush 255) 3 45 255, ze0 45 .iand 1 46, ze0 46 .iastore 1 47,
  zev32 47 (.iinc 2 1) 3 50 1, zex 50 (.goto (-32)) 3 53 18 0 0, ze0 53 (.aload_n 0) 1 54, ze0 54 .dup 1 55, zex 55 (.getfield 59) 3 58 9 34 0, zev32 58 (.iconst 4) 1 59 4,
  ze0 59 .iadd 1 60, zex 60 (.putfield 59) 3 63 9 34 0, ze0 63 (.aload_n 0) 1 64, zex 64 (.getfield 59) 3 67 9 34 0, ze0 67 .ireturn 1 68]
def zm_179 : zMi := ((yX9_sign, cX9_sign, 3, (some .int)), (9, 2, 1), zt_179, [(18, [0, 1, 2])])
/-- NotWhereYesterdayModel.end(I)Z -/
def zt_180 : zT := [ze0 0 (.aload_n 0) 1 1, zev32 1 (.iconst 0) 1 2 0, zex 2 (.putfield 3) 3 5 9 0 0, ze0 5 (.iload_n 1) 1 6, ze0 6 .i2l 1 7, zev64 7 (.lconst 0) 1 8 0,
  ze0 8 (.aload_n 0) 1 9, zex 9 (.getfield 59) 3 12 9 34 0, ze0 12 .i2l 1 13, zcal 13 (.invokestatic 16) 3 16 171 3 0 9, zex 16 (.ifCond .ne 5) 3 19 21 0 0, zev32 19 (.iconst 0) 1 20 0,
  ze0 20 .ireturn 1 21, ze0 21 (.aload_n 0) 1 22, ze0 22 (.iload_n 1) 1 23, zex 23 (.putfield 59) 3 26 9 34 0, zev32 26 (.iconst 1) 1 27 1, ze0 27 .ireturn 1 28]
def zm_180 : zMi := ((yX9_end, cX9_end, 2, (some .boolean)), (9, 2, 2), zt_180, [])
/-- NotWhereYesterdayModel.takes(I)Z -/
def zt_181 : zT := [ze0 0 (.aload_n 0) 1 1, zex 1 (.getfield 65) 3 4 9 35 0, ze0 4 (.aload_n 0) 1 5, zex 5 (.getfield 68) 3 8 9 36 0, zex 8 (.if_icmp .ge 20) 3 11 28 0 0, ze0 11 (.aload_n 0) 1 12,
  zex 12 (.getfield 62) 3 15 9 33 2, ze0 15 (.aload_n 0) 1 16, zex 16 (.getfield 65) 3 19 9 35 0, ze0 19 .iaload 1 20, ze0 20 (.iload_n 1) 1 21, zex 21 (.if_icmp .ne 7) 3 24 28 0 0,
  zev32 24 (.iconst 1) 1 25 1, zex 25 (.goto 4) 3 28 29 0 0, zev32 28 (.iconst 0) 1 29 0, ze0 29 (.istore_n 2) 1 30, ze0 30 (.aload_n 0) 1 31, ze0 31 .dup 1 32,
  zex 32 (.getfield 65) 3 35 9 35 0, ze0 35 (.iload_n 2) 1 36, zcal 36 (.invokestatic 71) 3 39 173 1 0 9, ze0 39 .iadd 1 40, zex 40 (.putfield 65) 3 43 9 35 0, ze0 43 (.iload_n 2) 1 44,
  ze0 44 .ireturn 1 45]
def zm_181 : zMi := ((yX9_takes, cX9_takes, 3, (some .boolean)), (9, 2, 2), zt_181, [(28, [0]), (29, [0])])
/-- NotWhereYesterdayModel.isDigit()Z -/
def zt_182 : zT := [ze0 0 (.aload_n 0) 1 1, zex 1 (.getfield 65) 3 4 9 35 0, ze0 4 (.aload_n 0) 1 5, zex 5 (.getfield 68) 3 8 9 36 0, zex 8 (.if_icmp .ge 29) 3 11 37 0 0, ze0 11 (.aload_n 0) 1 12,
  zex 12 (.getfield 62) 3 15 9 33 2, ze0 15 (.aload_n 0) 1 16, zex 16 (.getfield 65) 3 19 9 35 0, ze0 19 .iaload 1 20, ze0 20 .i2l 1 21, zev64 21 (.ldc2_w 75) 3 24 48,
  zev64 24 (.ldc2_w 77) 3 27 57, zcal 27 (.invokestatic 16) 3 30 171 3 0 9, zex 30 (.ifCond .eq 7) 3 33 37 0 0, zev32 33 (.iconst 1) 1 34 1, zex 34 (.goto 4) 3 37 38 0 0, zev32 37 (.iconst 0) 1 38 0,
  ze0 38 .ireturn 1 39]
def zm_182 : zMi := ((yX9_isDigit, cX9_isDigit, 1, (some .boolean)), (9, 1, 2), zt_182, [(37, []), (38, [])])
/-- NotWhereYesterdayModel.digit()I -/
def zt_183 : zT := [ze0 0 (.aload_n 0) 1 1, zcal 1 (.invokevirtual 79) 3 4 182 1 0 9, zex 4 (.ifCond .ne 5) 3 7 9 0 0, zev32 7 (.iconst (-1)) 1 8 (-1), ze0 8 .ireturn 1 9, ze0 9 (.aload_n 0) 1 10,
  ze0 10 .dup 1 11, zex 11 (.getfield 65) 3 14 9 35 0, zev32 14 (.iconst 1) 1 15 1, ze0 15 .iadd 1 16, zex 16 (.putfield 65) 3 19 9 35 0, ze0 19 (.aload_n 0) 1 20,
  zex 20 (.getfield 62) 3 23 9 33 2, ze0 23 (.aload_n 0) 1 24, zex 24 (.getfield 65) 3 27 9 35 0, zev32 27 (.iconst 1) 1 28 1, ze0 28 .isub 1 29, ze0 29 .iaload 1 30,
  zev32 30 (.bipush 48) 2 32 48, ze0 32 .isub 1 33, ze0 33 .ireturn 1 34]
def zm_183 : zMi := ((yX9_digit, cX9_digit, 1, (some .int)), (9, 1, 3), zt_183, [])
/-- NotWhereYesterdayModel.dayFrom(I)I -/
def zt_184 : zT := [ze0 0 (.aload_n 0) 1 1, zcal 1 (.invokevirtual 83) 3 4 183 1 0 9, ze0 4 (.istore_n 2) 1 5, ze0 5 (.iload_n 2) 1 6, zex 6 (.ifCond .ge 5) 3 9 11 0 0, zev32 9 (.iconst (-1)) 1 10 (-1),
  ze0 10 .ireturn 1 11, ze0 11 (.aload_n 0) 1 12, zcal 12 (.invokevirtual 79) 3 15 182 1 0 9, zex 15 (.ifCond .eq 15) 3 18 30 0 0, zev32 18 (.bipush 10) 2 20 10, ze0 20 (.iload_n 2) 1 21,
  ze0 21 .imul 1 22, ze0 22 (.aload_n 0) 1 23, zcal 23 (.invokevirtual 83) 3 26 183 1 0 9, ze0 26 .iadd 1 27, zex 27 (.goto 4) 3 30 31 0 0, ze0 30 (.iload_n 2) 1 31,
  ze0 31 (.istore_n 2) 1 32, ze0 32 (.iload_n 2) 1 33, ze0 33 (.iload_n 1) 1 34, zex 34 (.if_icmp .ge 15) 3 37 49 0 0, ze0 37 (.aload_n 0) 1 38, ze0 38 .dup 1 39,
  zex 39 (.getfield 65) 3 42 9 35 0, zev32 42 (.iconst 1) 1 43 1, ze0 43 .isub 1 44, zex 44 (.putfield 65) 3 47 9 35 0, zev32 47 (.iconst (-1)) 1 48 (-1), ze0 48 .ireturn 1 49,
  ze0 49 (.iload_n 2) 1 50, ze0 50 .ireturn 1 51]
def zm_184 : zMi := ((yX9_dayFrom, cX9_dayFrom, 3, (some .int)), (9, 2, 4), zt_184, [(31, [0, 1])])
/-- NotWhereYesterdayModel.readsAway()Z -/
def zt_185 : zT := [ze0 0 (.aload_n 0) 1 1, zcal 1 (.invokevirtual 83) 3 4 183 1 0 9, ze0 4 (.istore_n 1) 1 5, ze0 5 (.iload_n 1) 1 6, zex 6 (.ifCond .lt 12) 3 9 18 0 0, ze0 9 (.aload_n 0) 1 10,
  zev32 10 (.bipush 44) 2 12 44, zcal 12 (.invokevirtual 87) 3 15 181 2 0 9, zex 15 (.ifCond .ne 5) 3 18 20 0 0, zev32 18 (.iconst 0) 1 19 0, ze0 19 .ireturn 1 20, ze0 20 (.aload_n 0) 1 21,
  zev32 21 (.iconst 0) 1 22 0, zcal 22 (.invokevirtual 91) 3 25 184 2 0 9, ze0 25 (.istore_n 2) 1 26, ze0 26 (.iload_n 2) 1 27, zex 27 (.ifCond .lt 12) 3 30 39 0 0, ze0 30 (.aload_n 0) 1 31,
  zev32 31 (.bipush 45) 2 33 45, zcal 33 (.invokevirtual 87) 3 36 181 2 0 9, zex 36 (.ifCond .ne 5) 3 39 41 0 0, zev32 39 (.iconst 0) 1 40 0, ze0 40 .ireturn 1 41, ze0 41 (.aload_n 0) 1 42,
  ze0 42 (.iload_n 2) 1 43, zcal 43 (.invokevirtual 91) 3 46 184 2 0 9, ze0 46 (.istore_n 3) 1 47, ze0 47 (.iload_n 3) 1 48, zex 48 (.ifCond .ge 5) 3 51 53 0 0, zev32 51 (.iconst 0) 1 52 0,
  ze0 52 .ireturn 1 53, ze0 53 (.aload_n 0) 1 54, zex 54 (.getfield 95) 3 57 9 30 2, ze0 57 (.aload_n 0) 1 58, zex 58 (.getfield 98) 3 61 9 29 0, ze0 61 (.iload_n 1) 1 62,
  ze0 62 .iastore 1 63, ze0 63 (.aload_n 0) 1 64, zex 64 (.getfield 101) 3 67 9 31 2, ze0 67 (.aload_n 0) 1 68, zex 68 (.getfield 98) 3 71 9 29 0, ze0 71 (.iload_n 2) 1 72,
  ze0 72 .iastore 1 73, ze0 73 (.aload_n 0) 1 74, zex 74 (.getfield 104) 3 77 9 32 2, ze0 77 (.aload_n 0) 1 78, zex 78 (.getfield 98) 3 81 9 29 0, ze0 81 (.iload_n 3) 1 82,
  ze0 82 .iastore 1 83, ze0 83 (.aload_n 0) 1 84, ze0 84 .dup 1 85, zex 85 (.getfield 98) 3 88 9 29 0, zev32 88 (.iconst 1) 1 89 1, ze0 89 .iadd 1 90,
  zex 90 (.putfield 98) 3 93 9 29 0, zev32 93 (.iconst 1) 1 94 1, ze0 94 .ireturn 1 95]
def zm_185 : zMi := ((yX9_readsAway, cX9_readsAway, 4, (some .boolean)), (9, 1, 5), zt_185, [(18, []), (39, [])])
/-- NotWhereYesterdayModel.readsLine()Z -/
def zt_186 : zT := [ze0 0 (.aload_n 0) 1 1, zev32 1 (.bipush 97) 2 3 97, zcal 3 (.invokevirtual 87) 3 6 181 2 0 9, zex 6 (.ifCond .eq 8) 3 9 14 0 0, ze0 9 (.aload_n 0) 1 10, zcal 10 (.invokevirtual 107) 3 13 185 1 0 9,
  ze0 13 .ireturn 1 14, ze0 14 (.aload_n 0) 1 15, zev32 15 (.bipush 120) 2 17 120, zcal 17 (.invokevirtual 87) 3 20 181 2 0 9, zex 20 (.ifCond .eq 58) 3 23 78 0 0, ze0 23 (.aload_n 0) 1 24,
  zcal 24 (.invokevirtual 83) 3 27 183 1 0 9, ze0 27 (.istore_n 1) 1 28, ze0 28 (.iload_n 1) 1 29, zex 29 (.ifCond .lt 12) 3 32 41 0 0, ze0 32 (.aload_n 0) 1 33, zev32 33 (.bipush 45) 2 35 45,
  zcal 35 (.invokevirtual 87) 3 38 181 2 0 9, zex 38 (.ifCond .ne 5) 3 41 43 0 0, zev32 41 (.iconst 0) 1 42 0, ze0 42 .ireturn 1 43, ze0 43 (.aload_n 0) 1 44, zcal 44 (.invokevirtual 83) 3 47 183 1 0 9,
  ze0 47 (.istore_n 2) 1 48, ze0 48 (.aload_n 0) 1 49, zex 49 (.getfield 110) 3 52 9 28 2, ze0 52 (.iload_n 1) 1 53, ze0 53 .dup2 1 54, ze0 54 .iaload 1 55,
  ze0 55 (.iload_n 2) 1 56, zex 56 (.ifCond .ge 7) 3 59 63 0 0, zev32 59 (.iconst 0) 1 60 0, zex 60 (.goto 6) 3 63 66 0 0, zev32 63 (.iconst 1) 1 64 1, ze0 64 (.iload_n 2) 1 65,
  ze0 65 .ishl 1 66, ze0 66 .ior 1 67, ze0 67 .iastore 1 68, ze0 68 (.iload_n 2) 1 69, zex 69 (.ifCond .lt 7) 3 72 76 0 0, zev32 72 (.iconst 1) 1 73 1,
  zex 73 (.goto 4) 3 76 77 0 0, zev32 76 (.iconst 0) 1 77 0, ze0 77 .ireturn 1 78, ze0 78 (.aload_n 0) 1 79, zev32 79 (.bipush 119) 2 81 119, zcal 81 (.invokevirtual 87) 3 84 181 2 0 9,
  zex 84 (.ifCond .eq 7) 3 87 91 0 0, zev32 87 (.iconst 0) 1 88 0, zex 88 (.goto 30) 3 91 118 0 0, ze0 91 (.aload_n 0) 1 92, zev32 92 (.bipush 98) 2 94 98, zcal 94 (.invokevirtual 87) 3 97 181 2 0 9,
  zex 97 (.ifCond .eq 7) 3 100 104 0 0, zev32 100 (.iconst 1) 1 101 1, zex 101 (.goto 17) 3 104 118 0 0, ze0 104 (.aload_n 0) 1 105, zev32 105 (.bipush 102) 2 107 102, zcal 107 (.invokevirtual 87) 3 110 181 2 0 9,
  zex 110 (.ifCond .eq 7) 3 113 117 0 0, zev32 113 (.iconst 2) 1 114 2, zex 114 (.goto 4) 3 117 118 0 0, zev32 117 (.iconst (-1)) 1 118 (-1), ze0 118 (.istore_n 1) 1 119, ze0 119 (.iload_n 1) 1 120,
  zex 120 (.ifCond .ge 7) 3 123 127 0 0, zev32 123 (.iconst (-1)) 1 124 (-1), zex 124 (.goto 7) 3 127 131 0 0, ze0 127 (.aload_n 0) 1 128, zcal 128 (.invokevirtual 83) 3 131 183 1 0 9, ze0 131 (.istore_n 2) 1 132,
  ze0 132 (.iload_n 2) 1 133, zex 133 (.ifCond .ge 5) 3 136 138 0 0, zev32 136 (.iconst 0) 1 137 0, ze0 137 .ireturn 1 138, ze0 138 (.aload_n 0) 1 139, ze0 139 (.iload_n 1) 1 140,
  zex 140 (.ifCond .ne 7) 3 143 147 0 0, ze0 143 (.iload_n 2) 1 144, zex 144 (.goto 7) 3 147 151 0 0, ze0 147 (.aload_n 0) 1 148, zex 148 (.getfield 113) 3 151 9 25 0, zex 151 (.putfield 113) 3 154 9 25 0,
  ze0 154 (.aload_n 0) 1 155, ze0 155 (.iload_n 1) 1 156, zev32 156 (.iconst 1) 1 157 1, zex 157 (.if_icmp .ne 7) 3 160 164 0 0, ze0 160 (.iload_n 2) 1 161, zex 161 (.goto 7) 3 164 168 0 0,
  ze0 164 (.aload_n 0) 1 165, zex 165 (.getfield 116) 3 168 9 26 0, zex 168 (.putfield 116) 3 171 9 26 0, ze0 171 (.aload_n 0) 1 172, ze0 172 .dup 1 173, zex 173 (.getfield 119) 3 176 9 27 0,
  ze0 176 (.iload_n 1) 1 177, zev32 177 (.iconst 2) 1 178 2, zex 178 (.if_icmp .ne 9) 3 181 187 0 0, zev32 181 (.iconst 1) 1 182 1, ze0 182 (.iload_n 2) 1 183, ze0 183 .ishl 1 184,
  zex 184 (.goto 4) 3 187 188 0 0, zev32 187 (.iconst 0) 1 188 0, ze0 188 .ior 1 189, zex 189 (.putfield 119) 3 192 9 27 0, zev32 192 (.iconst 1) 1 193 1, ze0 193 .ireturn 1 194]
def zm_186 : zMi := ((yX9_readsLine, cX9_readsLine, 3, (some .boolean)), (9, 1, 6), zt_186, [(41, []), (66, [2]), (77, []), (118, [0]), (131, [0, 1]), (151, [0, 1, 2]), (168, [0, 1, 2]), (188, [])])
/-- NotWhereYesterdayModel.rule()I -/
def zt_187 : zT := [ze0 0 (.aload_n 0) 1 1, zev32 1 (.iconst 0) 1 2 0, zex 2 (.putfield 3) 3 5 9 0 0, ze0 5 (.aload_n 0) 1 6, zex 6 (.getfield 59) 3 9 9 34 0, ze0 9 (.istore_n 1) 1 10,
  ze0 10 (.aload_n 0) 1 11, zev32 11 (.iconst 0) 1 12 0, zex 12 (.putfield 59) 3 15 9 34 0, ze0 15 (.aload_n 0) 1 16, zev32 16 (.iconst 0) 1 17 0, zex 17 (.putfield 65) 3 20 9 35 0,
  ze0 20 (.aload_n 0) 1 21, ze0 21 (.iload_n 1) 1 22, zev32 22 (.bipush 60) 2 24 60, zcal 24 (.invokestatic 122) 3 27 0 2 9 0, zex 27 (.putfield 68) 3 30 9 36 0, ze0 30 (.aload_n 0) 1 31,
  zev32 31 (.iconst 0) 1 32 0, zex 32 (.putfield 113) 3 35 9 25 0, ze0 35 (.aload_n 0) 1 36, zev32 36 (.iconst 0) 1 37 0, zex 37 (.putfield 116) 3 40 9 26 0, ze0 40 (.aload_n 0) 1 41,
  zev32 41 (.iconst 0) 1 42 0, zex 42 (.putfield 119) 3 45 9 27 0, ze0 45 (.aload_n 0) 1 46, zev32 46 (.iconst 0) 1 47 0, zex 47 (.putfield 98) 3 50 9 29 0, zev32 50 (.iconst 0) 1 51 0,
  ze0 51 (.istore_n 2) 1 52, ze0 52 (.iload_n 2) 1 53, zev32 53 (.bipush 10) 2 55 10, zex 55 (.if_icmp .ge 16) 3 58 71 0 0, ze0 58 (.aload_n 0) 1 59, zex 59 (.getfield 110) 3 62 9 28 2,
  ze0 62 (.iload_n 2) 1 63, zev32 63 (.iconst 0) 1 64 0, ze0 64 .iastore 1 65, zev32 65 (.iinc 2 1) 3 68 1, zex 68 (.goto (-16)) 3 71 52 0 0, zev32 71 (.iconst 0) 1 72 0,
  ze0 72 (.istore_n 2) 1 73, zev32 73 (.iconst 1) 1 74 1, ze0 74 (.istore_n 3) 1 75, ze0 75 (.iload_n 1) 1 76, zex 76 (.ifCond .le 7) 3 79 83 0 0, zev32 79 (.iconst 1) 1 80 1,
  zex 80 (.goto 4) 3 83 84 0 0, zev32 83 (.iconst 0) 1 84 0, ze0 84 (.istore 4) 2 86, ze0 86 (.iload 4) 2 88, zex 88 (.ifCond .eq 34) 3 91 122 0 0, ze0 91 (.aload_n 0) 1 92,
  zcal 92 (.invokevirtual 128) 3 95 186 1 0 9, ze0 95 (.istore_n 3) 1 96, zev32 96 (.iinc 2 1) 3 99 1, ze0 99 (.iload_n 3) 1 100, zex 100 (.ifCond .eq 16) 3 103 116 0 0, ze0 103 (.aload_n 0) 1 104,
  zev32 104 (.bipush 59) 2 106 59, zcal 106 (.invokevirtual 87) 3 109 181 2 0 9, zex 109 (.ifCond .eq 7) 3 112 116 0 0, zev32 112 (.iconst 1) 1 113 1, zex 113 (.goto 4) 3 116 117 0 0, zev32 116 (.iconst 0) 1 117 0,
  ze0 117 (.istore 4) 2 119, zex 119 (.goto (-33)) 3 122 86 0 0, ze0 122 (.iload_n 3) 1 123, zex 123 (.ifCond .eq 18) 3 126 141 0 0, ze0 126 (.aload_n 0) 1 127, zex 127 (.getfield 65) 3 130 9 35 0,
  ze0 130 (.aload_n 0) 1 131, zex 131 (.getfield 68) 3 134 9 36 0, zex 134 (.if_icmp .ne 7) 3 137 141 0 0, zev32 137 (.iconst 1) 1 138 1, zex 138 (.goto 4) 3 141 142 0 0, zev32 141 (.iconst 0) 1 142 0,
  ze0 142 (.istore 5) 2 144, ze0 144 (.iload_n 1) 1 145, zev32 145 (.bipush 60) 2 147 60, zex 147 (.if_icmp .le 20) 3 150 167 0 0, ze0 150 (.iload 5) 2 152, zex 152 (.ifCond .ne 12) 3 155 164 0 0,
  ze0 155 (.aload_n 0) 1 156, zex 156 (.getfield 65) 3 159 9 35 0, zev32 159 (.bipush 60) 2 161 60, zex 161 (.if_icmp .lt 6) 3 164 167 0 0, zev32 164 (.bipush (-61)) 2 166 (-61), ze0 166 .ireturn 1 167,
  ze0 167 (.iload 5) 2 169, zex 169 (.ifCond .ne 10) 3 172 179 0 0, zev32 172 (.iconst (-1)) 1 173 (-1), ze0 173 (.aload_n 0) 1 174, zex 174 (.getfield 65) 3 177 9 35 0, ze0 177 .isub 1 178,
  ze0 178 .ireturn 1 179, ze0 179 (.aload_n 0) 1 180, ze0 180 (.aload_n 0) 1 181, zex 181 (.getfield 113) 3 184 9 25 0, zex 184 (.putfield 131) 3 187 9 17 0, ze0 187 (.aload_n 0) 1 188,
  ze0 188 (.aload_n 0) 1 189, zex 189 (.getfield 116) 3 192 9 26 0, zex 192 (.putfield 134) 3 195 9 18 0, ze0 195 (.aload_n 0) 1 196, ze0 196 (.aload_n 0) 1 197, zex 197 (.getfield 119) 3 200 9 27 0,
  zex 200 (.putfield 137) 3 203 9 19 0, ze0 203 (.aload_n 0) 1 204, ze0 204 (.aload_n 0) 1 205, zex 205 (.getfield 98) 3 208 9 29 0, zex 208 (.putfield 140) 3 211 9 21 0, zev32 211 (.iconst 0) 1 212 0,
  ze0 212 (.istore 6) 2 214, ze0 214 (.iload 6) 2 216, zev32 216 (.bipush 10) 2 218 10, zex 218 (.if_icmp .ge 23) 3 221 241 0 0, ze0 221 (.aload_n 0) 1 222, zex 222 (.getfield 143) 3 225 9 20 2,
  ze0 225 (.iload 6) 2 227, ze0 227 (.aload_n 0) 1 228, zex 228 (.getfield 110) 3 231 9 28 2, ze0 231 (.iload 6) 2 233, ze0 233 .iaload 1 234, ze0 234 .iastore 1 235,
  zev32 235 (.iinc 6 1) 3 238 1, zex 238 (.goto (-24)) 3 241 214 0 0, zev32 241 (.iconst 0) 1 242 0, ze0 242 (.istore 6) 2 244, ze0 244 (.iload 6) 2 246, zev32 246 (.bipush 10) 2 248 10,
  zex 248 (.if_icmp .ge 51) 3 251 299 0 0, ze0 251 (.aload_n 0) 1 252, zex 252 (.getfield 146) 3 255 9 22 2, ze0 255 (.iload 6) 2 257, ze0 257 (.aload_n 0) 1 258, zex 258 (.getfield 95) 3 261 9 30 2,
  ze0 261 (.iload 6) 2 263, ze0 263 .iaload 1 264, ze0 264 .iastore 1 265, ze0 265 (.aload_n 0) 1 266, zex 266 (.getfield 149) 3 269 9 23 2, ze0 269 (.iload 6) 2 271,
  ze0 271 (.aload_n 0) 1 272, zex 272 (.getfield 101) 3 275 9 31 2, ze0 275 (.iload 6) 2 277, ze0 277 .iaload 1 278, ze0 278 .iastore 1 279, ze0 279 (.aload_n 0) 1 280,
  zex 280 (.getfield 152) 3 283 9 24 2, ze0 283 (.iload 6) 2 285, ze0 285 (.aload_n 0) 1 286, zex 286 (.getfield 104) 3 289 9 32 2, ze0 289 (.iload 6) 2 291, ze0 291 .iaload 1 292,
  ze0 292 .iastore 1 293, zev32 293 (.iinc 6 1) 3 296 1, zex 296 (.goto (-52)) 3 299 244 0 0, ze0 299 (.iload_n 2) 1 300, ze0 300 .ireturn 1 301]
def zm_187 : zMi := ((yX9_rule, cX9_rule, 7, (some .int)), (9, 1, 7), zt_187, [(52, [0, 1, 2]), (84, [0, 1, 2, 3]), (86, [0, 1, 2, 3, 4]), (116, [0, 1, 2, 3]), (117, [0, 1, 2, 3]), (141, [0, 1, 2]), (142, [0, 1, 2]), (164, []), (167, [0, 2, 5]), (214, [0, 2, 6]), (244, [0, 2, 6])])
/-- NotWhereYesterdayModel.on(II)I -/
def zt_188 : zT := [ze0 0 (.aload_n 0) 1 1, zex 1 (.getfield 56) 3 4 9 16 2, zev32 4 (.bipush 10) 2 6 10, ze0 6 (.iload_n 1) 1 7, ze0 7 .imul 1 8, ze0 8 (.iload_n 2) 1 9,
  ze0 9 .iadd 1 10, ze0 10 .iaload 1 11, ze0 11 .ireturn 1 12]
def zm_188 : zMi := ((yX9_on, cX9_on, 3, (some .int)), (9, 3, 1), zt_188, [])
/-- NotWhereYesterdayModel.isAway(II)Z -/
def zt_189 : zT := [ze0 0 (.iload_n 1) 1 1, ze0 1 (.aload_n 0) 1 2, zex 2 (.getfield 155) 3 5 9 37 0, zex 5 (.if_icmp .ne 15) 3 8 20 0 0, ze0 8 (.iload_n 2) 1 9, ze0 9 (.aload_n 0) 1 10,
  zex 10 (.getfield 158) 3 13 9 15 0, zex 13 (.if_icmp .ne 7) 3 16 20 0 0, zev32 16 (.iconst 1) 1 17 1, zex 17 (.goto 4) 3 20 21 0 0, zev32 20 (.iconst 0) 1 21 0, ze0 21 (.istore_n 3) 1 22,
  zev32 22 (.iconst 0) 1 23 0, ze0 23 (.istore 4) 2 25, ze0 25 (.iload 4) 2 27, ze0 27 (.aload_n 0) 1 28, zex 28 (.getfield 140) 3 31 9 21 0, zex 31 (.if_icmp .ge 54) 3 34 85 0 0,
  ze0 34 (.iload_n 3) 1 35, zex 35 (.ifCond .ne 38) 3 38 73 0 0, ze0 38 (.aload_n 0) 1 39, zex 39 (.getfield 146) 3 42 9 22 2, ze0 42 (.iload 4) 2 44, ze0 44 .iaload 1 45,
  ze0 45 (.iload_n 1) 1 46, zex 46 (.if_icmp .ne 31) 3 49 77 0 0, ze0 49 (.iload_n 2) 1 50, ze0 50 .i2l 1 51, ze0 51 (.aload_n 0) 1 52, zex 52 (.getfield 149) 3 55 9 23 2,
  ze0 55 (.iload 4) 2 57, ze0 57 .iaload 1 58, ze0 58 .i2l 1 59, ze0 59 (.aload_n 0) 1 60, zex 60 (.getfield 152) 3 63 9 24 2, ze0 63 (.iload 4) 2 65,
  ze0 65 .iaload 1 66, ze0 66 .i2l 1 67, zcal 67 (.invokestatic 16) 3 70 171 3 0 9, zex 70 (.ifCond .eq 7) 3 73 77 0 0, zev32 73 (.iconst 1) 1 74 1, zex 74 (.goto 4) 3 77 78 0 0,
  zev32 77 (.iconst 0) 1 78 0, ze0 78 (.istore_n 3) 1 79, zev32 79 (.iinc 4 1) 3 82 1, zex 82 (.goto (-57)) 3 85 25 0 0, ze0 85 (.iload_n 3) 1 86, ze0 86 .ireturn 1 87]
def zm_189 : zMi := ((yX9_isAway, cX9_isAway, 5, (some .boolean)), (9, 3, 2), zt_189, [(20, [0, 1, 2]), (21, [0, 1, 2]), (25, [0, 1, 2, 3, 4]), (73, [0, 1, 2, 4]), (77, [0, 1, 2, 4]), (78, [0, 1, 2, 4])])
/-- NotWhereYesterdayModel.wasThere(III)Z -/
def zt_190 : zT := [zev32 0 (.iconst 0) 1 1 0, ze0 1 (.istore 4) 2 3, zev32 3 (.iconst 1) 1 4 1, ze0 4 (.istore 5) 2 6, ze0 6 (.iload 5) 2 8, ze0 8 (.aload_n 0) 1 9,
  zex 9 (.getfield 131) 3 12 9 17 0, zex 12 (.if_icmp .gt 40) 3 15 52 0 0, ze0 15 (.iload 5) 2 17, ze0 17 (.iload_n 3) 1 18, zex 18 (.if_icmp .gt 34) 3 21 52 0 0, ze0 21 (.iload 4) 2 23,
  zex 23 (.ifCond .ne 16) 3 26 39 0 0, ze0 26 (.aload_n 0) 1 27, ze0 27 (.iload_n 3) 1 28, ze0 28 (.iload 5) 2 30, ze0 30 .isub 1 31, ze0 31 (.iload_n 2) 1 32,
  zcal 32 (.invokevirtual 161) 3 35 188 3 0 9, ze0 35 (.iload_n 1) 1 36, zex 36 (.if_icmp .ne 7) 3 39 43 0 0, zev32 39 (.iconst 1) 1 40 1, zex 40 (.goto 4) 3 43 44 0 0, zev32 43 (.iconst 0) 1 44 0,
  ze0 44 (.istore 4) 2 46, zev32 46 (.iinc 5 1) 3 49 1, zex 49 (.goto (-43)) 3 52 6 0 0, ze0 52 (.iload 4) 2 54, zex 54 (.ifCond .eq 18) 3 57 72 0 0, ze0 57 (.aload_n 0) 1 58,
  zex 58 (.getfield 137) 3 61 9 19 0, ze0 61 (.iload_n 2) 1 62, zcal 62 (.invokestatic 164) 3 65 172 2 0 9, zex 65 (.ifCond .ne 7) 3 68 72 0 0, zev32 68 (.iconst 1) 1 69 1, zex 69 (.goto 4) 3 72 73 0 0,
  zev32 72 (.iconst 0) 1 73 0, ze0 73 .ireturn 1 74]
def zm_190 : zMi := ((yX9_wasThere, cX9_wasThere, 6, (some .boolean)), (9, 4, 2), zt_190, [(6, [0, 1, 2, 3, 4, 5]), (39, [0, 1, 2, 3, 5]), (44, [0, 1, 2, 3, 5]), (52, [0, 2, 4]), (72, []), (73, [])])
/-- NotWhereYesterdayModel.comesWrong(III)Z -/
def zt_191 : zT := [zev32 0 (.iconst 0) 1 1 0, ze0 1 (.istore 4) 2 3, zev32 3 (.iconst 0) 1 4 0, ze0 4 (.istore 5) 2 6, ze0 6 (.iload 5) 2 8, ze0 8 (.aload_n 0) 1 9,
  zex 9 (.getfield 37) 3 12 9 7 0, zex 12 (.if_icmp .ge 52) 3 15 64 0 0, ze0 15 (.iload_n 3) 1 16, zex 16 (.ifCond .le 48) 3 19 64 0 0, ze0 19 (.iload 4) 2 21, zex 21 (.ifCond .ne 30) 3 24 51 0 0,
  ze0 24 (.aload_n 0) 1 25, ze0 25 (.iload_n 3) 1 26, zev32 26 (.iconst 1) 1 27 1, ze0 27 .isub 1 28, ze0 28 (.iload 5) 2 30, zcal 30 (.invokevirtual 161) 3 33 188 3 0 9,
  ze0 33 (.iload_n 1) 1 34, zex 34 (.if_icmp .ne 21) 3 37 55 0 0, ze0 37 (.aload_n 0) 1 38, zex 38 (.getfield 143) 3 41 9 20 2, ze0 41 (.iload 5) 2 43, ze0 43 .iaload 1 44,
  ze0 44 (.iload_n 2) 1 45, zcal 45 (.invokestatic 164) 3 48 172 2 0 9, zex 48 (.ifCond .eq 7) 3 51 55 0 0, zev32 51 (.iconst 1) 1 52 1, zex 52 (.goto 4) 3 55 56 0 0, zev32 55 (.iconst 0) 1 56 0,
  ze0 56 (.istore 4) 2 58, zev32 58 (.iinc 5 1) 3 61 1, zex 61 (.goto (-55)) 3 64 6 0 0, ze0 64 (.iload 4) 2 66, ze0 66 .ireturn 1 67]
def zm_191 : zMi := ((yX9_comesWrong, cX9_comesWrong, 6, (some .boolean)), (9, 4, 2), zt_191, [(6, [0, 1, 2, 3, 4, 5]), (51, [0, 1, 2, 3, 5]), (55, [0, 1, 2, 3, 5]), (56, [0, 1, 2, 3, 5]), (64, [4])])
/-- NotWhereYesterdayModel.isFree(II)Z -/
def zt_192 : zT := [ze0 0 (.iload_n 2) 1 1, ze0 1 (.aload_n 0) 1 2, zex 2 (.getfield 158) 3 5 9 15 0, zex 5 (.if_icmp .ne 18) 3 8 23 0 0, ze0 8 (.aload_n 0) 1 9, zex 9 (.getfield 168) 3 12 9 38 0,
  ze0 12 (.iload_n 1) 1 13, zcal 13 (.invokestatic 164) 3 16 172 2 0 9, zex 16 (.ifCond .eq 7) 3 19 23 0 0, zev32 19 (.iconst 1) 1 20 1, zex 20 (.goto 4) 3 23 24 0 0, zev32 23 (.iconst 0) 1 24 0,
  ze0 24 .ireturn 1 25]
def zm_192 : zMi := ((yX9_isFree, cX9_isFree, 3, (some .boolean)), (9, 3, 2), zt_192, [(23, []), (24, [])])
/-- NotWhereYesterdayModel.canDo(II)Z -/
def zt_193 : zT := [ze0 0 (.aload_n 0) 1 1, zex 1 (.getfield 40) 3 4 9 8 2, ze0 4 (.iload_n 2) 1 5, ze0 5 .iaload 1 6, zex 6 (.ifCond .lt 21) 3 9 27 0 0, ze0 9 (.aload_n 0) 1 10,
  zex 10 (.getfield 25) 3 13 9 4 2, ze0 13 (.iload_n 1) 1 14, ze0 14 .iaload 1 15, ze0 15 (.aload_n 0) 1 16, zex 16 (.getfield 40) 3 19 9 8 2, ze0 19 (.iload_n 2) 1 20,
  ze0 20 .iaload 1 21, zcal 21 (.invokestatic 164) 3 24 172 2 0 9, zex 24 (.ifCond .eq 7) 3 27 31 0 0, zev32 27 (.iconst 1) 1 28 1, zex 28 (.goto 4) 3 31 32 0 0, zev32 31 (.iconst 0) 1 32 0,
  ze0 32 .ireturn 1 33]
def zm_193 : zMi := ((yX9_canDo, cX9_canDo, 3, (some .boolean)), (9, 3, 2), zt_193, [(27, []), (32, [])])
/-- NotWhereYesterdayModel.why(III)I -/
def zt_194 : zT := [ze0 0 (.aload_n 0) 1 1, ze0 1 (.iload_n 1) 1 2, ze0 2 (.iload_n 3) 1 3, zcal 3 (.invokevirtual 171) 3 6 189 3 0 9, zex 6 (.ifCond .eq 5) 3 9 11 0 0, zev32 9 (.iconst 1) 1 10 1,
  ze0 10 .ireturn 1 11, ze0 11 (.aload_n 0) 1 12, ze0 12 (.iload_n 1) 1 13, ze0 13 (.iload_n 3) 1 14, zcal 14 (.invokevirtual 174) 3 17 192 3 0 9, zex 17 (.ifCond .eq 5) 3 20 22 0 0,
  zev32 20 (.iconst 0) 1 21 0, ze0 21 .ireturn 1 22, ze0 22 (.aload_n 0) 1 23, ze0 23 (.iload_n 1) 1 24, ze0 24 (.iload_n 2) 1 25, ze0 25 (.iload_n 3) 1 26,
  zcal 26 (.invokevirtual 177) 3 29 190 4 0 9, zex 29 (.ifCond .eq 7) 3 32 36 0 0, zev32 32 (.iconst 2) 1 33 2, zex 33 (.goto 18) 3 36 51 0 0, ze0 36 (.aload_n 0) 1 37, ze0 37 (.iload_n 1) 1 38,
  ze0 38 (.iload_n 2) 1 39, ze0 39 (.iload_n 3) 1 40, zcal 40 (.invokevirtual 181) 3 43 191 4 0 9, zex 43 (.ifCond .eq 7) 3 46 50 0 0, zev32 46 (.iconst 3) 1 47 3, zex 47 (.goto 4) 3 50 51 0 0,
  zev32 50 (.iconst 0) 1 51 0, ze0 51 .ireturn 1 52]
def zm_194 : zMi := ((yX9_why, cX9_why, 4, (some .int)), (9, 4, 3), zt_194, [(51, [])])
/-- NotWhereYesterdayModel.wereBeside(III)Z -/
def zt_195 : zT := [zev32 0 (.iconst 0) 1 1 0, ze0 1 (.istore 4) 2 3, zev32 3 (.iconst 1) 1 4 1, ze0 4 (.istore 5) 2 6, ze0 6 (.iload 5) 2 8, ze0 8 (.aload_n 0) 1 9,
  zex 9 (.getfield 37) 3 12 9 7 0, zex 12 (.if_icmp .ge 65) 3 15 77 0 0, ze0 15 (.aload_n 0) 1 16, ze0 16 (.iload_n 3) 1 17, ze0 17 (.iload 5) 2 19, zev32 19 (.iconst 1) 1 20 1,
  ze0 20 .isub 1 21, zcal 21 (.invokevirtual 161) 3 24 188 3 0 9, ze0 24 (.istore 6) 2 26, ze0 26 (.aload_n 0) 1 27, ze0 27 (.iload_n 3) 1 28, ze0 28 (.iload 5) 2 30,
  zcal 30 (.invokevirtual 161) 3 33 188 3 0 9, ze0 33 (.istore 7) 2 35, ze0 35 (.iload 4) 2 37, zex 37 (.ifCond .ne 27) 3 40 64 0 0, ze0 40 (.iload 6) 2 42, ze0 42 (.iload_n 1) 1 43,
  zex 43 (.if_icmp .ne 9) 3 46 52 0 0, ze0 46 (.iload 7) 2 48, ze0 48 (.iload_n 2) 1 49, zex 49 (.if_icmp .eq 15) 3 52 64 0 0, ze0 52 (.iload 6) 2 54, ze0 54 (.iload_n 2) 1 55,
  zex 55 (.if_icmp .ne 13) 3 58 68 0 0, ze0 58 (.iload 7) 2 60, ze0 60 (.iload_n 1) 1 61, zex 61 (.if_icmp .ne 7) 3 64 68 0 0, zev32 64 (.iconst 1) 1 65 1, zex 65 (.goto 4) 3 68 69 0 0,
  zev32 68 (.iconst 0) 1 69 0, ze0 69 (.istore 4) 2 71, zev32 71 (.iinc 5 1) 3 74 1, zex 74 (.goto (-68)) 3 77 6 0 0, ze0 77 (.iload 4) 2 79, ze0 79 .ireturn 1 80]
def zm_195 : zMi := ((yX9_wereBeside, cX9_wereBeside, 8, (some .boolean)), (9, 4, 2), zt_195, [(6, [0, 1, 2, 3, 4, 5]), (52, [0, 1, 2, 3, 5, 6, 7]), (64, [0, 1, 2, 3, 5]), (68, [0, 1, 2, 3, 5]), (69, [0, 1, 2, 3, 5])])
/-- NotWhereYesterdayModel.mayBeside(III)Z -/
def zt_196 : zT := [ze0 0 (.aload_n 0) 1 1, ze0 1 (.iload_n 1) 1 2, ze0 2 (.iload_n 3) 1 3, zcal 3 (.invokevirtual 174) 3 6 192 3 0 9, zex 6 (.ifCond .ne 12) 3 9 18 0 0, ze0 9 (.aload_n 0) 1 10,
  ze0 10 (.iload_n 2) 1 11, ze0 11 (.iload_n 3) 1 12, zcal 12 (.invokevirtual 174) 3 15 192 3 0 9, zex 15 (.ifCond .eq 5) 3 18 20 0 0, zev32 18 (.iconst 1) 1 19 1, ze0 19 .ireturn 1 20,
  zev32 20 (.iconst 1) 1 21 1, ze0 21 (.istore 4) 2 23, zev32 23 (.iconst 1) 1 24 1, ze0 24 (.istore 5) 2 26, ze0 26 (.iload 5) 2 28, ze0 28 (.aload_n 0) 1 29,
  zex 29 (.getfield 134) 3 32 9 18 0, zex 32 (.if_icmp .gt 40) 3 35 72 0 0, ze0 35 (.iload 5) 2 37, ze0 37 (.iload_n 3) 1 38, zex 38 (.if_icmp .gt 34) 3 41 72 0 0, ze0 41 (.iload 4) 2 43,
  zex 43 (.ifCond .eq 20) 3 46 63 0 0, ze0 46 (.aload_n 0) 1 47, ze0 47 (.iload_n 1) 1 48, ze0 48 (.iload_n 2) 1 49, ze0 49 (.iload_n 3) 1 50, ze0 50 (.iload 5) 2 52,
  ze0 52 .isub 1 53, zcal 53 (.invokevirtual 184) 3 56 195 4 0 9, zex 56 (.ifCond .ne 7) 3 59 63 0 0, zev32 59 (.iconst 1) 1 60 1, zex 60 (.goto 4) 3 63 64 0 0, zev32 63 (.iconst 0) 1 64 0,
  ze0 64 (.istore 4) 2 66, zev32 66 (.iinc 5 1) 3 69 1, zex 69 (.goto (-43)) 3 72 26 0 0, ze0 72 (.iload 4) 2 74, ze0 74 .ireturn 1 75]
def zm_196 : zMi := ((yX9_mayBeside, cX9_mayBeside, 6, (some .boolean)), (9, 4, 3), zt_196, [(18, []), (26, [0, 1, 2, 3, 4, 5]), (63, [0, 1, 2, 3, 5]), (64, [0, 1, 2, 3, 5]), (72, [4])])
/-- NotWhereYesterdayModel.whyAt(III)I -/
def zt_197 : zT := [ze0 0 (.aload_n 0) 1 1, ze0 1 (.iload_n 1) 1 2, ze0 2 (.iload_n 2) 1 3, zcal 3 (.invokevirtual 161) 3 6 188 3 0 9, ze0 6 (.istore 4) 2 8, ze0 8 (.iload 4) 2 10,
  zex 10 (.ifCond .ge 5) 3 13 15 0 0, zev32 13 (.iconst 0) 1 14 0, ze0 14 .ireturn 1 15, ze0 15 (.aload_n 0) 1 16, ze0 16 (.iload 4) 2 18, ze0 18 (.iload_n 2) 1 19,
  ze0 19 (.iload_n 3) 1 20, zcal 20 (.invokevirtual 187) 3 23 194 4 0 9, ze0 23 (.istore 5) 2 25, ze0 25 (.iload 5) 2 27, zex 27 (.ifCond .le 6) 3 30 33 0 0, ze0 30 (.iload 5) 2 32,
  ze0 32 .ireturn 1 33, ze0 33 (.aload_n 0) 1 34, ze0 34 (.iload 4) 2 36, ze0 36 (.iload_n 2) 1 37, zcal 37 (.invokevirtual 191) 3 40 193 3 0 9, zex 40 (.ifCond .ne 5) 3 43 45 0 0,
  zev32 43 (.iconst 4) 1 44 4, ze0 44 .ireturn 1 45, ze0 45 (.iload_n 2) 1 46, zex 46 (.ifCond .ne 7) 3 49 53 0 0, zev32 49 (.iconst (-1)) 1 50 (-1), zex 50 (.goto 11) 3 53 61 0 0,
  ze0 53 (.aload_n 0) 1 54, ze0 54 (.iload_n 1) 1 55, ze0 55 (.iload_n 2) 1 56, zev32 56 (.iconst 1) 1 57 1, ze0 57 .isub 1 58, zcal 58 (.invokevirtual 161) 3 61 188 3 0 9,
  ze0 61 (.istore 6) 2 63, ze0 63 (.iload 6) 2 65, zex 65 (.ifCond .lt 19) 3 68 84 0 0, ze0 68 (.aload_n 0) 1 69, ze0 69 (.iload 6) 2 71, ze0 71 (.iload 4) 2 73,
  ze0 73 (.iload_n 3) 1 74, zcal 74 (.invokevirtual 194) 3 77 196 4 0 9, zex 77 (.ifCond .ne 7) 3 80 84 0 0, zev32 80 (.iconst 5) 1 81 5, zex 81 (.goto 4) 3 84 85 0 0, zev32 84 (.iconst 0) 1 85 0,
  ze0 85 .ireturn 1 86]
def zm_197 : zMi := ((yX9_whyAt, cX9_whyAt, 7, (some .int)), (9, 4, 4), zt_197, [(61, [0, 3, 4]), (84, []), (85, [])])
/-- NotWhereYesterdayModel.isGood(II)Z -/
def zt_198 : zT := [zev32 0 (.iconst 1) 1 1 1, ze0 1 (.istore_n 3) 1 2, zev32 2 (.iconst 0) 1 3 0, ze0 3 (.istore 4) 2 5, ze0 5 (.iload 4) 2 7, ze0 7 (.aload_n 0) 1 8,
  zex 8 (.getfield 37) 3 11 9 7 0, zex 11 (.if_icmp .ge 30) 3 14 41 0 0, ze0 14 (.iload_n 3) 1 15, zex 15 (.ifCond .eq 18) 3 18 33 0 0, ze0 18 (.aload_n 0) 1 19, ze0 19 (.iload_n 1) 1 20,
  ze0 20 (.iload 4) 2 22, ze0 22 (.iload_n 2) 1 23, zcal 23 (.invokevirtual 197) 3 26 197 4 0 9, zex 26 (.ifCond .ne 7) 3 29 33 0 0, zev32 29 (.iconst 1) 1 30 1, zex 30 (.goto 4) 3 33 34 0 0,
  zev32 33 (.iconst 0) 1 34 0, ze0 34 (.istore_n 3) 1 35, zev32 35 (.iinc 4 1) 3 38 1, zex 38 (.goto (-33)) 3 41 5 0 0, ze0 41 (.iload_n 3) 1 42, ze0 42 .ireturn 1 43]
def zm_198 : zMi := ((yX9_isGood, cX9_isGood, 5, (some .boolean)), (9, 3, 5), zt_198, [(5, [0, 1, 2, 3, 4]), (33, [0, 1, 2, 4]), (34, [0, 1, 2, 4])])
/-- NotWhereYesterdayModel.worthAt(II)I -/
def zt_199 : zT := [ze0 0 (.iload_n 2) 1 1, zex 1 (.ifCond .ge 7) 3 4 8 0 0, zev32 4 (.iconst 0) 1 5 0, zex 5 (.goto 22) 3 8 27 0 0, zev32 8 (.bipush 10) 2 10 10, ze0 10 (.aload_n 0) 1 11,
  zex 11 (.getfield 43) 3 14 9 9 2, ze0 14 (.iload_n 1) 1 15, ze0 15 .baload 1 16, zex 16 (.ifCond .eq 9) 3 19 25 0 0, zev32 19 (.sipush 1000) 3 22 1000, zex 22 (.goto 4) 3 25 26 0 0,
  zev32 25 (.iconst 0) 1 26 0, ze0 26 .iadd 1 27, ze0 27 .ireturn 1 28]
def zm_199 : zMi := ((yX9_worthAt, cX9_worthAt, 3, (some .int)), (9, 3, 1), zt_199, [(26, []), (27, [])])
/-- NotWhereYesterdayModel.worthOf(I)I -/
def zt_200 : zT := [zev32 0 (.iconst 0) 1 1 0, ze0 1 (.istore_n 2) 1 2, zev32 2 (.iconst 0) 1 3 0, ze0 3 (.istore_n 3) 1 4, ze0 4 (.iload_n 3) 1 5, ze0 5 (.aload_n 0) 1 6,
  zex 6 (.getfield 37) 3 9 9 7 0, zex 9 (.if_icmp .ge 23) 3 12 32 0 0, ze0 12 (.iload_n 2) 1 13, ze0 13 (.aload_n 0) 1 14, ze0 14 (.iload_n 3) 1 15, ze0 15 (.aload_n 0) 1 16,
  ze0 16 (.iload_n 1) 1 17, ze0 17 (.iload_n 3) 1 18, zcal 18 (.invokevirtual 161) 3 21 188 3 0 9, zcal 21 (.invokevirtual 200) 3 24 199 3 0 9, ze0 24 .iadd 1 25, ze0 25 (.istore_n 2) 1 26,
  zev32 26 (.iinc 3 1) 3 29 1, zex 29 (.goto (-25)) 3 32 4 0 0, ze0 32 (.iload_n 2) 1 33, ze0 33 .ireturn 1 34]
def zm_200 : zMi := ((yX9_worthOf, cX9_worthOf, 4, (some .int)), (9, 2, 2), zt_200, [(4, [0, 1, 2, 3])])
/-- NotWhereYesterdayModel.crafts(II)I -/
def zt_201 : zT := [ze0 0 (.aload_n 0) 1 1, zev32 1 (.iconst 0) 1 2 0, zex 2 (.putfield 3) 3 5 9 0 0, ze0 5 (.aload_n 0) 1 6, ze0 6 (.iload_n 1) 1 7, zcal 7 (.invokevirtual 203) 3 10 177 2 0 9,
  zex 10 (.ifCond .eq 17) 3 13 27 0 0, ze0 13 (.iload_n 2) 1 14, ze0 14 .i2l 1 15, zev64 15 (.ldc2_w 31) 3 18 (-1), zev64 18 (.ldc2_w 33) 3 21 5, zcal 21 (.invokestatic 16) 3 24 171 3 0 9,
  zex 24 (.ifCond .ne 5) 3 27 29 0 0, zev32 27 (.iconst (-1)) 1 28 (-1), ze0 28 .ireturn 1 29, ze0 29 (.iload_n 2) 1 30, zex 30 (.ifCond .ge 12) 3 33 42 0 0, ze0 33 (.aload_n 0) 1 34,
  zex 34 (.getfield 25) 3 37 9 4 2, ze0 37 (.iload_n 1) 1 38, ze0 38 .iaload 1 39, zex 39 (.goto 14) 3 42 53 0 0, ze0 42 (.aload_n 0) 1 43, zex 43 (.getfield 206) 3 46 9 6 2,
  zev32 46 (.bipush 6) 2 48 6, ze0 48 (.iload_n 1) 1 49, ze0 49 .imul 1 50, ze0 50 (.iload_n 2) 1 51, ze0 51 .iadd 1 52, ze0 52 .iaload 1 53,
  ze0 53 .ireturn 1 54]
def zm_201 : zMi := ((yX9_crafts, cX9_crafts, 3, (some .int)), (9, 3, 3), zt_201, [(27, []), (53, [])])
/-- NotWhereYesterdayModel.may(II)I -/
def zt_202 : zT := [ze0 0 (.aload_n 0) 1 1, zev32 1 (.iconst 0) 1 2 0, zex 2 (.putfield 3) 3 5 9 0 0, ze0 5 (.aload_n 0) 1 6, ze0 6 (.iload_n 1) 1 7, zcal 7 (.invokevirtual 203) 3 10 177 2 0 9,
  zex 10 (.ifCond .eq 35) 3 13 45 0 0, ze0 13 (.aload_n 0) 1 14, ze0 14 (.iload_n 2) 1 15, zcal 15 (.invokevirtual 209) 3 18 178 2 0 9, zex 18 (.ifCond .eq 27) 3 21 45 0 0, ze0 21 (.aload_n 0) 1 22,
  ze0 22 (.iload_n 1) 1 23, ze0 23 (.iload_n 2) 1 24, ze0 24 (.aload_n 0) 1 25, zex 25 (.getfield 158) 3 28 9 15 0, zcal 28 (.invokevirtual 187) 3 31 194 4 0 9, zex 31 (.ifCond .ne 7) 3 34 38 0 0,
  zev32 34 (.iconst 1) 1 35 1, zex 35 (.goto 4) 3 38 39 0 0, zev32 38 (.iconst 0) 1 39 0, zcal 39 (.invokestatic 71) 3 42 173 1 0 9, zex 42 (.goto 4) 3 45 46 0 0, zev32 45 (.iconst (-1)) 1 46 (-1),
  ze0 46 .ireturn 1 47]
def zm_202 : zMi := ((yX9_may, cX9_may, 3, (some .int)), (9, 3, 4), zt_202, [(39, []), (45, []), (46, [])])
/-- NotWhereYesterdayModel.beside(II)I -/
def zt_203 : zT := [ze0 0 (.aload_n 0) 1 1, zev32 1 (.iconst 0) 1 2 0, zex 2 (.putfield 3) 3 5 9 0 0, ze0 5 (.aload_n 0) 1 6, ze0 6 (.iload_n 1) 1 7, zcal 7 (.invokevirtual 203) 3 10 177 2 0 9,
  zex 10 (.ifCond .eq 32) 3 13 42 0 0, ze0 13 (.aload_n 0) 1 14, ze0 14 (.iload_n 2) 1 15, zcal 15 (.invokevirtual 203) 3 18 177 2 0 9, zex 18 (.ifCond .eq 24) 3 21 42 0 0, ze0 21 (.iload_n 1) 1 22,
  ze0 22 (.iload_n 2) 1 23, zex 23 (.if_icmp .eq 19) 3 26 42 0 0, ze0 26 (.aload_n 0) 1 27, ze0 27 (.iload_n 1) 1 28, ze0 28 (.iload_n 2) 1 29, ze0 29 (.aload_n 0) 1 30,
  zex 30 (.getfield 158) 3 33 9 15 0, zcal 33 (.invokevirtual 194) 3 36 196 4 0 9, zcal 36 (.invokestatic 71) 3 39 173 1 0 9, zex 39 (.goto 4) 3 42 43 0 0, zev32 42 (.iconst (-1)) 1 43 (-1), ze0 43 .ireturn 1 44]
def zm_203 : zMi := ((yX9_beside, cX9_beside, 3, (some .int)), (9, 3, 4), zt_203, [(42, []), (43, [])])
/-- NotWhereYesterdayModel.postOf(I)I -/
def zt_204 : zT := [zev32 0 (.iconst 0) 1 1 0, ze0 1 (.istore_n 2) 1 2, ze0 2 (.iload_n 2) 1 3, ze0 3 (.aload_n 0) 1 4, zex 4 (.getfield 37) 3 7 9 7 0, zex 7 (.if_icmp .ge 22) 3 10 29 0 0,
  ze0 10 (.aload_n 0) 1 11, zev32 11 (.bipush 63) 2 13 63, ze0 13 (.iload_n 2) 1 14, zcal 14 (.invokevirtual 161) 3 17 188 3 0 9, ze0 17 (.iload_n 1) 1 18, zex 18 (.if_icmp .ne 5) 3 21 23 0 0,
  ze0 21 (.iload_n 2) 1 22, ze0 22 .ireturn 1 23, zev32 23 (.iinc 2 1) 3 26 1, zex 26 (.goto (-24)) 3 29 2 0 0, zev32 29 (.iconst (-1)) 1 30 (-1), ze0 30 .ireturn 1 31]
def zm_204 : zMi := ((yX9_postOf, cX9_postOf, 3, (some .int)), (9, 2, 2), zt_204, [(2, [0, 1, 2])])
/-- NotWhereYesterdayModel.put(II)I -/
def zt_205 : zT := [ze0 0 (.aload_n 0) 1 1, zev32 1 (.iconst 0) 1 2 0, zex 2 (.putfield 3) 3 5 9 0 0, ze0 5 (.aload_n 0) 1 6, ze0 6 (.iload_n 1) 1 7, zcal 7 (.invokevirtual 209) 3 10 178 2 0 9,
  zex 10 (.ifCond .eq 16) 3 13 26 0 0, ze0 13 (.iload_n 2) 1 14, zev32 14 (.iconst (-1)) 1 15 (-1), zex 15 (.if_icmp .eq 14) 3 18 29 0 0, ze0 18 (.aload_n 0) 1 19, ze0 19 (.iload_n 2) 1 20,
  zcal 20 (.invokevirtual 203) 3 23 177 2 0 9, zex 23 (.ifCond .ne 6) 3 26 29 0 0, zev32 26 (.bipush (-3)) 2 28 (-3), ze0 28 .ireturn 1 29, ze0 29 (.iload_n 2) 1 30, zex 30 (.ifCond .lt 23) 3 33 53 0 0,
  ze0 33 (.aload_n 0) 1 34, ze0 34 (.iload_n 2) 1 35, zcal 35 (.invokevirtual 212) 3 38 204 2 0 9, zex 38 (.ifCond .lt 15) 3 41 53 0 0, ze0 41 (.aload_n 0) 1 42, ze0 42 (.iload_n 2) 1 43,
  zcal 43 (.invokevirtual 212) 3 46 204 2 0 9, ze0 46 (.iload_n 1) 1 47, zex 47 (.if_icmp .eq 6) 3 50 53 0 0, zev32 50 (.bipush (-2)) 2 52 (-2), ze0 52 .ireturn 1 53, ze0 53 (.aload_n 0) 1 54,
  zev32 54 (.bipush 63) 2 56 63, ze0 56 (.iload_n 1) 1 57, zcal 57 (.invokevirtual 161) 3 60 188 3 0 9, ze0 60 (.istore_n 3) 1 61, ze0 61 (.aload_n 0) 1 62, zex 62 (.getfield 56) 3 65 9 16 2,
  zev32 65 (.sipush 630) 3 68 630, ze0 68 (.iload_n 1) 1 69, ze0 69 .iadd 1 70, ze0 70 (.iload_n 2) 1 71, ze0 71 .iastore 1 72, ze0 72 (.iload_n 3) 1 73,
  ze0 73 .ireturn 1 74]
def zm_205 : zMi := ((yX9_put, cX9_put, 4, (some .int)), (9, 3, 3), zt_205, [(26, []), (29, [0, 1, 2]), (53, [0, 1, 2])])
/-- NotWhereYesterdayModel.filled()I -/
def zt_206 : zT := [zev32 0 (.iconst 0) 1 1 0, ze0 1 (.istore_n 1) 1 2, zev32 2 (.iconst 0) 1 3 0, ze0 3 (.istore_n 2) 1 4, ze0 4 (.iload_n 2) 1 5, ze0 5 (.aload_n 0) 1 6,
  zex 6 (.getfield 37) 3 9 9 7 0, zex 9 (.if_icmp .ge 30) 3 12 39 0 0, ze0 12 (.iload_n 1) 1 13, ze0 13 (.aload_n 0) 1 14, zev32 14 (.bipush 63) 2 16 63, ze0 16 (.iload_n 2) 1 17,
  zcal 17 (.invokevirtual 161) 3 20 188 3 0 9, zex 20 (.ifCond .lt 7) 3 23 27 0 0, zev32 23 (.iconst 1) 1 24 1, zex 24 (.goto 4) 3 27 28 0 0, zev32 27 (.iconst 0) 1 28 0, zcal 28 (.invokestatic 71) 3 31 173 1 0 9,
  ze0 31 .iadd 1 32, ze0 32 (.istore_n 1) 1 33, zev32 33 (.iinc 2 1) 3 36 1, zex 36 (.goto (-32)) 3 39 4 0 0, ze0 39 (.iload_n 1) 1 40, ze0 40 .ireturn 1 41]
def zm_206 : zMi := ((yX9_filled, cX9_filled, 3, (some .int)), (9, 1, 2), zt_206, [(4, [0, 1, 2]), (28, [0, 2])])
/-- NotWhereYesterdayModel.empties()V -/
def zt_207 : zT := [zev32 0 (.iconst 0) 1 1 0, ze0 1 (.istore_n 1) 1 2, ze0 2 (.iload_n 1) 1 3, ze0 3 (.aload_n 0) 1 4, zex 4 (.getfield 37) 3 7 9 7 0, zex 7 (.if_icmp .ge 20) 3 10 27 0 0,
  ze0 10 (.aload_n 0) 1 11, zex 11 (.getfield 56) 3 14 9 16 2, zev32 14 (.sipush 630) 3 17 630, ze0 17 (.iload_n 1) 1 18, ze0 18 .iadd 1 19, zev32 19 (.iconst (-1)) 1 20 (-1),
  ze0 20 .iastore 1 21, zev32 21 (.iinc 1 1) 3 24 1, zex 24 (.goto (-22)) 3 27 2 0 0, ze0 27 .return_ 1 28]
def zm_207 : zMi := ((yX9_empties, cX9_empties, 2, none), (9, 1, 1), zt_207, [(2, [0, 1])])
/-- NotWhereYesterdayModel.sheet(IIII)I -/
def zt_208 : zT := [ze0 0 (.aload_n 0) 1 1, zev32 1 (.iconst 0) 1 2 0, zex 2 (.putfield 3) 3 5 9 0 0, ze0 5 (.iload_n 1) 1 6, ze0 6 .i2l 1 7, zev64 7 (.lconst 0) 1 8 0,
  zev64 8 (.ldc2_w 215) 3 11 3, zcal 11 (.invokestatic 16) 3 14 171 3 0 9, zex 14 (.ifCond .eq 9) 3 17 23 0 0, ze0 17 (.iload_n 2) 1 18, zev32 18 (.bipush 10) 2 20 10, zex 20 (.if_icmp .le 5) 3 23 25 0 0,
  zev32 23 (.iconst (-1)) 1 24 (-1), ze0 24 .ireturn 1 25, ze0 25 (.iload_n 1) 1 26, zev32 26 (.iconst 3) 1 27 3, zex 27 (.if_icmp .eq 10) 3 30 37 0 0, ze0 30 (.iload_n 2) 1 31,
  zex 31 (.ifCond .ge 6) 3 34 37 0 0, zev32 34 (.bipush (-2)) 2 36 (-2), ze0 36 .ireturn 1 37, ze0 37 (.aload_n 0) 1 38, zcal 38 (.invokevirtual 217) 3 41 207 1 1 9, ze0 41 (.iload_n 3) 1 42,
  ze0 42 (.istore 5) 2 44, zev32 44 (.iconst 0) 1 45 0, ze0 45 (.istore 6) 2 47, ze0 47 (.iload 6) 2 49, ze0 49 (.aload_n 0) 1 50, zex 50 (.getfield 37) 3 53 9 7 0,
  zex 53 (.if_icmp .ge 87) 3 56 140 0 0, ze0 56 (.iload 6) 2 58, ze0 58 (.iload_n 2) 1 59, zex 59 (.if_icmp .ge 81) 3 62 140 0 0, ze0 62 (.iload_n 1) 1 63, zev32 63 (.iconst 3) 1 64 3,
  zex 64 (.if_icmp .eq 76) 3 67 140 0 0, ze0 67 (.iload_n 1) 1 68, zex 68 (.ifCond .ne 9) 3 71 77 0 0, ze0 71 (.iload 5) 2 73, ze0 73 .i2b 1 74, zex 74 (.goto 16) 3 77 90 0 0,
  ze0 77 (.iload_n 1) 1 78, zev32 78 (.iconst 1) 1 79 1, zex 79 (.if_icmp .ne 9) 3 82 88 0 0, ze0 82 (.iload 5) 2 84, ze0 84 .i2s 1 85, zex 85 (.goto 5) 3 88 90 0 0,
  ze0 88 (.iload 5) 2 90, ze0 90 (.istore 7) 2 92, ze0 92 (.aload_n 0) 1 93, zex 93 (.getfield 56) 3 96 9 16 2, zev32 96 (.sipush 630) 3 99 630, ze0 99 (.iload 6) 2 101,
  ze0 101 .iadd 1 102, ze0 102 (.aload_n 0) 1 103, ze0 103 (.iload 7) 2 105, zcal 105 (.invokevirtual 203) 3 108 177 2 0 9, zex 108 (.ifCond .eq 17) 3 111 125 0 0, ze0 111 (.aload_n 0) 1 112,
  ze0 112 (.iload 7) 2 114, zcal 114 (.invokevirtual 212) 3 117 204 2 0 9, zex 117 (.ifCond .ge 8) 3 120 125 0 0, ze0 120 (.iload 7) 2 122, zex 122 (.goto 4) 3 125 126 0 0, zev32 125 (.iconst (-1)) 1 126 (-1),
  ze0 126 .iastore 1 127, ze0 127 (.iload 5) 2 129, ze0 129 (.iload 4) 2 131, ze0 131 .iadd 1 132, ze0 132 (.istore 5) 2 134, zev32 134 (.iinc 6 1) 3 137 1,
  zex 137 (.goto (-90)) 3 140 47 0 0, ze0 140 (.aload_n 0) 1 141, zcal 141 (.invokevirtual 221) 3 144 206 1 0 9, ze0 144 .ireturn 1 145]
def zm_208 : zMi := ((yX9_sheet, cX9_sheet, 8, (some .int)), (9, 5, 3), zt_208, [(23, []), (37, [0, 1, 2, 3, 4]), (47, [0, 1, 2, 4, 5, 6]), (90, [0, 1, 2, 4, 5, 6]), (125, [0, 1, 2, 4, 5, 6]), (126, [0, 1, 2, 4, 5, 6]), (140, [0])])
/-- NotWhereYesterdayModel.good()I -/
def zt_209 : zT := [ze0 0 (.aload_n 0) 1 1, zev32 1 (.iconst 0) 1 2 0, zex 2 (.putfield 3) 3 5 9 0 0, ze0 5 (.aload_n 0) 1 6, zev32 6 (.iconst 0) 1 7 0, zex 7 (.putfield 11) 3 10 9 1 0,
  ze0 10 (.aload_n 0) 1 11, ze0 11 (.aload_n 0) 1 12, zev32 12 (.bipush 63) 2 14 63, zcal 14 (.invokevirtual 224) 3 17 200 2 0 9, zcal 17 (.invokevirtual 227) 3 20 174 2 1 9, zev32 20 (.iconst 0) 1 21 0,
  ze0 21 (.istore_n 1) 1 22, ze0 22 (.iload_n 1) 1 23, ze0 23 (.aload_n 0) 1 24, zex 24 (.getfield 37) 3 27 9 7 0, zex 27 (.if_icmp .ge 24) 3 30 51 0 0, ze0 30 (.aload_n 0) 1 31,
  ze0 31 (.aload_n 0) 1 32, zev32 32 (.bipush 63) 2 34 63, ze0 34 (.iload_n 1) 1 35, ze0 35 (.aload_n 0) 1 36, zex 36 (.getfield 158) 3 39 9 15 0, zcal 39 (.invokevirtual 197) 3 42 197 4 0 9,
  zcal 42 (.invokevirtual 227) 3 45 174 2 1 9, zev32 45 (.iinc 1 1) 3 48 1, zex 48 (.goto (-26)) 3 51 22 0 0, ze0 51 (.aload_n 0) 1 52, zev32 52 (.bipush 63) 2 54 63, ze0 54 (.aload_n 0) 1 55,
  zex 55 (.getfield 158) 3 58 9 15 0, zcal 58 (.invokevirtual 231) 3 61 198 3 0 9, zcal 61 (.invokestatic 71) 3 64 173 1 0 9, ze0 64 .ireturn 1 65]
def zm_209 : zMi := ((yX9_good, cX9_good, 2, (some .int)), (9, 1, 6), zt_209, [(22, [0, 1])])
/-- NotWhereYesterdayModel.worksOn(II)V -/
def zt_210 : zT := [ze0 0 (.aload_n 0) 1 1, ze0 1 (.iload_n 2) 1 2, ze0 2 (.iload_n 1) 1 3, zcal 3 (.invokevirtual 191) 3 6 193 3 0 9, zex 6 (.ifCond .ne 65) 3 9 71 0 0, zev32 9 (.bipush 6) 2 11 6,
  ze0 11 (.iload_n 2) 1 12, ze0 12 .imul 1 13, ze0 13 (.aload_n 0) 1 14, zex 14 (.getfield 40) 3 17 9 8 2, ze0 17 (.iload_n 1) 1 18, ze0 18 .iaload 1 19,
  ze0 19 .iadd 1 20, ze0 20 (.istore_n 3) 1 21, ze0 21 (.aload_n 0) 1 22, zex 22 (.getfield 206) 3 25 9 6 2, ze0 25 (.iload_n 3) 1 26, ze0 26 .dup2 1 27,
  ze0 27 .iaload 1 28, zev32 28 (.iconst 1) 1 29 1, ze0 29 .iadd 1 30, ze0 30 .iastore 1 31, ze0 31 (.aload_n 0) 1 32, zex 32 (.getfield 206) 3 35 9 6 2,
  ze0 35 (.iload_n 3) 1 36, ze0 36 .iaload 1 37, ze0 37 (.aload_n 0) 1 38, zex 38 (.getfield 28) 3 41 9 5 2, ze0 41 (.iload_n 2) 1 42, ze0 42 .iaload 1 43,
  zex 43 (.if_icmp .ne 27) 3 46 70 0 0, ze0 46 (.aload_n 0) 1 47, zex 47 (.getfield 206) 3 50 9 6 2, ze0 50 (.iload_n 3) 1 51, zev32 51 (.iconst 0) 1 52 0, ze0 52 .iastore 1 53,
  ze0 53 (.aload_n 0) 1 54, zex 54 (.getfield 25) 3 57 9 4 2, ze0 57 (.iload_n 2) 1 58, ze0 58 .dup2 1 59, ze0 59 .iaload 1 60, zev32 60 (.iconst 1) 1 61 1,
  ze0 61 (.aload_n 0) 1 62, zex 62 (.getfield 40) 3 65 9 8 2, ze0 65 (.iload_n 1) 1 66, ze0 66 .iaload 1 67, ze0 67 .ishl 1 68, ze0 68 .ior 1 69,
  ze0 69 .iastore 1 70, ze0 70 .return_ 1 71, ze0 71 (.aload_n 0) 1 72, zex 72 (.getfield 234) 3 75 9 12 2, ze0 75 (.iload_n 1) 1 76, ze0 76 .dup2 1 77,
  ze0 77 .iaload 1 78, zev32 78 (.bipush 10) 2 80 10, ze0 80 (.aload_n 0) 1 81, zex 81 (.getfield 53) 3 84 9 14 2, ze0 84 (.iload_n 1) 1 85, ze0 85 .iaload 1 86,
  zex 86 (.ifCond .lt 22) 3 89 108 0 0, ze0 89 (.aload_n 0) 1 90, zex 90 (.getfield 53) 3 93 9 14 2, ze0 93 (.iload_n 1) 1 94, ze0 94 .iaload 1 95, ze0 95 (.iload_n 2) 1 96,
  zex 96 (.if_icmp .eq 12) 3 99 108 0 0, ze0 99 (.aload_n 0) 1 100, zex 100 (.getfield 50) 3 103 9 11 2, ze0 103 (.iload_n 1) 1 104, ze0 104 .iaload 1 105, zex 105 (.goto 4) 3 108 109 0 0,
  zev32 108 (.iconst 0) 1 109 0, ze0 109 .isub 1 110, ze0 110 .iadd 1 111, ze0 111 .iastore 1 112, ze0 112 (.aload_n 0) 1 113, zex 113 (.getfield 53) 3 116 9 14 2,
  ze0 116 (.iload_n 1) 1 117, ze0 117 (.iload_n 2) 1 118, ze0 118 .iastore 1 119, ze0 119 (.aload_n 0) 1 120, zex 120 (.getfield 234) 3 123 9 12 2, ze0 123 (.iload_n 1) 1 124,
  ze0 124 .iaload 1 125, zev32 125 (.bipush 10) 2 127 10, ze0 127 (.aload_n 0) 1 128, zex 128 (.getfield 47) 3 131 9 10 2, ze0 131 (.iload_n 1) 1 132, ze0 132 .iaload 1 133,
  ze0 133 .imul 1 134, zex 134 (.if_icmp .lt 20) 3 137 154 0 0, ze0 137 (.aload_n 0) 1 138, zex 138 (.getfield 234) 3 141 9 12 2, ze0 141 (.iload_n 1) 1 142, zev32 142 (.iconst 0) 1 143 0,
  ze0 143 .iastore 1 144, ze0 144 (.aload_n 0) 1 145, zex 145 (.getfield 237) 3 148 9 13 2, ze0 148 (.iload_n 1) 1 149, ze0 149 .dup2 1 150, ze0 150 .iaload 1 151,
  zev32 151 (.iconst 1) 1 152 1, ze0 152 .iadd 1 153, ze0 153 .iastore 1 154, ze0 154 .return_ 1 155]
def zm_210 : zMi := ((yX9_worksOn, cX9_worksOn, 4, none), (9, 3, 3), zt_210, [(70, []), (108, [0, 1, 2]), (109, [0, 1, 2]), (154, [])])
/-- NotWhereYesterdayModel.passes()V -/
def zt_211 : zT := [zev32 0 (.iconst 0) 1 1 0, ze0 1 (.istore_n 1) 1 2, ze0 2 (.iload_n 1) 1 3, ze0 3 (.aload_n 0) 1 4, zex 4 (.getfield 37) 3 7 9 7 0, zex 7 (.if_icmp .ge 42) 3 10 49 0 0,
  ze0 10 (.aload_n 0) 1 11, zev32 11 (.bipush 63) 2 13 63, ze0 13 (.iload_n 1) 1 14, zcal 14 (.invokevirtual 161) 3 17 188 3 0 9, ze0 17 (.istore_n 2) 1 18, ze0 18 (.aload_n 0) 1 19,
  zex 19 (.getfield 56) 3 22 9 16 2, zev32 22 (.bipush 10) 2 24 10, ze0 24 (.aload_n 0) 1 25, zex 25 (.getfield 158) 3 28 9 15 0, ze0 28 .imul 1 29, ze0 29 (.iload_n 1) 1 30,
  ze0 30 .iadd 1 31, ze0 31 (.iload_n 2) 1 32, ze0 32 .iastore 1 33, ze0 33 (.iload_n 2) 1 34, zex 34 (.ifCond .lt 9) 3 37 43 0 0, ze0 37 (.aload_n 0) 1 38,
  ze0 38 (.iload_n 1) 1 39, ze0 39 (.iload_n 2) 1 40, zcal 40 (.invokevirtual 240) 3 43 210 3 1 9, zev32 43 (.iinc 1 1) 3 46 1, zex 46 (.goto (-44)) 3 49 2 0 0, ze0 49 (.aload_n 0) 1 50,
  zcal 50 (.invokevirtual 217) 3 53 207 1 1 9, ze0 53 (.aload_n 0) 1 54, ze0 54 .dup 1 55, zex 55 (.getfield 158) 3 58 9 15 0, zev32 58 (.iconst 1) 1 59 1, ze0 59 .iadd 1 60,
  zex 60 (.putfield 158) 3 63 9 15 0, ze0 63 .return_ 1 64]
def zm_211 : zMi := ((yX9_passes, cX9_passes, 3, none), (9, 1, 4), zt_211, [(2, [0, 1]), (43, [0, 1])])
/-- NotWhereYesterdayModel.day()I -/
def zt_212 : zT := [ze0 0 (.aload_n 0) 1 1, zev32 1 (.iconst 0) 1 2 0, zex 2 (.putfield 3) 3 5 9 0 0, ze0 5 (.aload_n 0) 1 6, zex 6 (.getfield 158) 3 9 9 15 0, zev32 9 (.bipush 60) 2 11 60,
  zex 11 (.if_icmp .ne 5) 3 14 16 0 0, zev32 14 (.iconst (-1)) 1 15 (-1), ze0 15 .ireturn 1 16, ze0 16 (.aload_n 0) 1 17, zcal 17 (.invokevirtual 244) 3 20 211 1 1 9, ze0 20 (.aload_n 0) 1 21,
  zex 21 (.getfield 158) 3 24 9 15 0, zev32 24 (.iconst 1) 1 25 1, ze0 25 .isub 1 26, ze0 26 .ireturn 1 27]
def zm_212 : zMi := ((yX9_day, cX9_day, 1, (some .int)), (9, 1, 5), zt_212, [])
/-- NotWhereYesterdayModel.who(II)I -/
def zt_213 : zT := [ze0 0 (.aload_n 0) 1 1, zev32 1 (.iconst 0) 1 2 0, zex 2 (.putfield 3) 3 5 9 0 0, ze0 5 (.iload_n 1) 1 6, ze0 6 .i2l 1 7, zev64 7 (.lconst 0) 1 8 0,
  ze0 8 (.aload_n 0) 1 9, zex 9 (.getfield 158) 3 12 9 15 0, ze0 12 .i2l 1 13, zcal 13 (.invokestatic 16) 3 16 171 3 0 9, zex 16 (.ifCond .eq 11) 3 19 27 0 0, ze0 19 (.aload_n 0) 1 20,
  ze0 20 (.iload_n 2) 1 21, zcal 21 (.invokevirtual 209) 3 24 178 2 0 9, zex 24 (.ifCond .ne 6) 3 27 30 0 0, zev32 27 (.bipush (-2)) 2 29 (-2), ze0 29 .ireturn 1 30, ze0 30 (.aload_n 0) 1 31,
  ze0 31 (.iload_n 1) 1 32, ze0 32 (.aload_n 0) 1 33, zex 33 (.getfield 158) 3 36 9 15 0, zex 36 (.if_icmp .ne 8) 3 39 44 0 0, zev32 39 (.bipush 63) 2 41 63, zex 41 (.goto 4) 3 44 45 0 0,
  ze0 44 (.iload_n 1) 1 45, ze0 45 (.iload_n 2) 1 46, zcal 46 (.invokevirtual 161) 3 49 188 3 0 9, ze0 49 .ireturn 1 50]
def zm_213 : zMi := ((yX9_who, cX9_who, 3, (some .int)), (9, 3, 3), zt_213, [(27, []), (45, [2])])
/-- NotWhereYesterdayModel.judge(I)I -/
def zt_214 : zT := [ze0 0 (.aload_n 0) 1 1, zev32 1 (.iconst 0) 1 2 0, zex 2 (.putfield 3) 3 5 9 0 0, ze0 5 (.iload_n 1) 1 6, ze0 6 .i2l 1 7, zev64 7 (.lconst 0) 1 8 0,
  ze0 8 (.aload_n 0) 1 9, zex 9 (.getfield 158) 3 12 9 15 0, zev32 12 (.iconst 1) 1 13 1, ze0 13 .isub 1 14, ze0 14 .i2l 1 15, zcal 15 (.invokestatic 16) 3 18 171 3 0 9,
  zex 18 (.ifCond .ne 5) 3 21 23 0 0, zev32 21 (.iconst (-1)) 1 22 (-1), ze0 22 .ireturn 1 23, ze0 23 (.iload_n 1) 1 24, ze0 24 (.istore_n 2) 1 25, ze0 25 (.iload_n 2) 1 26,
  ze0 26 (.aload_n 0) 1 27, zex 27 (.getfield 158) 3 30 9 15 0, zex 30 (.if_icmp .ge 80) 3 33 110 0 0, zev32 33 (.iconst 0) 1 34 0, ze0 34 (.istore_n 3) 1 35, ze0 35 (.iload_n 3) 1 36,
  ze0 36 (.aload_n 0) 1 37, zex 37 (.getfield 37) 3 40 9 7 0, zex 40 (.if_icmp .ge 64) 3 43 104 0 0, ze0 43 (.aload_n 0) 1 44, ze0 44 (.iload_n 2) 1 45, ze0 45 (.iload_n 3) 1 46,
  zcal 46 (.invokevirtual 161) 3 49 188 3 0 9, zex 49 (.ifCond .ge 17) 3 52 66 0 0, ze0 52 (.aload_n 0) 1 53, zex 53 (.getfield 43) 3 56 9 9 2, ze0 56 (.iload_n 3) 1 57, ze0 57 .baload 1 58,
  zex 58 (.ifCond .eq 8) 3 61 66 0 0, zev32 61 (.bipush 6) 2 63 6, zex 63 (.goto 10) 3 66 73 0 0, ze0 66 (.aload_n 0) 1 67, ze0 67 (.iload_n 2) 1 68, ze0 68 (.iload_n 3) 1 69,
  ze0 69 (.iload_n 2) 1 70, zcal 70 (.invokevirtual 197) 3 73 197 4 0 9, ze0 73 (.istore 4) 2 75, ze0 75 (.iload 4) 2 77, zex 77 (.ifCond .le 21) 3 80 98 0 0, ze0 80 (.aload_n 0) 1 81,
  zev32 81 (.iconst 0) 1 82 0, zex 82 (.putfield 11) 3 85 9 1 0, ze0 85 (.aload_n 0) 1 86, ze0 86 (.iload_n 3) 1 87, zcal 87 (.invokevirtual 227) 3 90 174 2 1 9, ze0 90 (.aload_n 0) 1 91,
  ze0 91 (.iload 4) 2 93, zcal 93 (.invokevirtual 227) 3 96 174 2 1 9, ze0 96 (.iload_n 2) 1 97, ze0 97 .ireturn 1 98, zev32 98 (.iinc 3 1) 3 101 1, zex 101 (.goto (-66)) 3 104 35 0 0,
  zev32 104 (.iinc 2 1) 3 107 1, zex 107 (.goto (-82)) 3 110 25 0 0, zev32 110 (.bipush (-2)) 2 112 (-2), ze0 112 .ireturn 1 113]
def zm_214 : zMi := ((yX9_judge, cX9_judge, 5, (some .int)), (9, 2, 5), zt_214, [(25, [0, 2]), (35, [0, 2, 3]), (66, [0, 2, 3]), (73, [0, 2, 3])])
/-- NotWhereYesterdayModel.broken()I -/
def zt_215 : zT := [ze0 0 (.aload_n 0) 1 1, zev32 1 (.iconst 0) 1 2 0, zex 2 (.putfield 3) 3 5 9 0 0, ze0 5 (.aload_n 0) 1 6, zex 6 (.getfield 247) 3 9 9 39 2, ze0 9 (.astore_n 1) 1 10,
  zev32 10 (.iconst 0) 1 11 0, ze0 11 (.istore_n 2) 1 12, ze0 12 (.iload_n 2) 1 13, zev32 13 (.iconst 4) 1 14 4, zex 14 (.if_icmp .ge 13) 3 17 27 0 0, ze0 17 (.aload_n 1) 1 18,
  ze0 18 (.iload_n 2) 1 19, zev32 19 (.iconst 0) 1 20 0, ze0 20 .iastore 1 21, zev32 21 (.iinc 2 1) 3 24 1, zex 24 (.goto (-12)) 3 27 12 0 0, zev32 27 (.iconst 0) 1 28 0,
  ze0 28 (.istore_n 2) 1 29, ze0 29 (.iload_n 2) 1 30, ze0 30 (.aload_n 0) 1 31, zex 31 (.getfield 158) 3 34 9 15 0, zex 34 (.if_icmp .ge 160) 3 37 194 0 0, zev32 37 (.iconst 0) 1 38 0,
  ze0 38 (.istore_n 3) 1 39, ze0 39 (.iload_n 3) 1 40, ze0 40 (.aload_n 0) 1 41, zex 41 (.getfield 37) 3 44 9 7 0, zex 44 (.if_icmp .ge 144) 3 47 188 0 0, ze0 47 (.aload_n 0) 1 48,
  ze0 48 (.iload_n 2) 1 49, ze0 49 (.iload_n 3) 1 50, zcal 50 (.invokevirtual 161) 3 53 188 3 0 9, ze0 53 (.istore 4) 2 55, ze0 55 (.iload 4) 2 57, zex 57 (.ifCond .ge 6) 3 60 63 0 0,
  zex 60 (.goto 122) 3 63 182 0 0, ze0 63 (.aload_n 0) 1 64, ze0 64 (.iload 4) 2 66, ze0 66 (.iload_n 3) 1 67, ze0 67 (.iload_n 2) 1 68, zcal 68 (.invokevirtual 187) 3 71 194 4 0 9,
  ze0 71 (.istore 5) 2 73, ze0 73 (.aload_n 1) 1 74, zev32 74 (.iconst 0) 1 75 0, ze0 75 .dup2 1 76, ze0 76 .iaload 1 77, ze0 77 (.iload 5) 2 79,
  zev32 79 (.iconst 1) 1 80 1, zex 80 (.if_icmp .ne 7) 3 83 87 0 0, zev32 83 (.iconst 1) 1 84 1, zex 84 (.goto 4) 3 87 88 0 0, zev32 87 (.iconst 0) 1 88 0, zcal 88 (.invokestatic 71) 3 91 173 1 0 9,
  ze0 91 .iadd 1 92, ze0 92 .iastore 1 93, ze0 93 (.aload_n 1) 1 94, zev32 94 (.iconst 1) 1 95 1, ze0 95 .dup2 1 96, ze0 96 .iaload 1 97,
  ze0 97 (.iload 5) 2 99, zev32 99 (.iconst 2) 1 100 2, zex 100 (.if_icmp .ne 7) 3 103 107 0 0, zev32 103 (.iconst 1) 1 104 1, zex 104 (.goto 4) 3 107 108 0 0, zev32 107 (.iconst 0) 1 108 0,
  zcal 108 (.invokestatic 71) 3 111 173 1 0 9, ze0 111 .iadd 1 112, ze0 112 .iastore 1 113, ze0 113 (.aload_n 1) 1 114, zev32 114 (.iconst 2) 1 115 2, ze0 115 .dup2 1 116,
  ze0 116 .iaload 1 117, ze0 117 (.iload 5) 2 119, zev32 119 (.iconst 3) 1 120 3, zex 120 (.if_icmp .ne 7) 3 123 127 0 0, zev32 123 (.iconst 1) 1 124 1, zex 124 (.goto 4) 3 127 128 0 0,
  zev32 127 (.iconst 0) 1 128 0, zcal 128 (.invokestatic 71) 3 131 173 1 0 9, ze0 131 .iadd 1 132, ze0 132 .iastore 1 133, ze0 133 (.iload_n 3) 1 134, zex 134 (.ifCond .ne 7) 3 137 141 0 0,
  zev32 137 (.iconst (-1)) 1 138 (-1), zex 138 (.goto 11) 3 141 149 0 0, ze0 141 (.aload_n 0) 1 142, ze0 142 (.iload_n 2) 1 143, ze0 143 (.iload_n 3) 1 144, zev32 144 (.iconst 1) 1 145 1,
  ze0 145 .isub 1 146, zcal 146 (.invokevirtual 161) 3 149 188 3 0 9, ze0 149 (.istore 6) 2 151, ze0 151 (.aload_n 1) 1 152, zev32 152 (.iconst 3) 1 153 3, ze0 153 .dup2 1 154,
  ze0 154 .iaload 1 155, ze0 155 (.iload 6) 2 157, zex 157 (.ifCond .lt 19) 3 160 176 0 0, ze0 160 (.aload_n 0) 1 161, ze0 161 (.iload 6) 2 163, ze0 163 (.iload 4) 2 165,
  ze0 165 (.iload_n 2) 1 166, zcal 166 (.invokevirtual 194) 3 169 196 4 0 9, zex 169 (.ifCond .ne 7) 3 172 176 0 0, zev32 172 (.iconst 1) 1 173 1, zex 173 (.goto 4) 3 176 177 0 0, zev32 176 (.iconst 0) 1 177 0,
  zcal 177 (.invokestatic 71) 3 180 173 1 0 9, ze0 180 .iadd 1 181, ze0 181 .iastore 1 182, zev32 182 (.iinc 3 1) 3 185 1, zex 185 (.goto (-146)) 3 188 39 0 0, zev32 188 (.iinc 2 1) 3 191 1,
  zex 191 (.goto (-162)) 3 194 29 0 0, ze0 194 (.aload_n 0) 1 195, zev32 195 (.iconst 0) 1 196 0, zex 196 (.putfield 11) 3 199 9 1 0, zev32 199 (.iconst 0) 1 200 0, ze0 200 (.istore_n 2) 1 201,
  zev32 201 (.iconst 0) 1 202 0, ze0 202 (.istore_n 3) 1 203, ze0 203 (.iload_n 3) 1 204, zev32 204 (.iconst 4) 1 205 4, zex 205 (.if_icmp .ge 22) 3 208 227 0 0, ze0 208 (.aload_n 0) 1 209,
  ze0 209 (.aload_n 1) 1 210, ze0 210 (.iload_n 3) 1 211, ze0 211 .iaload 1 212, zcal 212 (.invokevirtual 227) 3 215 174 2 1 9, ze0 215 (.iload_n 2) 1 216, ze0 216 (.aload_n 1) 1 217,
  ze0 217 (.iload_n 3) 1 218, ze0 218 .iaload 1 219, ze0 219 .iadd 1 220, ze0 220 (.istore_n 2) 1 221, zev32 221 (.iinc 3 1) 3 224 1, zex 224 (.goto (-21)) 3 227 203 0 0,
  ze0 227 (.iload_n 2) 1 228, ze0 228 .ireturn 1 229]
def zm_215 : zMi := ((yX9_broken, cX9_broken, 7, (some .int)), (9, 1, 4), zt_215, [(12, [0, 1, 2]), (29, [0, 1, 2]), (39, [0, 1, 2, 3]), (88, [0, 1, 2, 3, 4, 5]), (108, [0, 1, 2, 3, 4, 5]), (128, [0, 1, 2, 3, 4]), (149, [0, 1, 2, 3, 4]), (176, [0, 1, 2, 3]), (177, [0, 1, 2, 3]), (182, [0, 1, 2, 3]), (203, [0, 1, 2, 3])])
/-- NotWhereYesterdayModel.works(I)I -/
def zt_216 : zT := [ze0 0 (.aload_n 0) 1 1, zev32 1 (.iconst 0) 1 2 0, zex 2 (.putfield 3) 3 5 9 0 0, ze0 5 (.aload_n 0) 1 6, ze0 6 (.iload_n 1) 1 7, zcal 7 (.invokevirtual 209) 3 10 178 2 0 9,
  zex 10 (.ifCond .ne 5) 3 13 15 0 0, zev32 13 (.iconst (-1)) 1 14 (-1), ze0 14 .ireturn 1 15, ze0 15 (.aload_n 0) 1 16, zev32 16 (.iconst 0) 1 17 0, zex 17 (.putfield 11) 3 20 9 1 0,
  ze0 20 (.aload_n 0) 1 21, ze0 21 (.aload_n 0) 1 22, zex 22 (.getfield 234) 3 25 9 12 2, ze0 25 (.iload_n 1) 1 26, ze0 26 .iaload 1 27, zcal 27 (.invokevirtual 227) 3 30 174 2 1 9,
  ze0 30 (.aload_n 0) 1 31, ze0 31 (.aload_n 0) 1 32, zex 32 (.getfield 53) 3 35 9 14 2, ze0 35 (.iload_n 1) 1 36, ze0 36 .iaload 1 37, zcal 37 (.invokevirtual 227) 3 40 174 2 1 9,
  ze0 40 (.aload_n 0) 1 41, zex 41 (.getfield 237) 3 44 9 13 2, ze0 44 (.iload_n 1) 1 45, ze0 45 .iaload 1 46, ze0 46 .ireturn 1 47]
def zm_216 : zMi := ((yX9_works, cX9_works, 2, (some .int)), (9, 2, 3), zt_216, [])
/-- NotWhereYesterdayModel.indexOf(III)I -/
def zt_217 : zT := [ze0 0 (.iload_n 1) 1 1, zev32 1 (.bipush 10) 2 3 10, ze0 3 .ishl 1 4, ze0 4 (.iload_n 2) 1 5, ze0 5 .ior 1 6, zev32 6 (.bipush 11) 2 8 11,
  ze0 8 .imul 1 9, ze0 9 (.iload_n 3) 1 10, ze0 10 .iadd 1 11, zev32 11 (.iconst 1) 1 12 1, ze0 12 .iadd 1 13, ze0 13 .ireturn 1 14]
def zm_217 : zMi := ((yX9_indexOf, cX9_indexOf, 4, (some .int)), (9, 4, 1), zt_217, [])
/-- NotWhereYesterdayModel.gain(II)I -/
def zt_218 : zT := [zev32 0 (.bipush 100) 2 2 100, ze0 2 (.aload_n 0) 1 3, ze0 3 (.iload_n 1) 1 4, ze0 4 (.iload_n 2) 1 5, zcal 5 (.invokevirtual 200) 3 8 199 3 0 9, ze0 8 .imul 1 9,
  ze0 9 (.aload_n 0) 1 10, zex 10 (.getfield 250) 3 13 9 44 3, zex 13 (.ifCond .eq 18) 3 16 31 0 0, ze0 16 (.aload_n 0) 1 17, zev32 17 (.bipush 63) 2 19 63, ze0 19 (.iload_n 1) 1 20,
  zcal 20 (.invokevirtual 161) 3 23 188 3 0 9, ze0 23 (.iload_n 2) 1 24, zex 24 (.if_icmp .eq 7) 3 27 31 0 0, zev32 27 (.iconst 1) 1 28 1, zex 28 (.goto 4) 3 31 32 0 0, zev32 31 (.iconst 0) 1 32 0,
  ze0 32 .isub 1 33, ze0 33 .ireturn 1 34]
def zm_218 : zMi := ((yX9_gain, cX9_gain, 3, (some .int)), (9, 3, 2), zt_218, [(31, []), (32, [])])
/-- NotWhereYesterdayModel.layers(I)V -/
def zt_219 : zT := [zev32 0 (.iconst 0) 1 1 0, ze0 1 (.istore_n 2) 1 2, ze0 2 (.iload_n 2) 1 3, zev32 3 (.iconst 1) 1 4 1, ze0 4 (.aload_n 0) 1 5, zex 5 (.getfield 22) 3 8 9 3 0,
  ze0 8 .ishl 1 9, zex 9 (.if_icmp .ge 171) 3 12 180 0 0, zev32 12 (.iconst (-1)) 1 13 (-1), ze0 13 (.istore_n 3) 1 14, ze0 14 (.iload_n 3) 1 15, ze0 15 (.aload_n 0) 1 16,
  zex 16 (.getfield 22) 3 19 9 3 0, zex 19 (.if_icmp .ge 155) 3 22 174 0 0, ze0 22 (.iload_n 3) 1 23, zex 23 (.ifCond .lt 14) 3 26 37 0 0, ze0 26 (.iload_n 2) 1 27, ze0 27 (.iload_n 3) 1 28,
  zcal 28 (.invokestatic 164) 3 31 172 2 0 9, zex 31 (.ifCond .ne 6) 3 34 37 0 0, zex 34 (.goto 134) 3 37 168 0 0, ze0 37 (.aload_n 0) 1 38, ze0 38 (.iload_n 1) 1 39, zev32 39 (.iconst (-1)) 1 40 (-1),
  zcal 40 (.invokevirtual 254) 3 43 218 3 0 9, ze0 43 (.aload_n 0) 1 44, zex 44 (.getfield 257) 3 47 9 40 2, ze0 47 (.aload_n 0) 1 48, ze0 48 (.iload_n 1) 1 49, zev32 49 (.iconst 1) 1 50 1,
  ze0 50 .iadd 1 51, ze0 51 (.iload_n 2) 1 52, zev32 52 (.iconst (-1)) 1 53 (-1), zcal 53 (.invokevirtual 260) 3 56 217 4 0 9, ze0 56 .iaload 1 57, ze0 57 .iadd 1 58,
  ze0 58 (.istore 4) 2 60, zev32 60 (.iconst 0) 1 61 0, ze0 61 (.istore 5) 2 63, ze0 63 (.iload 5) 2 65, ze0 65 (.aload_n 0) 1 66, zex 66 (.getfield 22) 3 69 9 3 0,
  zex 69 (.if_icmp .ge 85) 3 72 154 0 0, ze0 72 (.aload_n 0) 1 73, zex 73 (.getfield 263) 3 76 9 41 2, ze0 76 (.iload_n 1) 1 77, ze0 77 .iaload 1 78, ze0 78 (.iload 5) 2 80,
  zcal 80 (.invokestatic 164) 3 83 172 2 0 9, zex 83 (.ifCond .eq 65) 3 86 148 0 0, ze0 86 (.iload_n 2) 1 87, ze0 87 (.iload 5) 2 89, zcal 89 (.invokestatic 164) 3 92 172 2 0 9, zex 92 (.ifCond .ne 56) 3 95 148 0 0,
  ze0 95 (.iload_n 3) 1 96, zex 96 (.ifCond .lt 17) 3 99 113 0 0, ze0 99 (.aload_n 0) 1 100, zex 100 (.getfield 266) 3 103 9 42 2, ze0 103 (.iload_n 3) 1 104, ze0 104 .iaload 1 105,
  ze0 105 (.iload 5) 2 107, zcal 107 (.invokestatic 164) 3 110 172 2 0 9, zex 110 (.ifCond .eq 38) 3 113 148 0 0, ze0 113 (.iload 4) 2 115, ze0 115 (.aload_n 0) 1 116, ze0 116 (.iload_n 1) 1 117,
  ze0 117 (.iload 5) 2 119, zcal 119 (.invokevirtual 254) 3 122 218 3 0 9, ze0 122 (.aload_n 0) 1 123, zex 123 (.getfield 257) 3 126 9 40 2, ze0 126 (.aload_n 0) 1 127, ze0 127 (.iload_n 1) 1 128,
  zev32 128 (.iconst 1) 1 129 1, ze0 129 .iadd 1 130, ze0 130 (.iload_n 2) 1 131, zev32 131 (.iconst 1) 1 132 1, ze0 132 (.iload 5) 2 134, ze0 134 .ishl 1 135,
  ze0 135 .ior 1 136, ze0 136 (.iload 5) 2 138, zcal 138 (.invokevirtual 260) 3 141 217 4 0 9, ze0 141 .iaload 1 142, ze0 142 .iadd 1 143, zcal 143 (.invokestatic 269) 3 146 0 2 8 0,
  ze0 146 (.istore 4) 2 148, zev32 148 (.iinc 5 1) 3 151 1, zex 151 (.goto (-88)) 3 154 63 0 0, ze0 154 (.aload_n 0) 1 155, zex 155 (.getfield 257) 3 158 9 40 2, ze0 158 (.aload_n 0) 1 159,
  ze0 159 (.iload_n 1) 1 160, ze0 160 (.iload_n 2) 1 161, ze0 161 (.iload_n 3) 1 162, zcal 162 (.invokevirtual 260) 3 165 217 4 0 9, ze0 165 (.iload 4) 2 167, ze0 167 .iastore 1 168,
  zev32 168 (.iinc 3 1) 3 171 1, zex 171 (.goto (-157)) 3 174 14 0 0, zev32 174 (.iinc 2 1) 3 177 1, zex 177 (.goto (-175)) 3 180 2 0 0, ze0 180 .return_ 1 181]
def zm_219 : zMi := ((yX9_layers, cX9_layers, 6, none), (9, 2, 3), zt_219, [(2, [0, 1, 2]), (14, [0, 1, 2, 3]), (37, [0, 1, 2, 3]), (63, [0, 1, 2, 3, 4, 5]), (113, [0, 1, 2, 3, 4, 5]), (148, [0, 1, 2, 3, 4, 5]), (168, [0, 1, 2, 3])])
/-- NotWhereYesterdayModel.asksToday()V -/
def zt_220 : zT := [zev32 0 (.iconst 0) 1 1 0, ze0 1 (.istore_n 1) 1 2, ze0 2 (.iload_n 1) 1 3, ze0 3 (.aload_n 0) 1 4, zex 4 (.getfield 37) 3 7 9 7 0, zex 7 (.if_icmp .ge 70) 3 10 77 0 0,
  ze0 10 (.aload_n 0) 1 11, zex 11 (.getfield 263) 3 14 9 41 2, ze0 14 (.iload_n 1) 1 15, zev32 15 (.iconst 0) 1 16 0, ze0 16 .iastore 1 17, zev32 17 (.iconst 0) 1 18 0,
  ze0 18 (.istore_n 2) 1 19, ze0 19 (.iload_n 2) 1 20, ze0 20 (.aload_n 0) 1 21, zex 21 (.getfield 22) 3 24 9 3 0, zex 24 (.if_icmp .ge 47) 3 27 71 0 0, ze0 27 (.aload_n 0) 1 28,
  zex 28 (.getfield 263) 3 31 9 41 2, ze0 31 (.iload_n 1) 1 32, ze0 32 .dup2 1 33, ze0 33 .iaload 1 34, ze0 34 (.aload_n 0) 1 35, ze0 35 (.iload_n 2) 1 36,
  ze0 36 (.iload_n 1) 1 37, zcal 37 (.invokevirtual 191) 3 40 193 3 0 9, zex 40 (.ifCond .eq 22) 3 43 62 0 0, ze0 43 (.aload_n 0) 1 44, ze0 44 (.iload_n 2) 1 45, ze0 45 (.iload_n 1) 1 46,
  ze0 46 (.aload_n 0) 1 47, zex 47 (.getfield 158) 3 50 9 15 0, zcal 50 (.invokevirtual 187) 3 53 194 4 0 9, zex 53 (.ifCond .ne 9) 3 56 62 0 0, zev32 56 (.iconst 1) 1 57 1, ze0 57 (.iload_n 2) 1 58,
  ze0 58 .ishl 1 59, zex 59 (.goto 4) 3 62 63 0 0, zev32 62 (.iconst 0) 1 63 0, ze0 63 .ior 1 64, ze0 64 .iastore 1 65, zev32 65 (.iinc 2 1) 3 68 1,
  zex 68 (.goto (-49)) 3 71 19 0 0, zev32 71 (.iinc 1 1) 3 74 1, zex 74 (.goto (-72)) 3 77 2 0 0, zev32 77 (.iconst 0) 1 78 0, ze0 78 (.istore_n 1) 1 79, ze0 79 (.iload_n 1) 1 80,
  ze0 80 (.aload_n 0) 1 81, zex 81 (.getfield 22) 3 84 9 3 0, zex 84 (.if_icmp .ge 66) 3 87 150 0 0, ze0 87 (.aload_n 0) 1 88, zex 88 (.getfield 266) 3 91 9 42 2, ze0 91 (.iload_n 1) 1 92,
  zev32 92 (.iconst 0) 1 93 0, ze0 93 .iastore 1 94, zev32 94 (.iconst 0) 1 95 0, ze0 95 (.istore_n 2) 1 96, ze0 96 (.iload_n 2) 1 97, ze0 97 (.aload_n 0) 1 98,
  zex 98 (.getfield 22) 3 101 9 3 0, zex 101 (.if_icmp .ge 43) 3 104 144 0 0, ze0 104 (.aload_n 0) 1 105, zex 105 (.getfield 266) 3 108 9 42 2, ze0 108 (.iload_n 1) 1 109, ze0 109 .dup2 1 110,
  ze0 110 .iaload 1 111, ze0 111 (.iload_n 1) 1 112, ze0 112 (.iload_n 2) 1 113, zex 113 (.if_icmp .eq 22) 3 116 135 0 0, ze0 116 (.aload_n 0) 1 117, ze0 117 (.iload_n 1) 1 118,
  ze0 118 (.iload_n 2) 1 119, ze0 119 (.aload_n 0) 1 120, zex 120 (.getfield 158) 3 123 9 15 0, zcal 123 (.invokevirtual 194) 3 126 196 4 0 9, zex 126 (.ifCond .eq 9) 3 129 135 0 0, zev32 129 (.iconst 1) 1 130 1,
  ze0 130 (.iload_n 2) 1 131, ze0 131 .ishl 1 132, zex 132 (.goto 4) 3 135 136 0 0, zev32 135 (.iconst 0) 1 136 0, ze0 136 .ior 1 137, ze0 137 .iastore 1 138,
  zev32 138 (.iinc 2 1) 3 141 1, zex 141 (.goto (-45)) 3 144 96 0 0, zev32 144 (.iinc 1 1) 3 147 1, zex 147 (.goto (-68)) 3 150 79 0 0, ze0 150 .return_ 1 151]
def zm_220 : zMi := ((yX9_asksToday, cX9_asksToday, 3, none), (9, 1, 4), zt_220, [(2, [0, 1]), (19, [0, 1, 2]), (62, [0, 1, 2]), (63, [0, 1, 2]), (79, [0, 1]), (96, [0, 1, 2]), (135, [0, 1, 2]), (136, [0, 1, 2])])
/-- NotWhereYesterdayModel.bests(Z)I -/
def zt_221 : zT := [ze0 0 (.aload_n 0) 1 1, ze0 1 (.iload_n 1) 1 2, zex 2 (.putfield 250) 3 5 9 44 3, ze0 5 (.aload_n 0) 1 6, zcal 6 (.invokevirtual 272) 3 9 220 1 1 9, zev32 9 (.iconst 0) 1 10 0,
  ze0 10 (.istore_n 2) 1 11, ze0 11 (.iload_n 2) 1 12, zev32 12 (.iconst 1) 1 13 1, ze0 13 (.aload_n 0) 1 14, zex 14 (.getfield 22) 3 17 9 3 0, ze0 17 .ishl 1 18,
  zex 18 (.if_icmp .ge 41) 3 21 59 0 0, zev32 21 (.iconst (-1)) 1 22 (-1), ze0 22 (.istore_n 3) 1 23, ze0 23 (.iload_n 3) 1 24, ze0 24 (.aload_n 0) 1 25, zex 25 (.getfield 22) 3 28 9 3 0,
  zex 28 (.if_icmp .ge 25) 3 31 53 0 0, ze0 31 (.aload_n 0) 1 32, zex 32 (.getfield 257) 3 35 9 40 2, ze0 35 (.aload_n 0) 1 36, ze0 36 (.aload_n 0) 1 37, zex 37 (.getfield 37) 3 40 9 7 0,
  ze0 40 (.iload_n 2) 1 41, ze0 41 (.iload_n 3) 1 42, zcal 42 (.invokevirtual 260) 3 45 217 4 0 9, zev32 45 (.iconst 0) 1 46 0, ze0 46 .iastore 1 47, zev32 47 (.iinc 3 1) 3 50 1,
  zex 50 (.goto (-27)) 3 53 23 0 0, zev32 53 (.iinc 2 1) 3 56 1, zex 56 (.goto (-45)) 3 59 11 0 0, ze0 59 (.aload_n 0) 1 60, zex 60 (.getfield 37) 3 63 9 7 0, zev32 63 (.iconst 1) 1 64 1,
  ze0 64 .isub 1 65, ze0 65 (.istore_n 2) 1 66, ze0 66 (.iload_n 2) 1 67, zex 67 (.ifCond .lt 14) 3 70 81 0 0, ze0 70 (.aload_n 0) 1 71, ze0 71 (.iload_n 2) 1 72,
  zcal 72 (.invokevirtual 275) 3 75 219 2 1 9, zev32 75 (.iinc 2 (-1)) 3 78 (-1), zex 78 (.goto (-12)) 3 81 66 0 0, zev32 81 (.iconst 0) 1 82 0, ze0 82 (.istore_n 2) 1 83, zev32 83 (.iconst (-1)) 1 84 (-1),
  ze0 84 (.istore_n 3) 1 85, zev32 85 (.iconst 0) 1 86 0, ze0 86 (.istore 4) 2 88, zev32 88 (.iconst 0) 1 89 0, ze0 89 (.istore 5) 2 91, ze0 91 (.iload 5) 2 93,
  ze0 93 (.aload_n 0) 1 94, zex 94 (.getfield 37) 3 97 9 7 0, zex 97 (.if_icmp .ge 182) 3 100 279 0 0, ze0 100 (.aload_n 0) 1 101, zex 101 (.getfield 257) 3 104 9 40 2, ze0 104 (.aload_n 0) 1 105,
  ze0 105 (.iload 5) 2 107, ze0 107 (.iload_n 2) 1 108, ze0 108 (.iload_n 3) 1 109, zcal 109 (.invokevirtual 260) 3 112 217 4 0 9, ze0 112 .iaload 1 113, ze0 113 (.istore 6) 2 115,
  zev32 115 (.iconst (-1)) 1 116 (-1), ze0 116 (.istore 7) 2 118, ze0 118 (.aload_n 0) 1 119, ze0 119 (.iload 5) 2 121, zev32 121 (.iconst (-1)) 1 122 (-1), zcal 122 (.invokevirtual 254) 3 125 218 3 0 9,
  ze0 125 (.aload_n 0) 1 126, zex 126 (.getfield 257) 3 129 9 40 2, ze0 129 (.aload_n 0) 1 130, ze0 130 (.iload 5) 2 132, zev32 132 (.iconst 1) 1 133 1, ze0 133 .iadd 1 134,
  ze0 134 (.iload_n 2) 1 135, zev32 135 (.iconst (-1)) 1 136 (-1), zcal 136 (.invokevirtual 260) 3 139 217 4 0 9, ze0 139 .iaload 1 140, ze0 140 .iadd 1 141, ze0 141 (.iload 6) 2 143,
  zex 143 (.if_icmp .eq 89) 3 146 232 0 0, zev32 146 (.iconst 0) 1 147 0, ze0 147 (.istore 7) 2 149, ze0 149 (.aload_n 0) 1 150, zex 150 (.getfield 263) 3 153 9 41 2, ze0 153 (.iload 5) 2 155,
  ze0 155 .iaload 1 156, ze0 156 (.iload 7) 2 158, zcal 158 (.invokestatic 164) 3 161 172 2 0 9, zex 161 (.ifCond .eq 65) 3 164 226 0 0, ze0 164 (.iload_n 2) 1 165, ze0 165 (.iload 7) 2 167,
  zcal 167 (.invokestatic 164) 3 170 172 2 0 9, zex 170 (.ifCond .ne 56) 3 173 226 0 0, ze0 173 (.iload_n 3) 1 174, zex 174 (.ifCond .lt 17) 3 177 191 0 0, ze0 177 (.aload_n 0) 1 178, zex 178 (.getfield 266) 3 181 9 42 2,
  ze0 181 (.iload_n 3) 1 182, ze0 182 .iaload 1 183, ze0 183 (.iload 7) 2 185, zcal 185 (.invokestatic 164) 3 188 172 2 0 9, zex 188 (.ifCond .eq 38) 3 191 226 0 0, ze0 191 (.aload_n 0) 1 192,
  ze0 192 (.iload 5) 2 194, ze0 194 (.iload 7) 2 196, zcal 196 (.invokevirtual 254) 3 199 218 3 0 9, ze0 199 (.aload_n 0) 1 200, zex 200 (.getfield 257) 3 203 9 40 2, ze0 203 (.aload_n 0) 1 204,
  ze0 204 (.iload 5) 2 206, zev32 206 (.iconst 1) 1 207 1, ze0 207 .iadd 1 208, ze0 208 (.iload_n 2) 1 209, zev32 209 (.iconst 1) 1 210 1, ze0 210 (.iload 7) 2 212,
  ze0 212 .ishl 1 213, ze0 213 .ior 1 214, ze0 214 (.iload 7) 2 216, zcal 216 (.invokevirtual 260) 3 219 217 4 0 9, ze0 219 .iaload 1 220, ze0 220 .iadd 1 221,
  ze0 221 (.iload 6) 2 223, zex 223 (.if_icmp .eq 9) 3 226 232 0 0, zev32 226 (.iinc 7 1) 3 229 1, zex 229 (.goto (-80)) 3 232 149 0 0, ze0 232 (.aload_n 0) 1 233, zex 233 (.getfield 278) 3 236 9 43 2,
  ze0 236 (.iload 5) 2 238, ze0 238 (.iload 7) 2 240, ze0 240 .iastore 1 241, ze0 241 (.iload_n 2) 1 242, ze0 242 (.iload 7) 2 244, zex 244 (.ifCond .ge 7) 3 247 251 0 0,
  zev32 247 (.iconst 0) 1 248 0, zex 248 (.goto 7) 3 251 255 0 0, zev32 251 (.iconst 1) 1 252 1, ze0 252 (.iload 7) 2 254, ze0 254 .ishl 1 255, ze0 255 .ior 1 256,
  ze0 256 (.istore_n 2) 1 257, ze0 257 (.iload 7) 2 259, ze0 259 (.istore_n 3) 1 260, ze0 260 (.iload 4) 2 262, ze0 262 (.aload_n 0) 1 263, ze0 263 (.iload 5) 2 265,
  ze0 265 (.iload 7) 2 267, zcal 267 (.invokevirtual 200) 3 270 199 3 0 9, ze0 270 .iadd 1 271, ze0 271 (.istore 4) 2 273, zev32 273 (.iinc 5 1) 3 276 1, zex 276 (.goto (-185)) 3 279 91 0 0,
  ze0 279 (.iload 4) 2 281, ze0 281 .ireturn 1 282]
def zm_221 : zMi := ((yX9_bests, cX9_bests, 8, (some .int)), (9, 2, 5), zt_221, [(11, [0, 2]), (23, [0, 2, 3]), (66, [0, 2]), (91, [0, 2, 3, 4, 5]), (149, [0, 2, 3, 4, 5, 6, 7]), (191, [0, 2, 3, 4, 5, 6, 7]), (226, [0, 2, 3, 4, 5, 6, 7]), (232, [0, 2, 4, 5, 7]), (255, [0, 4, 5, 7])])
/-- NotWhereYesterdayModel.entersBest()V -/
def zt_222 : zT := [zev32 0 (.iconst 0) 1 1 0, ze0 1 (.istore_n 1) 1 2, ze0 2 (.iload_n 1) 1 3, ze0 3 (.aload_n 0) 1 4, zex 4 (.getfield 37) 3 7 9 7 0, zex 7 (.if_icmp .ge 19) 3 10 26 0 0,
  ze0 10 (.aload_n 0) 1 11, ze0 11 (.aload_n 0) 1 12, zex 12 (.getfield 278) 3 15 9 43 2, ze0 15 (.iload_n 1) 1 16, ze0 16 .iaload 1 17, zcal 17 (.invokevirtual 227) 3 20 174 2 1 9,
  zev32 20 (.iinc 1 1) 3 23 1, zex 23 (.goto (-21)) 3 26 2 0 0, ze0 26 .return_ 1 27]
def zm_222 : zMi := ((yX9_entersBest, cX9_entersBest, 2, none), (9, 1, 2), zt_222, [(2, [0, 1])])
/-- NotWhereYesterdayModel.best()I -/
def zt_223 : zT := [ze0 0 (.aload_n 0) 1 1, zev32 1 (.iconst 0) 1 2 0, zex 2 (.putfield 3) 3 5 9 0 0, ze0 5 (.aload_n 0) 1 6, zev32 6 (.iconst 0) 1 7 0, zcal 7 (.invokevirtual 281) 3 10 221 2 0 9,
  ze0 10 (.istore_n 1) 1 11, ze0 11 (.aload_n 0) 1 12, zev32 12 (.iconst 0) 1 13 0, zex 13 (.putfield 11) 3 16 9 1 0, ze0 16 (.aload_n 0) 1 17, zcal 17 (.invokevirtual 284) 3 20 222 1 1 9,
  ze0 20 (.iload_n 1) 1 21, ze0 21 .ireturn 1 22]
def zm_223 : zMi := ((yX9_best, cX9_best, 2, (some .int)), (9, 1, 6), zt_223, [])
/-- NotWhereYesterdayModel.fills()I -/
def zt_224 : zT := [ze0 0 (.aload_n 0) 1 1, zev32 1 (.iconst 0) 1 2 0, zcal 2 (.invokevirtual 281) 3 5 221 2 0 9, ze0 5 (.istore_n 1) 1 6, zev32 6 (.iconst 0) 1 7 0, ze0 7 (.istore_n 2) 1 8,
  ze0 8 (.iload_n 2) 1 9, ze0 9 (.aload_n 0) 1 10, zex 10 (.getfield 37) 3 13 9 7 0, zex 13 (.if_icmp .ge 25) 3 16 38 0 0, ze0 16 (.aload_n 0) 1 17, zex 17 (.getfield 56) 3 20 9 16 2,
  zev32 20 (.sipush 630) 3 23 630, ze0 23 (.iload_n 2) 1 24, ze0 24 .iadd 1 25, ze0 25 (.aload_n 0) 1 26, zex 26 (.getfield 278) 3 29 9 43 2, ze0 29 (.iload_n 2) 1 30,
  ze0 30 .iaload 1 31, ze0 31 .iastore 1 32, zev32 32 (.iinc 2 1) 3 35 1, zex 35 (.goto (-27)) 3 38 8 0 0, ze0 38 (.iload_n 1) 1 39, ze0 39 .ireturn 1 40]
def zm_224 : zMi := ((yX9_fills, cX9_fills, 3, (some .int)), (9, 1, 6), zt_224, [(8, [0, 1, 2])])
/-- NotWhereYesterdayModel.fill()I -/
def zt_225 : zT := [ze0 0 (.aload_n 0) 1 1, zev32 1 (.iconst 0) 1 2 0, zex 2 (.putfield 3) 3 5 9 0 0, ze0 5 (.aload_n 0) 1 6, zcal 6 (.invokevirtual 287) 3 9 224 1 0 9, ze0 9 .ireturn 1 10]
def zm_225 : zMi := ((yX9_fill, cX9_fill, 1, (some .int)), (9, 1, 7), zt_225, [])
/-- NotWhereYesterdayModel.ill(I)I -/
def zt_226 : zT := [ze0 0 (.aload_n 0) 1 1, zev32 1 (.iconst 0) 1 2 0, zex 2 (.putfield 3) 3 5 9 0 0, ze0 5 (.aload_n 0) 1 6, ze0 6 (.iload_n 1) 1 7, zcal 7 (.invokevirtual 203) 3 10 177 2 0 9,
  zex 10 (.ifCond .ne 5) 3 13 15 0 0, zev32 13 (.iconst (-1)) 1 14 (-1), ze0 14 .ireturn 1 15, ze0 15 (.aload_n 0) 1 16, ze0 16 (.iload_n 1) 1 17, zex 17 (.putfield 155) 3 20 9 37 0,
  ze0 20 (.aload_n 0) 1 21, zev32 21 (.iconst 1) 1 22 1, zcal 22 (.invokevirtual 281) 3 25 221 2 0 9, ze0 25 (.istore_n 2) 1 26, ze0 26 (.aload_n 0) 1 27, zev32 27 (.iconst (-1)) 1 28 (-1),
  zex 28 (.putfield 155) 3 31 9 37 0, zev32 31 (.iconst 0) 1 32 0, ze0 32 (.istore_n 3) 1 33, zev32 33 (.iconst 0) 1 34 0, ze0 34 (.istore 4) 2 36, ze0 36 (.iload 4) 2 38,
  ze0 38 (.aload_n 0) 1 39, zex 39 (.getfield 37) 3 42 9 7 0, zex 42 (.if_icmp .ge 38) 3 45 80 0 0, ze0 45 (.iload_n 3) 1 46, ze0 46 (.aload_n 0) 1 47, zex 47 (.getfield 278) 3 50 9 43 2,
  ze0 50 (.iload 4) 2 52, ze0 52 .iaload 1 53, ze0 53 (.aload_n 0) 1 54, zev32 54 (.bipush 63) 2 56 63, ze0 56 (.iload 4) 2 58, zcal 58 (.invokevirtual 161) 3 61 188 3 0 9,
  zex 61 (.if_icmp .eq 7) 3 64 68 0 0, zev32 64 (.iconst 1) 1 65 1, zex 65 (.goto 4) 3 68 69 0 0, zev32 68 (.iconst 0) 1 69 0, zcal 69 (.invokestatic 71) 3 72 173 1 0 9, ze0 72 .iadd 1 73,
  ze0 73 (.istore_n 3) 1 74, zev32 74 (.iinc 4 1) 3 77 1, zex 77 (.goto (-41)) 3 80 36 0 0, ze0 80 (.aload_n 0) 1 81, zev32 81 (.iconst 0) 1 82 0, zex 82 (.putfield 11) 3 85 9 1 0,
  ze0 85 (.aload_n 0) 1 86, ze0 86 (.iload_n 2) 1 87, zcal 87 (.invokevirtual 227) 3 90 174 2 1 9, ze0 90 (.aload_n 0) 1 91, zcal 91 (.invokevirtual 284) 3 94 222 1 1 9, ze0 94 (.iload_n 3) 1 95,
  ze0 95 .ireturn 1 96]
def zm_226 : zMi := ((yX9_ill, cX9_ill, 5, (some .int)), (9, 2, 6), zt_226, [(36, [0, 2, 3, 4]), (69, [0, 2, 4])])
/-- NotWhereYesterdayModel.moreIf(I)I -/
def zt_227 : zT := [ze0 0 (.aload_n 0) 1 1, zev32 1 (.iconst 0) 1 2 0, zcal 2 (.invokevirtual 281) 3 5 221 2 0 9, ze0 5 (.istore_n 2) 1 6, ze0 6 (.aload_n 0) 1 7, ze0 7 (.iload_n 1) 1 8,
  zex 8 (.putfield 168) 3 11 9 38 0, ze0 11 (.aload_n 0) 1 12, zev32 12 (.iconst 0) 1 13 0, zcal 13 (.invokevirtual 281) 3 16 221 2 0 9, ze0 16 (.istore_n 3) 1 17, ze0 17 (.aload_n 0) 1 18,
  zev32 18 (.iconst 0) 1 19 0, zex 19 (.putfield 168) 3 22 9 38 0, ze0 22 (.iload_n 3) 1 23, ze0 23 (.iload_n 2) 1 24, ze0 24 .isub 1 25, ze0 25 .ireturn 1 26]
def zm_227 : zMi := ((yX9_moreIf, cX9_moreIf, 4, (some .int)), (9, 2, 6), zt_227, [])
/-- NotWhereYesterdayModel.free(I)I -/
def zt_228 : zT := [ze0 0 (.aload_n 0) 1 1, zev32 1 (.iconst 0) 1 2 0, zex 2 (.putfield 3) 3 5 9 0 0, ze0 5 (.iload_n 1) 1 6, zev32 6 (.iconst (-1)) 1 7 (-1), zex 7 (.if_icmp .eq 13) 3 10 20 0 0,
  ze0 10 (.aload_n 0) 1 11, ze0 11 (.iload_n 1) 1 12, zcal 12 (.invokevirtual 203) 3 15 177 2 0 9, zex 15 (.ifCond .ne 5) 3 18 20 0 0, zev32 18 (.iconst (-1)) 1 19 (-1), ze0 19 .ireturn 1 20,
  ze0 20 (.aload_n 0) 1 21, ze0 21 (.iload_n 1) 1 22, zex 22 (.ifCond .ge 9) 3 25 31 0 0, zev32 25 (.sipush 1023) 3 28 1023, zex 28 (.goto 6) 3 31 34 0 0, zev32 31 (.iconst 1) 1 32 1,
  ze0 32 (.iload_n 1) 1 33, ze0 33 .ishl 1 34, zcal 34 (.invokevirtual 290) 3 37 227 2 0 9, ze0 37 .ireturn 1 38]
def zm_228 : zMi := ((yX9_free, cX9_free, 2, (some .int)), (9, 2, 7), zt_228, [(20, [0, 1]), (34, [])])
/-- NotWhereYesterdayModel.worth()I -/
def zt_229 : zT := [ze0 0 (.aload_n 0) 1 1, zev32 1 (.iconst 0) 1 2 0, zex 2 (.putfield 3) 3 5 9 0 0, zev32 5 (.bipush (-2)) 2 7 (-2), ze0 7 (.istore_n 1) 1 8, zev32 8 (.iconst 0) 1 9 0,
  ze0 9 (.istore_n 2) 1 10, zev32 10 (.iconst 0) 1 11 0, ze0 11 (.istore_n 3) 1 12, ze0 12 (.iload_n 3) 1 13, ze0 13 (.aload_n 0) 1 14, zex 14 (.getfield 22) 3 17 9 3 0,
  zex 17 (.if_icmp .ge 33) 3 20 50 0 0, ze0 20 (.aload_n 0) 1 21, zev32 21 (.iconst 1) 1 22 1, ze0 22 (.iload_n 3) 1 23, ze0 23 .ishl 1 24, zcal 24 (.invokevirtual 290) 3 27 227 2 0 9,
  ze0 27 (.istore 4) 2 29, ze0 29 (.iload_n 1) 1 30, zex 30 (.ifCond .lt 9) 3 33 39 0 0, ze0 33 (.iload 4) 2 35, ze0 35 (.iload_n 2) 1 36, zex 36 (.if_icmp .le 8) 3 39 44 0 0,
  ze0 39 (.iload_n 3) 1 40, ze0 40 (.istore_n 1) 1 41, ze0 41 (.iload 4) 2 43, ze0 43 (.istore_n 2) 1 44, zev32 44 (.iinc 3 1) 3 47 1, zex 47 (.goto (-35)) 3 50 12 0 0,
  ze0 50 (.iload_n 1) 1 51, zex 51 (.ifCond .lt 13) 3 54 64 0 0, ze0 54 (.aload_n 0) 1 55, zev32 55 (.iconst 0) 1 56 0, zex 56 (.putfield 11) 3 59 9 1 0, ze0 59 (.aload_n 0) 1 60,
  ze0 60 (.iload_n 2) 1 61, zcal 61 (.invokevirtual 227) 3 64 174 2 1 9, ze0 64 (.iload_n 1) 1 65, ze0 65 .ireturn 1 66]
def zm_229 : zMi := ((yX9_worth, cX9_worth, 5, (some .int)), (9, 1, 7), zt_229, [(12, [0, 1, 2, 3]), (39, [0, 3, 4]), (44, [0, 1, 2, 3]), (64, [1])])
/-- NotWhereYesterdayModel.none()I -/
def zt_230 : zT := [ze0 0 (.aload_n 0) 1 1, zev32 1 (.iconst 0) 1 2 0, zex 2 (.putfield 3) 3 5 9 0 0, ze0 5 (.aload_n 0) 1 6, zcal 6 (.invokevirtual 272) 3 9 220 1 1 9, zev32 9 (.iconst 0) 1 10 0,
  ze0 10 (.istore_n 1) 1 11, zev32 11 (.iconst 0) 1 12 0, ze0 12 (.istore_n 2) 1 13, zev32 13 (.iconst 1) 1 14 1, ze0 14 (.istore_n 3) 1 15, ze0 15 (.iload_n 3) 1 16,
  zev32 16 (.iconst 1) 1 17 1, ze0 17 (.aload_n 0) 1 18, zex 18 (.getfield 37) 3 21 9 7 0, ze0 21 .ishl 1 22, zex 22 (.if_icmp .ge 125) 3 25 147 0 0, zev32 25 (.iconst 0) 1 26 0,
  ze0 26 (.istore 4) 2 28, zev32 28 (.iconst 1) 1 29 1, ze0 29 (.istore 5) 2 31, zev32 31 (.iconst 0) 1 32 0, ze0 32 (.istore 6) 2 34, ze0 34 (.iload 6) 2 36,
  ze0 36 (.aload_n 0) 1 37, zex 37 (.getfield 37) 3 40 9 7 0, zex 40 (.if_icmp .ge 52) 3 43 92 0 0, ze0 43 (.iload_n 3) 1 44, ze0 44 (.iload 6) 2 46, zcal 46 (.invokestatic 164) 3 49 172 2 0 9,
  zex 49 (.ifCond .eq 37) 3 52 86 0 0, ze0 52 (.iload 5) 2 54, zex 54 (.ifCond .eq 17) 3 57 71 0 0, ze0 57 (.aload_n 0) 1 58, zex 58 (.getfield 43) 3 61 9 9 2, ze0 61 (.iload 6) 2 63,
  ze0 63 .baload 1 64, zex 64 (.ifCond .eq 7) 3 67 71 0 0, zev32 67 (.iconst 1) 1 68 1, zex 68 (.goto 4) 3 71 72 0 0, zev32 71 (.iconst 0) 1 72 0, ze0 72 (.istore 5) 2 74,
  ze0 74 (.iload 4) 2 76, ze0 76 (.aload_n 0) 1 77, zex 77 (.getfield 263) 3 80 9 41 2, ze0 80 (.iload 6) 2 82, ze0 82 .iaload 1 83, ze0 83 .ior 1 84,
  ze0 84 (.istore 4) 2 86, zev32 86 (.iinc 6 1) 3 89 1, zex 89 (.goto (-55)) 3 92 34 0 0, ze0 92 (.iload 5) 2 94, zex 94 (.ifCond .eq 19) 3 97 113 0 0, ze0 97 (.iload_n 3) 1 98,
  zcal 98 (.invokestatic 293) 3 101 288 1 0 11, ze0 101 (.iload 4) 2 103, zcal 103 (.invokestatic 293) 3 106 288 1 0 11, zex 106 (.if_icmp .le 7) 3 109 113 0 0, zev32 109 (.iconst 1) 1 110 1, zex 110 (.goto 4) 3 113 114 0 0,
  zev32 113 (.iconst 0) 1 114 0, ze0 114 (.istore 6) 2 116, ze0 116 (.iload 6) 2 118, zex 118 (.ifCond .eq 23) 3 121 141 0 0, ze0 121 (.iload_n 1) 1 122, zex 122 (.ifCond .eq 14) 3 125 136 0 0,
  ze0 125 (.iload_n 3) 1 126, zcal 126 (.invokestatic 293) 3 129 288 1 0 11, ze0 129 (.iload_n 1) 1 130, zcal 130 (.invokestatic 293) 3 133 288 1 0 11, zex 133 (.if_icmp .ge 8) 3 136 141 0 0, ze0 136 (.iload_n 3) 1 137,
  ze0 137 (.istore_n 1) 1 138, ze0 138 (.iload 4) 2 140, ze0 140 (.istore_n 2) 1 141, zev32 141 (.iinc 3 1) 3 144 1, zex 144 (.goto (-129)) 3 147 15 0 0, ze0 147 (.aload_n 0) 1 148,
  zev32 148 (.iconst 0) 1 149 0, zex 149 (.putfield 11) 3 152 9 1 0, ze0 152 (.iload_n 1) 1 153, zex 153 (.ifCond .le 13) 3 156 166 0 0, ze0 156 (.aload_n 0) 1 157, ze0 157 (.iload_n 1) 1 158,
  zcal 158 (.invokevirtual 227) 3 161 174 2 1 9, ze0 161 (.aload_n 0) 1 162, ze0 162 (.iload_n 2) 1 163, zcal 163 (.invokevirtual 227) 3 166 174 2 1 9, ze0 166 (.iload_n 1) 1 167, zcal 167 (.invokestatic 293) 3 170 288 1 0 11,
  ze0 170 .ireturn 1 171]
def zm_230 : zMi := ((yX9_none, cX9_none, 7, (some .int)), (9, 1, 5), zt_230, [(15, [0, 1, 2, 3]), (34, [0, 1, 2, 3, 4, 5, 6]), (71, [0, 1, 2, 3, 4, 6]), (72, [0, 1, 2, 3, 4, 6]), (86, [0, 1, 2, 3, 4, 5, 6]), (113, [0, 1, 2, 3, 4]), (114, [0, 1, 2, 3, 4]), (136, [0, 3, 4]), (141, [0, 1, 2, 3]), (166, [1])])
/-- NotWhereYesterdayModel.can(I)I -/
def zt_231 : zT := [ze0 0 (.aload_n 0) 1 1, zev32 1 (.iconst 0) 1 2 0, zex 2 (.putfield 3) 3 5 9 0 0, ze0 5 (.aload_n 0) 1 6, ze0 6 (.iload_n 1) 1 7, zcal 7 (.invokevirtual 209) 3 10 178 2 0 9,
  zex 10 (.ifCond .ne 5) 3 13 15 0 0, zev32 13 (.iconst (-1)) 1 14 (-1), ze0 14 .ireturn 1 15, ze0 15 (.aload_n 0) 1 16, zcal 16 (.invokevirtual 272) 3 19 220 1 1 9, ze0 19 (.aload_n 0) 1 20,
  zex 20 (.getfield 263) 3 23 9 41 2, ze0 23 (.iload_n 1) 1 24, ze0 24 .iaload 1 25, ze0 25 .ireturn 1 26]
def zm_231 : zMi := ((yX9_can, cX9_can, 2, (some .int)), (9, 2, 5), zt_231, [])
/-- NotWhereYesterdayModel.breaksAt(III)I -/
def zt_232 : zT := [ze0 0 (.iload_n 3) 1 1, zex 1 (.ifCond .ge 5) 3 4 6 0 0, zev32 4 (.iconst 0) 1 5 0, ze0 5 .ireturn 1 6, ze0 6 (.aload_n 0) 1 7, ze0 7 (.iload_n 3) 1 8,
  ze0 8 (.iload_n 1) 1 9, ze0 9 (.aload_n 0) 1 10, zex 10 (.getfield 158) 3 13 9 15 0, zcal 13 (.invokevirtual 187) 3 16 194 4 0 9, zex 16 (.ifCond .le 7) 3 19 23 0 0, zev32 19 (.iconst 1) 1 20 1,
  zex 20 (.goto 4) 3 23 24 0 0, zev32 23 (.iconst 0) 1 24 0, zcal 24 (.invokestatic 71) 3 27 173 1 0 9, ze0 27 (.iload_n 2) 1 28, zex 28 (.ifCond .lt 20) 3 31 48 0 0, ze0 31 (.aload_n 0) 1 32,
  zex 32 (.getfield 266) 3 35 9 42 2, ze0 35 (.iload_n 2) 1 36, ze0 36 .iaload 1 37, ze0 37 (.iload_n 3) 1 38, zcal 38 (.invokestatic 164) 3 41 172 2 0 9, zex 41 (.ifCond .ne 7) 3 44 48 0 0,
  zev32 44 (.iconst 1) 1 45 1, zex 45 (.goto 4) 3 48 49 0 0, zev32 48 (.iconst 0) 1 49 0, zcal 49 (.invokestatic 71) 3 52 173 1 0 9, ze0 52 .iadd 1 53, ze0 53 .ireturn 1 54]
def zm_232 : zMi := ((yX9_breaksAt, cX9_breaksAt, 4, (some .int)), (9, 4, 4), zt_232, [(24, [0, 2, 3]), (48, []), (49, [])])
/-- NotWhereYesterdayModel.isAble(II)Z -/
def zt_233 : zT := [ze0 0 (.iload_n 2) 1 1, zex 1 (.ifCond .lt 24) 3 4 25 0 0, ze0 4 (.aload_n 0) 1 5, ze0 5 (.iload_n 2) 1 6, ze0 6 (.iload_n 1) 1 7, zcal 7 (.invokevirtual 191) 3 10 193 3 0 9,
  zex 10 (.ifCond .eq 19) 3 13 29 0 0, ze0 13 (.aload_n 0) 1 14, ze0 14 (.iload_n 2) 1 15, ze0 15 (.aload_n 0) 1 16, zex 16 (.getfield 158) 3 19 9 15 0, zcal 19 (.invokevirtual 171) 3 22 189 3 0 9,
  zex 22 (.ifCond .ne 7) 3 25 29 0 0, zev32 25 (.iconst 1) 1 26 1, zex 26 (.goto 4) 3 29 30 0 0, zev32 29 (.iconst 0) 1 30 0, ze0 30 .ireturn 1 31]
def zm_233 : zMi := ((yX9_isAble, cX9_isAble, 3, (some .boolean)), (9, 3, 3), zt_233, [(25, []), (29, []), (30, [])])
/-- NotWhereYesterdayModel.priced(IIII)I -/
def zt_234 : zT := [ze0 0 (.iload 4) 2 2, zex 2 (.ifCond .ge 7) 3 5 9 0 0, ze0 5 (.iload_n 2) 1 6, zex 6 (.goto 9) 3 9 15 0 0, ze0 9 (.iload_n 2) 1 10, zev32 10 (.iconst 1) 1 11 1,
  ze0 11 (.iload 4) 2 13, ze0 13 .ishl 1 14, ze0 14 .ior 1 15, ze0 15 (.istore 5) 2 17, ze0 17 (.aload_n 0) 1 18, ze0 18 (.iload_n 1) 1 19,
  ze0 19 (.iload 4) 2 21, zcal 21 (.invokevirtual 200) 3 24 199 3 0 9, ze0 24 (.aload_n 0) 1 25, zex 25 (.getfield 298) 3 28 9 45 0, ze0 28 (.aload_n 0) 1 29, ze0 29 (.iload_n 1) 1 30,
  ze0 30 (.iload_n 3) 1 31, ze0 31 (.iload 4) 2 33, zcal 33 (.invokevirtual 301) 3 36 232 4 0 9, ze0 36 .imul 1 37, ze0 37 .isub 1 38, ze0 38 (.aload_n 0) 1 39,
  zex 39 (.getfield 257) 3 42 9 40 2, ze0 42 (.aload_n 0) 1 43, ze0 43 (.iload_n 1) 1 44, zev32 44 (.iconst 1) 1 45 1, ze0 45 .iadd 1 46, ze0 46 (.iload 5) 2 48,
  ze0 48 (.iload 4) 2 50, zcal 50 (.invokevirtual 260) 3 53 217 4 0 9, ze0 53 .iaload 1 54, ze0 54 .iadd 1 55, ze0 55 .ireturn 1 56]
def zm_234 : zMi := ((yX9_priced, cX9_priced, 6, (some .int)), (9, 5, 5), zt_234, [(15, [0, 1, 3, 4])])
/-- NotWhereYesterdayModel.pricedLayer(I)V -/
def zt_235 : zT := [zev32 0 (.iconst 0) 1 1 0, ze0 1 (.istore_n 2) 1 2, ze0 2 (.iload_n 2) 1 3, zev32 3 (.iconst 1) 1 4 1, ze0 4 (.aload_n 0) 1 5, zex 5 (.getfield 22) 3 8 9 3 0,
  ze0 8 .ishl 1 9, zex 9 (.if_icmp .ge 122) 3 12 131 0 0, zev32 12 (.iconst (-1)) 1 13 (-1), ze0 13 (.istore_n 3) 1 14, ze0 14 (.iload_n 3) 1 15, ze0 15 (.aload_n 0) 1 16,
  zex 16 (.getfield 22) 3 19 9 3 0, zex 19 (.if_icmp .ge 106) 3 22 125 0 0, ze0 22 (.iload_n 3) 1 23, zex 23 (.ifCond .lt 14) 3 26 37 0 0, ze0 26 (.iload_n 2) 1 27, ze0 27 (.iload_n 3) 1 28,
  zcal 28 (.invokestatic 164) 3 31 172 2 0 9, zex 31 (.ifCond .ne 6) 3 34 37 0 0, zex 34 (.goto 85) 3 37 119 0 0, ze0 37 (.aload_n 0) 1 38, ze0 38 (.iload_n 1) 1 39, ze0 39 (.iload_n 2) 1 40,
  ze0 40 (.iload_n 3) 1 41, zev32 41 (.iconst (-1)) 1 42 (-1), zcal 42 (.invokevirtual 304) 3 45 234 5 0 9, ze0 45 (.istore 4) 2 47, zev32 47 (.iconst 0) 1 48 0, ze0 48 (.istore 5) 2 50,
  ze0 50 (.iload 5) 2 52, ze0 52 (.aload_n 0) 1 53, zex 53 (.getfield 22) 3 56 9 3 0, zex 56 (.if_icmp .ge 49) 3 59 105 0 0, ze0 59 (.iload_n 2) 1 60, ze0 60 (.iload 5) 2 62,
  zcal 62 (.invokestatic 164) 3 65 172 2 0 9, zex 65 (.ifCond .ne 30) 3 68 95 0 0, ze0 68 (.aload_n 0) 1 69, ze0 69 (.iload_n 1) 1 70, ze0 70 (.iload 5) 2 72, zcal 72 (.invokevirtual 308) 3 75 233 3 0 9,
  zex 75 (.ifCond .eq 20) 3 78 95 0 0, ze0 78 (.iload 4) 2 80, ze0 80 (.aload_n 0) 1 81, ze0 81 (.iload_n 1) 1 82, ze0 82 (.iload_n 2) 1 83, ze0 83 (.iload_n 3) 1 84,
  ze0 84 (.iload 5) 2 86, zcal 86 (.invokevirtual 304) 3 89 234 5 0 9, zcal 89 (.invokestatic 269) 3 92 0 2 8 0, zex 92 (.goto 5) 3 95 97 0 0, ze0 95 (.iload 4) 2 97, ze0 97 (.istore 4) 2 99,
  zev32 99 (.iinc 5 1) 3 102 1, zex 102 (.goto (-52)) 3 105 50 0 0, ze0 105 (.aload_n 0) 1 106, zex 106 (.getfield 257) 3 109 9 40 2, ze0 109 (.aload_n 0) 1 110, ze0 110 (.iload_n 1) 1 111,
  ze0 111 (.iload_n 2) 1 112, ze0 112 (.iload_n 3) 1 113, zcal 113 (.invokevirtual 260) 3 116 217 4 0 9, ze0 116 (.iload 4) 2 118, ze0 118 .iastore 1 119, zev32 119 (.iinc 3 1) 3 122 1,
  zex 122 (.goto (-108)) 3 125 14 0 0, zev32 125 (.iinc 2 1) 3 128 1, zex 128 (.goto (-126)) 3 131 2 0 0, ze0 131 .return_ 1 132]
def zm_235 : zMi := ((yX9_pricedLayer, cX9_pricedLayer, 6, none), (9, 2, 6), zt_235, [(2, [0, 1, 2]), (14, [0, 1, 2, 3]), (37, [0, 1, 2, 3]), (50, [0, 1, 2, 3, 4, 5]), (95, [0, 1, 2, 3, 4, 5]), (97, [0, 1, 2, 3, 5]), (119, [0, 1, 2, 3])])
/-- NotWhereYesterdayModel.breaking(I)I -/
def zt_236 : zT := [ze0 0 (.aload_n 0) 1 1, zev32 1 (.iconst 0) 1 2 0, zex 2 (.putfield 3) 3 5 9 0 0, ze0 5 (.iload_n 1) 1 6, ze0 6 .i2l 1 7, zev64 7 (.lconst 0) 1 8 0,
  zev64 8 (.ldc2_w 311) 3 11 5000, zcal 11 (.invokestatic 16) 3 14 171 3 0 9, zex 14 (.ifCond .ne 5) 3 17 19 0 0, zev32 17 (.iconst (-1)) 1 18 (-1), ze0 18 .ireturn 1 19, ze0 19 (.aload_n 0) 1 20,
  ze0 20 (.iload_n 1) 1 21, zex 21 (.putfield 298) 3 24 9 45 0, ze0 24 (.aload_n 0) 1 25, zcal 25 (.invokevirtual 272) 3 28 220 1 1 9, zev32 28 (.iconst 0) 1 29 0, ze0 29 (.istore_n 2) 1 30,
  ze0 30 (.iload_n 2) 1 31, zev32 31 (.iconst 1) 1 32 1, ze0 32 (.aload_n 0) 1 33, zex 33 (.getfield 22) 3 36 9 3 0, ze0 36 .ishl 1 37, zex 37 (.if_icmp .ge 41) 3 40 78 0 0,
  zev32 40 (.iconst (-1)) 1 41 (-1), ze0 41 (.istore_n 3) 1 42, ze0 42 (.iload_n 3) 1 43, ze0 43 (.aload_n 0) 1 44, zex 44 (.getfield 22) 3 47 9 3 0, zex 47 (.if_icmp .ge 25) 3 50 72 0 0,
  ze0 50 (.aload_n 0) 1 51, zex 51 (.getfield 257) 3 54 9 40 2, ze0 54 (.aload_n 0) 1 55, ze0 55 (.aload_n 0) 1 56, zex 56 (.getfield 37) 3 59 9 7 0, ze0 59 (.iload_n 2) 1 60,
  ze0 60 (.iload_n 3) 1 61, zcal 61 (.invokevirtual 260) 3 64 217 4 0 9, zev32 64 (.iconst 0) 1 65 0, ze0 65 .iastore 1 66, zev32 66 (.iinc 3 1) 3 69 1, zex 69 (.goto (-27)) 3 72 42 0 0,
  zev32 72 (.iinc 2 1) 3 75 1, zex 75 (.goto (-45)) 3 78 30 0 0, ze0 78 (.aload_n 0) 1 79, zex 79 (.getfield 37) 3 82 9 7 0, zev32 82 (.iconst 1) 1 83 1, ze0 83 .isub 1 84,
  ze0 84 (.istore_n 2) 1 85, ze0 85 (.iload_n 2) 1 86, zex 86 (.ifCond .lt 14) 3 89 100 0 0, ze0 89 (.aload_n 0) 1 90, ze0 90 (.iload_n 2) 1 91, zcal 91 (.invokevirtual 313) 3 94 235 2 1 9,
  zev32 94 (.iinc 2 (-1)) 3 97 (-1), zex 97 (.goto (-12)) 3 100 85 0 0, ze0 100 (.aload_n 0) 1 101, zex 101 (.getfield 257) 3 104 9 40 2, ze0 104 (.aload_n 0) 1 105, zev32 105 (.iconst 0) 1 106 0,
  zev32 106 (.iconst 0) 1 107 0, zev32 107 (.iconst (-1)) 1 108 (-1), zcal 108 (.invokevirtual 260) 3 111 217 4 0 9, ze0 111 .iaload 1 112, ze0 112 (.istore_n 2) 1 113, zev32 113 (.iconst 0) 1 114 0,
  ze0 114 (.istore_n 3) 1 115, zev32 115 (.iconst (-1)) 1 116 (-1), ze0 116 (.istore 4) 2 118, zev32 118 (.iconst 0) 1 119 0, ze0 119 (.istore 5) 2 121, zev32 121 (.iconst 0) 1 122 0,
  ze0 122 (.istore 6) 2 124, zev32 124 (.iconst 0) 1 125 0, ze0 125 (.istore 7) 2 127, ze0 127 (.iload 7) 2 129, ze0 129 (.aload_n 0) 1 130, zex 130 (.getfield 37) 3 133 9 7 0,
  zex 133 (.if_icmp .ge 128) 3 136 261 0 0, zev32 136 (.iconst (-1)) 1 137 (-1), ze0 137 (.istore 8) 2 139, ze0 139 (.iload 8) 2 141, zex 141 (.ifCond .lt 12) 3 144 153 0 0, ze0 144 (.iload_n 3) 1 145,
  ze0 145 (.iload 8) 2 147, zcal 147 (.invokestatic 164) 3 150 172 2 0 9, zex 150 (.ifCond .ne 42) 3 153 192 0 0, ze0 153 (.aload_n 0) 1 154, ze0 154 (.iload 7) 2 156, ze0 156 (.iload 8) 2 158,
  zcal 158 (.invokevirtual 308) 3 161 233 3 0 9, zex 161 (.ifCond .eq 31) 3 164 192 0 0, ze0 164 (.aload_n 0) 1 165, ze0 165 (.iload 7) 2 167, ze0 167 (.iload_n 3) 1 168, ze0 168 (.iload 4) 2 170,
  ze0 170 (.iload 8) 2 172, zcal 172 (.invokevirtual 304) 3 175 234 5 0 9, ze0 175 (.aload_n 0) 1 176, zex 176 (.getfield 257) 3 179 9 40 2, ze0 179 (.aload_n 0) 1 180, ze0 180 (.iload 7) 2 182,
  ze0 182 (.iload_n 3) 1 183, ze0 183 (.iload 4) 2 185, zcal 185 (.invokevirtual 260) 3 188 217 4 0 9, ze0 188 .iaload 1 189, zex 189 (.if_icmp .eq 9) 3 192 198 0 0, zev32 192 (.iinc 8 1) 3 195 1,
  zex 195 (.goto (-56)) 3 198 139 0 0, ze0 198 (.aload_n 0) 1 199, zex 199 (.getfield 278) 3 202 9 43 2, ze0 202 (.iload 7) 2 204, ze0 204 (.iload 8) 2 206, ze0 206 .iastore 1 207,
  ze0 207 (.iload 5) 2 209, ze0 209 (.aload_n 0) 1 210, ze0 210 (.iload 7) 2 212, ze0 212 (.iload 8) 2 214, zcal 214 (.invokevirtual 200) 3 217 199 3 0 9, ze0 217 .iadd 1 218,
  ze0 218 (.istore 5) 2 220, ze0 220 (.iload 6) 2 222, ze0 222 (.aload_n 0) 1 223, ze0 223 (.iload 7) 2 225, ze0 225 (.iload 4) 2 227, ze0 227 (.iload 8) 2 229,
  zcal 229 (.invokevirtual 301) 3 232 232 4 0 9, ze0 232 .iadd 1 233, ze0 233 (.istore 6) 2 235, ze0 235 (.iload_n 3) 1 236, ze0 236 (.iload 8) 2 238, zex 238 (.ifCond .ge 7) 3 241 245 0 0,
  zev32 241 (.iconst 0) 1 242 0, zex 242 (.goto 7) 3 245 249 0 0, zev32 245 (.iconst 1) 1 246 1, ze0 246 (.iload 8) 2 248, ze0 248 .ishl 1 249, ze0 249 .ior 1 250,
  ze0 250 (.istore_n 3) 1 251, ze0 251 (.iload 8) 2 253, ze0 253 (.istore 4) 2 255, zev32 255 (.iinc 7 1) 3 258 1, zex 258 (.goto (-131)) 3 261 127 0 0, ze0 261 (.aload_n 0) 1 262,
  zev32 262 (.iconst 0) 1 263 0, zex 263 (.putfield 11) 3 266 9 1 0, ze0 266 (.aload_n 0) 1 267, ze0 267 (.iload 5) 2 269, zcal 269 (.invokevirtual 227) 3 272 174 2 1 9, ze0 272 (.aload_n 0) 1 273,
  ze0 273 (.iload 6) 2 275, zcal 275 (.invokevirtual 227) 3 278 174 2 1 9, ze0 278 (.aload_n 0) 1 279, zcal 279 (.invokevirtual 284) 3 282 222 1 1 9, ze0 282 (.iload_n 2) 1 283, ze0 283 .ireturn 1 284]
def zm_236 : zMi := ((yX9_breaking, cX9_breaking, 9, (some .int)), (9, 2, 7), zt_236, [(30, [0, 2]), (42, [0, 2, 3]), (85, [0, 2]), (127, [0, 2, 3, 4, 5, 6, 7]), (139, [0, 2, 3, 4, 5, 6, 7, 8]), (153, [0, 2, 3, 4, 5, 6, 7, 8]), (192, [0, 2, 3, 4, 5, 6, 7, 8]), (249, [0, 2, 5, 6, 7, 8])])
/-- NotWhereYesterdayModel.few(I)I -/
def zt_237 : zT := [ze0 0 (.aload_n 0) 1 1, zev32 1 (.iconst 0) 1 2 0, zex 2 (.putfield 3) 3 5 9 0 0, ze0 5 (.aload_n 0) 1 6, ze0 6 (.iload_n 1) 1 7, zcal 7 (.invokevirtual 209) 3 10 178 2 0 9,
  zex 10 (.ifCond .ne 5) 3 13 15 0 0, zev32 13 (.iconst (-1)) 1 14 (-1), ze0 14 .ireturn 1 15, zev32 15 (.iconst 0) 1 16 0, ze0 16 (.istore_n 2) 1 17, zev32 17 (.iconst 0) 1 18 0,
  ze0 18 (.istore_n 3) 1 19, ze0 19 (.iload_n 3) 1 20, ze0 20 (.aload_n 0) 1 21, zex 21 (.getfield 22) 3 24 9 3 0, zex 24 (.if_icmp .ge 28) 3 27 52 0 0, ze0 27 (.iload_n 2) 1 28,
  ze0 28 (.aload_n 0) 1 29, ze0 29 (.iload_n 3) 1 30, ze0 30 (.iload_n 1) 1 31, zcal 31 (.invokevirtual 191) 3 34 193 3 0 9, zex 34 (.ifCond .eq 9) 3 37 43 0 0, zev32 37 (.iconst 1) 1 38 1,
  ze0 38 (.iload_n 3) 1 39, ze0 39 .ishl 1 40, zex 40 (.goto 4) 3 43 44 0 0, zev32 43 (.iconst 0) 1 44 0, ze0 44 .ior 1 45, ze0 45 (.istore_n 2) 1 46,
  zev32 46 (.iinc 3 1) 3 49 1, zex 49 (.goto (-30)) 3 52 19 0 0, ze0 52 (.aload_n 0) 1 53, zev32 53 (.iconst 0) 1 54 0, zex 54 (.putfield 11) 3 57 9 1 0, ze0 57 (.aload_n 0) 1 58,
  ze0 58 (.iload_n 2) 1 59, zcal 59 (.invokevirtual 227) 3 62 174 2 1 9, zev32 62 (.iconst 0) 1 63 0, ze0 63 (.aload_n 0) 1 64, zex 64 (.getfield 137) 3 67 9 19 0, ze0 67 (.iload_n 1) 1 68,
  zcal 68 (.invokestatic 164) 3 71 172 2 0 9, zex 71 (.ifCond .eq 7) 3 74 78 0 0, zev32 74 (.iconst 1) 1 75 1, zex 75 (.goto 9) 3 78 84 0 0, ze0 78 (.aload_n 0) 1 79, zex 79 (.getfield 131) 3 82 9 17 0,
  zev32 82 (.iconst 1) 1 83 1, ze0 83 .iadd 1 84, ze0 84 (.iload_n 2) 1 85, zcal 85 (.invokestatic 293) 3 88 288 1 0 11, ze0 88 .isub 1 89, zcal 89 (.invokestatic 269) 3 92 0 2 8 0,
  ze0 92 .ireturn 1 93]
def zm_237 : zMi := ((yX9_few, cX9_few, 4, (some .int)), (9, 2, 3), zt_237, [(19, [0, 1, 2, 3]), (44, [0, 1, 3]), (84, [2])])
/-- NotWhereYesterdayModel.till(II)I -/
def zt_238 : zT := [ze0 0 (.aload_n 0) 1 1, zev32 1 (.iconst 0) 1 2 0, zex 2 (.putfield 3) 3 5 9 0 0, ze0 5 (.aload_n 0) 1 6, ze0 6 (.iload_n 1) 1 7, zcal 7 (.invokevirtual 209) 3 10 178 2 0 9,
  zex 10 (.ifCond .eq 13) 3 13 23 0 0, ze0 13 (.iload_n 2) 1 14, ze0 14 .i2l 1 15, zev64 15 (.lconst 0) 1 16 0, zev64 16 (.lconst 1) 1 17 1, zcal 17 (.invokestatic 16) 3 20 171 3 0 9,
  zex 20 (.ifCond .ne 5) 3 23 25 0 0, zev32 23 (.iconst (-1)) 1 24 (-1), ze0 24 .ireturn 1 25, ze0 25 (.aload_n 0) 1 26, zex 26 (.getfield 234) 3 29 9 12 2, ze0 29 (.iload_n 1) 1 30,
  ze0 30 .iaload 1 31, ze0 31 (.istore_n 3) 1 32, ze0 32 (.iload_n 2) 1 33, zex 33 (.ifCond .ne 12) 3 36 45 0 0, ze0 36 (.aload_n 0) 1 37, zex 37 (.getfield 50) 3 40 9 11 2,
  ze0 40 (.iload_n 1) 1 41, ze0 41 .iaload 1 42, zex 42 (.goto 4) 3 45 46 0 0, zev32 45 (.iconst 0) 1 46 0, ze0 46 (.istore 4) 2 48, zev32 48 (.iconst 0) 1 49 0,
  ze0 49 (.istore 5) 2 51, ze0 51 (.aload_n 0) 1 52, zex 52 (.getfield 53) 3 55 9 14 2, ze0 55 (.iload_n 1) 1 56, ze0 56 .iaload 1 57, zex 57 (.ifCond .ge 7) 3 60 64 0 0,
  zev32 60 (.iconst 1) 1 61 1, zex 61 (.goto 4) 3 64 65 0 0, zev32 64 (.iconst 0) 1 65 0, ze0 65 (.istore 6) 2 67, ze0 67 (.iload_n 3) 1 68, zev32 68 (.bipush 10) 2 70 10,
  ze0 70 (.aload_n 0) 1 71, zex 71 (.getfield 47) 3 74 9 10 2, ze0 74 (.iload_n 1) 1 75, ze0 75 .iaload 1 76, ze0 76 .imul 1 77, zex 77 (.if_icmp .ge 44) 3 80 121 0 0,
  ze0 80 (.iload 4) 2 82, zev32 82 (.bipush 10) 2 84 10, zex 84 (.if_icmp .ne 11) 3 87 95 0 0, ze0 87 (.iload 6) 2 89, zex 89 (.ifCond .ne 6) 3 92 95 0 0, zev32 92 (.bipush (-2)) 2 94 (-2),
  ze0 94 .ireturn 1 95, ze0 95 (.iload_n 3) 1 96, zev32 96 (.bipush 10) 2 98 10, ze0 98 (.iload 6) 2 100, zex 100 (.ifCond .eq 7) 3 103 107 0 0, zev32 103 (.iconst 0) 1 104 0,
  zex 104 (.goto 5) 3 107 109 0 0, ze0 107 (.iload 4) 2 109, ze0 109 .isub 1 110, ze0 110 .iadd 1 111, ze0 111 (.istore_n 3) 1 112, zev32 112 (.iconst 0) 1 113 0,
  ze0 113 (.istore 6) 2 115, zev32 115 (.iinc 5 1) 3 118 1, zex 118 (.goto (-51)) 3 121 67 0 0, ze0 121 (.iload 5) 2 123, ze0 123 .ireturn 1 124]
def zm_238 : zMi := ((yX9_till, cX9_till, 7, (some .int)), (9, 3, 3), zt_238, [(23, []), (46, [0, 1, 3]), (65, [0, 1, 3, 4, 5]), (67, [0, 1, 3, 4, 5, 6]), (95, [0, 1, 3, 4, 5, 6]), (109, [0, 1, 4, 5])])
/-- NotWhereYesterdayModel.setsLaw(II)V -/
def zt_239 : zT := [ze0 0 (.aload_n 0) 1 1, ze0 1 (.iload_n 1) 1 2, zex 2 (.ifCond .ne 7) 3 5 9 0 0, ze0 5 (.iload_n 2) 1 6, zex 6 (.goto 7) 3 9 13 0 0, ze0 9 (.aload_n 0) 1 10,
  zex 10 (.getfield 131) 3 13 9 17 0, zex 13 (.putfield 131) 3 16 9 17 0, ze0 16 (.aload_n 0) 1 17, ze0 17 (.iload_n 1) 1 18, zev32 18 (.iconst 1) 1 19 1, zex 19 (.if_icmp .ne 7) 3 22 26 0 0,
  ze0 22 (.iload_n 2) 1 23, zex 23 (.goto 7) 3 26 30 0 0, ze0 26 (.aload_n 0) 1 27, zex 27 (.getfield 134) 3 30 9 18 0, zex 30 (.putfield 134) 3 33 9 18 0, ze0 33 .return_ 1 34]
def zm_239 : zMi := ((yX9_setsLaw, cX9_setsLaw, 3, none), (9, 3, 1), zt_239, [(13, [0, 1, 2]), (30, [])])
/-- NotWhereYesterdayModel.mayAll(I)Z -/
def zt_240 : zT := [zev32 0 (.iconst 1) 1 1 1, ze0 1 (.istore_n 2) 1 2, zev32 2 (.iconst 0) 1 3 0, ze0 3 (.istore_n 3) 1 4, ze0 4 (.iload_n 3) 1 5, ze0 5 (.aload_n 0) 1 6,
  zex 6 (.getfield 37) 3 9 9 7 0, zex 9 (.if_icmp .ge 87) 3 12 96 0 0, ze0 12 (.aload_n 0) 1 13, ze0 13 (.iload_n 1) 1 14, ze0 14 (.iload_n 3) 1 15, ze0 15 (.iload_n 1) 1 16,
  zcal 16 (.invokevirtual 197) 3 19 197 4 0 9, ze0 19 (.istore 4) 2 21, ze0 21 (.aload_n 0) 1 22, ze0 22 (.iload_n 1) 1 23, ze0 23 (.iload_n 3) 1 24, zcal 24 (.invokevirtual 161) 3 27 188 3 0 9,
  ze0 27 (.istore 5) 2 29, ze0 29 (.iload_n 3) 1 30, zex 30 (.ifCond .ne 7) 3 33 37 0 0, zev32 33 (.iconst (-1)) 1 34 (-1), zex 34 (.goto 11) 3 37 45 0 0, ze0 37 (.aload_n 0) 1 38,
  ze0 38 (.iload_n 1) 1 39, ze0 39 (.iload_n 3) 1 40, zev32 40 (.iconst 1) 1 41 1, ze0 41 .isub 1 42, zcal 42 (.invokevirtual 161) 3 45 188 3 0 9, ze0 45 (.istore 6) 2 47,
  ze0 47 (.iload_n 2) 1 48, zex 48 (.ifCond .eq 40) 3 51 88 0 0, ze0 51 (.iload 4) 2 53, zex 53 (.ifCond .eq 9) 3 56 62 0 0, ze0 56 (.iload 4) 2 58, zev32 58 (.iconst 4) 1 59 4,
  zex 59 (.if_icmp .ne 29) 3 62 88 0 0, ze0 62 (.iload 5) 2 64, zex 64 (.ifCond .lt 20) 3 67 84 0 0, ze0 67 (.iload 6) 2 69, zex 69 (.ifCond .lt 15) 3 72 84 0 0, ze0 72 (.aload_n 0) 1 73,
  ze0 73 (.iload 6) 2 75, ze0 75 (.iload 5) 2 77, ze0 77 (.iload_n 1) 1 78, zcal 78 (.invokevirtual 194) 3 81 196 4 0 9, zex 81 (.ifCond .eq 7) 3 84 88 0 0, zev32 84 (.iconst 1) 1 85 1,
  zex 85 (.goto 4) 3 88 89 0 0, zev32 88 (.iconst 0) 1 89 0, ze0 89 (.istore_n 2) 1 90, zev32 90 (.iinc 3 1) 3 93 1, zex 93 (.goto (-89)) 3 96 4 0 0, ze0 96 (.iload_n 2) 1 97,
  ze0 97 .ireturn 1 98]
def zm_240 : zMi := ((yX9_mayAll, cX9_mayAll, 7, (some .boolean)), (9, 2, 5), zt_240, [(4, [0, 1, 2, 3]), (45, [0, 1, 2, 3, 4, 5]), (62, [0, 1, 3, 5, 6]), (84, [0, 1, 3]), (88, [0, 1, 3]), (89, [0, 1, 3])])
/-- NotWhereYesterdayModel.law(II)I -/
def zt_241 : zT := [ze0 0 (.aload_n 0) 1 1, zev32 1 (.iconst 0) 1 2 0, zex 2 (.putfield 3) 3 5 9 0 0, ze0 5 (.iload_n 1) 1 6, ze0 6 .i2l 1 7, zev64 7 (.lconst 0) 1 8 0,
  zev64 8 (.lconst 1) 1 9 1, zcal 9 (.invokestatic 16) 3 12 171 3 0 9, zex 12 (.ifCond .eq 15) 3 15 27 0 0, ze0 15 (.iload_n 2) 1 16, ze0 16 .i2l 1 17, zev64 17 (.lconst 0) 1 18 0,
  zev64 18 (.ldc2_w 20) 3 21 9, zcal 21 (.invokestatic 16) 3 24 171 3 0 9, zex 24 (.ifCond .ne 5) 3 27 29 0 0, zev32 27 (.iconst (-1)) 1 28 (-1), ze0 28 .ireturn 1 29, ze0 29 (.iload_n 1) 1 30,
  zex 30 (.ifCond .ne 10) 3 33 40 0 0, ze0 33 (.aload_n 0) 1 34, zex 34 (.getfield 131) 3 37 9 17 0, zex 37 (.goto 7) 3 40 44 0 0, ze0 40 (.aload_n 0) 1 41, zex 41 (.getfield 134) 3 44 9 18 0,
  ze0 44 (.istore_n 3) 1 45, ze0 45 (.aload_n 0) 1 46, ze0 46 (.iload_n 1) 1 47, ze0 47 (.iload_n 2) 1 48, zcal 48 (.invokevirtual 316) 3 51 239 3 1 9, zev32 51 (.iconst 0) 1 52 0,
  ze0 52 (.istore 4) 2 54, zev32 54 (.iconst 0) 1 55 0, ze0 55 (.istore 5) 2 57, ze0 57 (.iload 5) 2 59, ze0 59 (.aload_n 0) 1 60, zex 60 (.getfield 158) 3 63 9 15 0,
  zex 63 (.if_icmp .ge 31) 3 66 94 0 0, ze0 66 (.iload 4) 2 68, ze0 68 (.aload_n 0) 1 69, ze0 69 (.iload 5) 2 71, zcal 71 (.invokevirtual 319) 3 74 240 2 0 9, zex 74 (.ifCond .ne 7) 3 77 81 0 0,
  zev32 77 (.iconst 1) 1 78 1, zex 78 (.goto 4) 3 81 82 0 0, zev32 81 (.iconst 0) 1 82 0, zcal 82 (.invokestatic 71) 3 85 173 1 0 9, ze0 85 .iadd 1 86, ze0 86 (.istore 4) 2 88,
  zev32 88 (.iinc 5 1) 3 91 1, zex 91 (.goto (-34)) 3 94 57 0 0, ze0 94 (.aload_n 0) 1 95, zev32 95 (.iconst 0) 1 96 0, zex 96 (.putfield 11) 3 99 9 1 0, ze0 99 (.aload_n 0) 1 100,
  ze0 100 (.aload_n 0) 1 101, zev32 101 (.iconst 0) 1 102 0, zcal 102 (.invokevirtual 281) 3 105 221 2 0 9, zcal 105 (.invokevirtual 227) 3 108 174 2 1 9, ze0 108 (.aload_n 0) 1 109, ze0 109 (.iload_n 1) 1 110,
  ze0 110 (.iload_n 3) 1 111, zcal 111 (.invokevirtual 316) 3 114 239 3 1 9, ze0 114 (.iload 4) 2 116, ze0 116 .ireturn 1 117]
def zm_241 : zMi := ((yX9_law, cX9_law, 6, (some .int)), (9, 3, 6), zt_241, [(27, []), (44, [0, 1, 2]), (57, [0, 1, 3, 4, 5]), (82, [0, 1, 3, 5])])
/-- NotWhereYesterdayModel.price(I)I -/
def zt_242 : zT := [ze0 0 (.aload_n 0) 1 1, zev32 1 (.iconst 0) 1 2 0, zex 2 (.putfield 3) 3 5 9 0 0, ze0 5 (.iload_n 1) 1 6, ze0 6 .i2l 1 7, zev64 7 (.lconst 0) 1 8 0,
  zev64 8 (.lconst 1) 1 9 1, zcal 9 (.invokestatic 16) 3 12 171 3 0 9, zex 12 (.ifCond .ne 5) 3 15 17 0 0, zev32 15 (.iconst (-1)) 1 16 (-1), ze0 16 .ireturn 1 17, ze0 17 (.iload_n 1) 1 18,
  zex 18 (.ifCond .ne 10) 3 21 28 0 0, ze0 21 (.aload_n 0) 1 22, zex 22 (.getfield 131) 3 25 9 17 0, zex 25 (.goto 7) 3 28 32 0 0, ze0 28 (.aload_n 0) 1 29, zex 29 (.getfield 134) 3 32 9 18 0,
  ze0 32 (.istore_n 2) 1 33, ze0 33 (.aload_n 0) 1 34, ze0 34 (.iload_n 1) 1 35, zev32 35 (.iconst 0) 1 36 0, zcal 36 (.invokevirtual 316) 3 39 239 3 1 9, ze0 39 (.aload_n 0) 1 40,
  zev32 40 (.iconst 0) 1 41 0, zcal 41 (.invokevirtual 281) 3 44 221 2 0 9, ze0 44 (.istore_n 3) 1 45, zev32 45 (.iconst 0) 1 46 0, ze0 46 (.istore 4) 2 48, zev32 48 (.iconst 1) 1 49 1,
  ze0 49 (.istore 5) 2 51, ze0 51 (.iload 5) 2 53, zev32 53 (.bipush 9) 2 55 9, zex 55 (.if_icmp .gt 34) 3 58 89 0 0, ze0 58 (.aload_n 0) 1 59, ze0 59 (.iload_n 1) 1 60,
  ze0 60 (.iload 5) 2 62, zcal 62 (.invokevirtual 316) 3 65 239 3 1 9, ze0 65 (.aload_n 0) 1 66, zev32 66 (.iconst 0) 1 67 0, zcal 67 (.invokevirtual 281) 3 70 221 2 0 9, ze0 70 (.iload_n 3) 1 71,
  zex 71 (.if_icmp .ne 8) 3 74 79 0 0, ze0 74 (.iload 5) 2 76, zex 76 (.goto 5) 3 79 81 0 0, ze0 79 (.iload 4) 2 81, ze0 81 (.istore 4) 2 83, zev32 83 (.iinc 5 1) 3 86 1,
  zex 86 (.goto (-35)) 3 89 51 0 0, ze0 89 (.aload_n 0) 1 90, ze0 90 (.iload_n 1) 1 91, ze0 91 (.iload_n 2) 1 92, zcal 92 (.invokevirtual 316) 3 95 239 3 1 9, ze0 95 (.aload_n 0) 1 96,
  zev32 96 (.iconst 0) 1 97 0, zex 97 (.putfield 11) 3 100 9 1 0, ze0 100 (.aload_n 0) 1 101, ze0 101 (.iload_n 3) 1 102, zcal 102 (.invokevirtual 227) 3 105 174 2 1 9, ze0 105 (.iload 4) 2 107,
  ze0 107 .ireturn 1 108]
def zm_242 : zMi := ((yX9_price, cX9_price, 6, (some .int)), (9, 2, 6), zt_242, [(32, [0, 1]), (51, [0, 1, 2, 3, 4, 5]), (81, [0, 1, 2, 3, 5])])
/-- NotWhereYesterdayModel.written()I -/
def zt_243 : zT := [ze0 0 (.aload_n 0) 1 1, zev32 1 (.iconst 0) 1 2 0, zex 2 (.putfield 3) 3 5 9 0 0, zev32 5 (.iconst 0) 1 6 0, ze0 6 (.istore_n 1) 1 7, zev32 7 (.iconst 0) 1 8 0,
  ze0 8 (.istore_n 2) 1 9, ze0 9 (.iload_n 2) 1 10, ze0 10 (.aload_n 0) 1 11, zex 11 (.getfield 22) 3 14 9 3 0, zex 14 (.if_icmp .ge 41) 3 17 55 0 0, zev32 17 (.iconst 0) 1 18 0,
  ze0 18 (.istore_n 3) 1 19, ze0 19 (.iload_n 3) 1 20, ze0 20 (.aload_n 0) 1 21, zex 21 (.getfield 37) 3 24 9 7 0, zex 24 (.if_icmp .ge 25) 3 27 49 0 0, ze0 27 (.iload_n 1) 1 28,
  ze0 28 (.aload_n 0) 1 29, ze0 29 (.iload_n 2) 1 30, ze0 30 (.iload_n 3) 1 31, ze0 31 (.aload_n 0) 1 32, zex 32 (.getfield 158) 3 35 9 15 0, zcal 35 (.invokevirtual 177) 3 38 190 4 0 9,
  zcal 38 (.invokestatic 71) 3 41 173 1 0 9, ze0 41 .iadd 1 42, ze0 42 (.istore_n 1) 1 43, zev32 43 (.iinc 3 1) 3 46 1, zex 46 (.goto (-27)) 3 49 19 0 0, zev32 49 (.iinc 2 1) 3 52 1,
  zex 52 (.goto (-43)) 3 55 9 0 0, zev32 55 (.iconst 0) 1 56 0, ze0 56 (.istore_n 2) 1 57, zev32 57 (.iconst 0) 1 58 0, ze0 58 (.istore_n 3) 1 59, ze0 59 (.iload_n 3) 1 60,
  ze0 60 (.aload_n 0) 1 61, zex 61 (.getfield 22) 3 64 9 3 0, zex 64 (.if_icmp .ge 49) 3 67 113 0 0, zev32 67 (.iconst 0) 1 68 0, ze0 68 (.istore 4) 2 70, ze0 70 (.iload 4) 2 72,
  ze0 72 (.iload_n 3) 1 73, zex 73 (.if_icmp .ge 34) 3 76 107 0 0, ze0 76 (.iload_n 2) 1 77, ze0 77 (.aload_n 0) 1 78, ze0 78 (.iload_n 3) 1 79, ze0 79 (.iload 4) 2 81,
  ze0 81 (.aload_n 0) 1 82, zex 82 (.getfield 158) 3 85 9 15 0, zcal 85 (.invokevirtual 194) 3 88 196 4 0 9, zex 88 (.ifCond .ne 7) 3 91 95 0 0, zev32 91 (.iconst 1) 1 92 1, zex 92 (.goto 4) 3 95 96 0 0,
  zev32 95 (.iconst 0) 1 96 0, zcal 96 (.invokestatic 71) 3 99 173 1 0 9, ze0 99 .iadd 1 100, ze0 100 (.istore_n 2) 1 101, zev32 101 (.iinc 4 1) 3 104 1, zex 104 (.goto (-34)) 3 107 70 0 0,
  zev32 107 (.iinc 3 1) 3 110 1, zex 110 (.goto (-51)) 3 113 59 0 0, ze0 113 (.aload_n 0) 1 114, zev32 114 (.iconst 0) 1 115 0, zex 115 (.putfield 11) 3 118 9 1 0, ze0 118 (.aload_n 0) 1 119,
  ze0 119 (.iload_n 2) 1 120, zcal 120 (.invokevirtual 227) 3 123 174 2 1 9, ze0 123 (.iload_n 1) 1 124, ze0 124 .ireturn 1 125]
def zm_243 : zMi := ((yX9_written, cX9_written, 5, (some .int)), (9, 1, 4), zt_243, [(9, [0, 1, 2]), (19, [0, 1, 2, 3]), (59, [0, 1, 2, 3]), (70, [0, 1, 2, 3, 4]), (96, [0, 1, 3, 4])])
/-- NotWhereYesterdayModel.isFew()Z -/
def zt_244 : zT := [ze0 0 (.aload_n 0) 1 1, zex 1 (.getfield 22) 3 4 9 3 0, zev32 4 (.iconst 5) 1 5 5, zex 5 (.if_icmp .gt 15) 3 8 20 0 0, ze0 8 (.aload_n 0) 1 9, zex 9 (.getfield 37) 3 12 9 7 0,
  zev32 12 (.iconst 5) 1 13 5, zex 13 (.if_icmp .gt 7) 3 16 20 0 0, zev32 16 (.iconst 1) 1 17 1, zex 17 (.goto 4) 3 20 21 0 0, zev32 20 (.iconst 0) 1 21 0, ze0 21 .ireturn 1 22]
def zm_244 : zMi := ((yX9_isFew, cX9_isFew, 1, (some .boolean)), (9, 1, 1), zt_244, [(20, []), (21, [])])
/-- NotWhereYesterdayModel.lists(II)V -/
def zt_245 : zT := [ze0 0 (.iload_n 1) 1 1, ze0 1 (.aload_n 0) 1 2, zex 2 (.getfield 37) 3 5 9 7 0, zex 5 (.if_icmp .ne 49) 3 8 54 0 0, zev32 8 (.iconst 0) 1 9 0, ze0 9 (.istore_n 3) 1 10,
  ze0 10 (.iload_n 3) 1 11, ze0 11 (.aload_n 0) 1 12, zex 12 (.getfield 37) 3 15 9 7 0, zex 15 (.if_icmp .ge 28) 3 18 43 0 0, ze0 18 (.aload_n 0) 1 19, zex 19 (.getfield 322) 3 22 9 46 2,
  zev32 22 (.iconst 5) 1 23 5, ze0 23 (.aload_n 0) 1 24, zex 24 (.getfield 325) 3 27 9 47 0, ze0 27 .imul 1 28, ze0 28 (.iload_n 3) 1 29, ze0 29 .iadd 1 30,
  ze0 30 (.aload_n 0) 1 31, zex 31 (.getfield 328) 3 34 9 50 2, ze0 34 (.iload_n 3) 1 35, ze0 35 .iaload 1 36, ze0 36 .iastore 1 37, zev32 37 (.iinc 3 1) 3 40 1,
  zex 40 (.goto (-30)) 3 43 10 0 0, ze0 43 (.aload_n 0) 1 44, ze0 44 .dup 1 45, zex 45 (.getfield 325) 3 48 9 47 0, zev32 48 (.iconst 1) 1 49 1, ze0 49 .iadd 1 50,
  zex 50 (.putfield 325) 3 53 9 47 0, ze0 53 .return_ 1 54, zev32 54 (.iconst 0) 1 55 0, ze0 55 (.istore_n 3) 1 56, ze0 56 (.iload_n 3) 1 57, ze0 57 (.aload_n 0) 1 58,
  zex 58 (.getfield 22) 3 61 9 3 0, zex 61 (.if_icmp .ge 45) 3 64 106 0 0, ze0 64 (.iload_n 2) 1 65, ze0 65 (.iload_n 3) 1 66, zcal 66 (.invokestatic 164) 3 69 172 2 0 9, zex 69 (.ifCond .ne 31) 3 72 100 0 0,
  ze0 72 (.aload_n 0) 1 73, ze0 73 (.iload_n 3) 1 74, ze0 74 (.iload_n 1) 1 75, zcal 75 (.invokevirtual 191) 3 78 193 3 0 9, zex 78 (.ifCond .eq 22) 3 81 100 0 0, ze0 81 (.aload_n 0) 1 82,
  zex 82 (.getfield 328) 3 85 9 50 2, ze0 85 (.iload_n 1) 1 86, ze0 86 (.iload_n 3) 1 87, ze0 87 .iastore 1 88, ze0 88 (.aload_n 0) 1 89, ze0 89 (.iload_n 1) 1 90,
  zev32 90 (.iconst 1) 1 91 1, ze0 91 .iadd 1 92, ze0 92 (.iload_n 2) 1 93, zev32 93 (.iconst 1) 1 94 1, ze0 94 (.iload_n 3) 1 95, ze0 95 .ishl 1 96,
  ze0 96 .ior 1 97, zcal 97 (.invokevirtual 331) 3 100 245 3 3 9, zev32 100 (.iinc 3 1) 3 103 1, zex 103 (.goto (-47)) 3 106 56 0 0, ze0 106 .return_ 1 107]
def zm_245 : zMi := ((yX9_lists, cX9_lists, 4, none), (9, 3, 3), zt_245, [(10, [0, 3]), (56, [0, 1, 2, 3]), (100, [0, 1, 2, 3])])
/-- NotWhereYesterdayModel.listsAll()V -/
def zt_246 : zT := [ze0 0 (.aload_n 0) 1 1, zev32 1 (.iconst 0) 1 2 0, zex 2 (.putfield 325) 3 5 9 47 0, ze0 5 (.aload_n 0) 1 6, zev32 6 (.iconst 0) 1 7 0, zev32 7 (.iconst 0) 1 8 0,
  zcal 8 (.invokevirtual 331) 3 11 245 3 1 9, ze0 11 .return_ 1 12]
def zm_246 : zMi := ((yX9_listsAll, cX9_listsAll, 1, none), (9, 1, 4), zt_246, [])
/-- NotWhereYesterdayModel.satBeside([IIIII)Z -/
def zt_247 : zT := [zev32 0 (.iconst 0) 1 1 0, ze0 1 (.istore 5) 2 3, zev32 3 (.iconst 1) 1 4 1, ze0 4 (.istore 6) 2 6, ze0 6 (.iload 6) 2 8, ze0 8 (.iload_n 2) 1 9,
  zex 9 (.if_icmp .ge 65) 3 12 74 0 0, ze0 12 (.aload_n 0) 1 13, ze0 13 (.iload_n 1) 1 14, ze0 14 (.iload 6) 2 16, ze0 16 .iadd 1 17, zev32 17 (.iconst 1) 1 18 1,
  ze0 18 .isub 1 19, ze0 19 .iaload 1 20, ze0 20 (.istore 7) 2 22, ze0 22 (.aload_n 0) 1 23, ze0 23 (.iload_n 1) 1 24, ze0 24 (.iload 6) 2 26,
  ze0 26 .iadd 1 27, ze0 27 .iaload 1 28, ze0 28 (.istore 8) 2 30, ze0 30 (.iload 5) 2 32, zex 32 (.ifCond .ne 29) 3 35 61 0 0, ze0 35 (.iload 7) 2 37,
  ze0 37 (.iload_n 3) 1 38, zex 38 (.if_icmp .ne 10) 3 41 48 0 0, ze0 41 (.iload 8) 2 43, ze0 43 (.iload 4) 2 45, zex 45 (.if_icmp .eq 16) 3 48 61 0 0, ze0 48 (.iload 7) 2 50,
  ze0 50 (.iload 4) 2 52, zex 52 (.if_icmp .ne 13) 3 55 65 0 0, ze0 55 (.iload 8) 2 57, ze0 57 (.iload_n 3) 1 58, zex 58 (.if_icmp .ne 7) 3 61 65 0 0, zev32 61 (.iconst 1) 1 62 1,
  zex 62 (.goto 4) 3 65 66 0 0, zev32 65 (.iconst 0) 1 66 0, ze0 66 (.istore 5) 2 68, zev32 68 (.iinc 6 1) 3 71 1, zex 71 (.goto (-65)) 3 74 6 0 0, ze0 74 (.iload 5) 2 76,
  ze0 76 .ireturn 1 77]
def zm_247 : zMi := ((yX9_satBeside, cX9_satBeside, 9, (some .boolean)), (9, 5, 1), zt_247, [(6, [0, 1, 2, 3, 4, 5, 6]), (48, [0, 1, 2, 3, 4, 6, 7, 8]), (61, [0, 1, 2, 3, 4, 6]), (65, [0, 1, 2, 3, 4, 6]), (66, [0, 1, 2, 3, 4, 6])])
/-- NotWhereYesterdayModel.follows([III)Z -/
def zt_248 : zT := [zev32 0 (.iconst 0) 1 1 0, ze0 1 (.istore 4) 2 3, ze0 3 (.iload 4) 2 5, ze0 5 (.aload_n 0) 1 6, zex 6 (.getfield 37) 3 9 9 7 0, zex 9 (.if_icmp .ge 141) 3 12 150 0 0,
  ze0 12 (.aload_n 0) 1 13, zex 13 (.getfield 322) 3 16 9 46 2, zev32 16 (.iconst 5) 1 17 5, ze0 17 (.iload_n 3) 1 18, ze0 18 .imul 1 19, ze0 19 (.iload 4) 2 21,
  ze0 21 .iadd 1 22, ze0 22 .iaload 1 23, ze0 23 (.istore 5) 2 25, ze0 25 (.aload_n 0) 1 26, zex 26 (.getfield 131) 3 29 9 17 0, zex 29 (.ifCond .le 28) 3 32 57 0 0,
  ze0 32 (.aload_n 0) 1 33, zex 33 (.getfield 137) 3 36 9 19 0, ze0 36 (.iload 4) 2 38, zcal 38 (.invokestatic 164) 3 41 172 2 0 9, zex 41 (.ifCond .ne 16) 3 44 57 0 0, ze0 44 (.aload_n 1) 1 45,
  ze0 45 (.iload_n 2) 1 46, ze0 46 (.iload 4) 2 48, ze0 48 .iadd 1 49, ze0 49 .iaload 1 50, ze0 50 (.iload 5) 2 52, zex 52 (.if_icmp .ne 5) 3 55 57 0 0,
  zev32 55 (.iconst 0) 1 56 0, ze0 56 .ireturn 1 57, zev32 57 (.iconst 0) 1 58 0, ze0 58 (.istore 6) 2 60, ze0 60 (.iload 6) 2 62, ze0 62 (.aload_n 0) 1 63,
  zex 63 (.getfield 37) 3 66 9 7 0, zex 66 (.if_icmp .ge 37) 3 69 103 0 0, ze0 69 (.aload_n 1) 1 70, ze0 70 (.iload_n 2) 1 71, ze0 71 (.iload 6) 2 73, ze0 73 .iadd 1 74,
  ze0 74 .iaload 1 75, ze0 75 (.iload 5) 2 77, zex 77 (.if_icmp .ne 20) 3 80 97 0 0, ze0 80 (.aload_n 0) 1 81, zex 81 (.getfield 143) 3 84 9 20 2, ze0 84 (.iload 6) 2 86,
  ze0 86 .iaload 1 87, ze0 87 (.iload 4) 2 89, zcal 89 (.invokestatic 164) 3 92 172 2 0 9, zex 92 (.ifCond .eq 5) 3 95 97 0 0, zev32 95 (.iconst 0) 1 96 0, ze0 96 .ireturn 1 97,
  zev32 97 (.iinc 6 1) 3 100 1, zex 100 (.goto (-40)) 3 103 60 0 0, ze0 103 (.iload 4) 2 105, zex 105 (.ifCond .le 39) 3 108 144 0 0, ze0 108 (.aload_n 0) 1 109, zex 109 (.getfield 134) 3 112 9 18 0,
  zex 112 (.ifCond .le 32) 3 115 144 0 0, ze0 115 (.aload_n 1) 1 116, ze0 116 (.iload_n 2) 1 117, ze0 117 (.aload_n 0) 1 118, zex 118 (.getfield 37) 3 121 9 7 0, ze0 121 (.aload_n 0) 1 122,
  zex 122 (.getfield 322) 3 125 9 46 2, zev32 125 (.iconst 5) 1 126 5, ze0 126 (.iload_n 3) 1 127, ze0 127 .imul 1 128, ze0 128 (.iload 4) 2 130, ze0 130 .iadd 1 131,
  zev32 131 (.iconst 1) 1 132 1, ze0 132 .isub 1 133, ze0 133 .iaload 1 134, ze0 134 (.iload 5) 2 136, zcal 136 (.invokestatic 333) 3 139 247 5 0 9, zex 139 (.ifCond .eq 5) 3 142 144 0 0,
  zev32 142 (.iconst 0) 1 143 0, ze0 143 .ireturn 1 144, zev32 144 (.iinc 4 1) 3 147 1, zex 147 (.goto (-144)) 3 150 3 0 0, zev32 150 (.iconst 1) 1 151 1, ze0 151 .ireturn 1 152]
def zm_248 : zMi := ((yX9_follows, cX9_follows, 7, (some .boolean)), (9, 4, 2), zt_248, [(3, [0, 1, 2, 3, 4]), (57, [0, 1, 2, 3, 4, 5]), (60, [0, 1, 2, 3, 4, 5, 6]), (97, [0, 1, 2, 3, 4, 5, 6]), (144, [0, 1, 2, 3, 4])])
/-- NotWhereYesterdayModel.leadsAll()V -/
def zt_249 : zT := [ze0 0 (.aload_n 0) 1 1, zcal 1 (.invokevirtual 337) 3 4 246 1 1 9, zev32 4 (.iconst 0) 1 5 0, ze0 5 (.istore_n 1) 1 6, ze0 6 (.iload_n 1) 1 7, ze0 7 (.aload_n 0) 1 8,
  zex 8 (.getfield 325) 3 11 9 47 0, zex 11 (.if_icmp .ge 48) 3 14 59 0 0, zev32 14 (.iconst 0) 1 15 0, ze0 15 (.istore_n 2) 1 16, ze0 16 (.iload_n 2) 1 17, ze0 17 (.aload_n 0) 1 18,
  zex 18 (.getfield 325) 3 21 9 47 0, zex 21 (.if_icmp .ge 32) 3 24 53 0 0, ze0 24 (.aload_n 0) 1 25, zex 25 (.getfield 340) 3 28 9 48 2, zev32 28 (.bipush 120) 2 30 120, ze0 30 (.iload_n 1) 1 31,
  ze0 31 .imul 1 32, ze0 32 (.iload_n 2) 1 33, ze0 33 .iadd 1 34, ze0 34 (.aload_n 0) 1 35, ze0 35 (.aload_n 0) 1 36, zex 36 (.getfield 322) 3 39 9 46 2,
  zev32 39 (.iconst 5) 1 40 5, ze0 40 (.iload_n 1) 1 41, ze0 41 .imul 1 42, ze0 42 (.iload_n 2) 1 43, zcal 43 (.invokevirtual 343) 3 46 248 4 0 9, ze0 46 .bastore 1 47,
  zev32 47 (.iinc 2 1) 3 50 1, zex 50 (.goto (-34)) 3 53 16 0 0, zev32 53 (.iinc 1 1) 3 56 1, zex 56 (.goto (-50)) 3 59 6 0 0, ze0 59 .return_ 1 60]
def zm_249 : zMi := ((yX9_leadsAll, cX9_leadsAll, 3, none), (9, 1, 5), zt_249, [(6, [0, 1]), (16, [0, 1, 2])])
/-- NotWhereYesterdayModel.goesForEver()I -/
def zt_250 : zT := [ze0 0 (.aload_n 0) 1 1, zcal 1 (.invokevirtual 347) 3 4 249 1 1 9, ze0 4 (.aload_n 0) 1 5, zex 5 (.getfield 325) 3 8 9 47 0, ze0 8 (.istore_n 1) 1 9, zev32 9 (.iconst 0) 1 10 0,
  ze0 10 (.istore_n 2) 1 11, ze0 11 (.iload_n 2) 1 12, ze0 12 (.aload_n 0) 1 13, zex 13 (.getfield 325) 3 16 9 47 0, zex 16 (.if_icmp .ge 16) 3 19 32 0 0, ze0 19 (.aload_n 0) 1 20,
  zex 20 (.getfield 350) 3 23 9 49 2, ze0 23 (.iload_n 2) 1 24, zev32 24 (.iconst 1) 1 25 1, ze0 25 .bastore 1 26, zev32 26 (.iinc 2 1) 3 29 1, zex 29 (.goto (-18)) 3 32 11 0 0,
  zev32 32 (.iconst 1) 1 33 1, ze0 33 (.istore_n 2) 1 34, ze0 34 (.iload_n 2) 1 35, zex 35 (.ifCond .eq 108) 3 38 143 0 0, zev32 38 (.iconst 0) 1 39 0, ze0 39 (.istore_n 2) 1 40,
  zev32 40 (.iconst 0) 1 41 0, ze0 41 (.istore_n 3) 1 42, ze0 42 (.iload_n 3) 1 43, ze0 43 (.aload_n 0) 1 44, zex 44 (.getfield 325) 3 47 9 47 0, zex 47 (.if_icmp .ge 93) 3 50 140 0 0,
  zev32 50 (.iconst 0) 1 51 0, ze0 51 (.istore 4) 2 53, zev32 53 (.iconst 0) 1 54 0, ze0 54 (.istore 5) 2 56, ze0 56 (.iload 5) 2 58, ze0 58 (.aload_n 0) 1 59,
  zex 59 (.getfield 325) 3 62 9 47 0, zex 62 (.if_icmp .ge 46) 3 65 108 0 0, ze0 65 (.iload 4) 2 67, zex 67 (.ifCond .ne 28) 3 70 95 0 0, ze0 70 (.aload_n 0) 1 71, zex 71 (.getfield 340) 3 74 9 48 2,
  zev32 74 (.bipush 120) 2 76 120, ze0 76 (.iload_n 3) 1 77, ze0 77 .imul 1 78, ze0 78 (.iload 5) 2 80, ze0 80 .iadd 1 81, ze0 81 .baload 1 82,
  zex 82 (.ifCond .eq 17) 3 85 99 0 0, ze0 85 (.aload_n 0) 1 86, zex 86 (.getfield 350) 3 89 9 49 2, ze0 89 (.iload 5) 2 91, ze0 91 .baload 1 92, zex 92 (.ifCond .eq 7) 3 95 99 0 0,
  zev32 95 (.iconst 1) 1 96 1, zex 96 (.goto 4) 3 99 100 0 0, zev32 99 (.iconst 0) 1 100 0, ze0 100 (.istore 4) 2 102, zev32 102 (.iinc 5 1) 3 105 1, zex 105 (.goto (-49)) 3 108 56 0 0,
  ze0 108 (.aload_n 0) 1 109, zex 109 (.getfield 350) 3 112 9 49 2, ze0 112 (.iload_n 3) 1 113, ze0 113 .baload 1 114, zex 114 (.ifCond .eq 20) 3 117 134 0 0, ze0 117 (.iload 4) 2 119,
  zex 119 (.ifCond .ne 15) 3 122 134 0 0, ze0 122 (.aload_n 0) 1 123, zex 123 (.getfield 350) 3 126 9 49 2, ze0 126 (.iload_n 3) 1 127, zev32 127 (.iconst 0) 1 128 0, ze0 128 .bastore 1 129,
  zev32 129 (.iinc 1 (-1)) 3 132 (-1), zev32 132 (.iconst 1) 1 133 1, ze0 133 (.istore_n 2) 1 134, zev32 134 (.iinc 3 1) 3 137 1, zex 137 (.goto (-95)) 3 140 42 0 0, zex 140 (.goto (-106)) 3 143 34 0 0,
  ze0 143 (.iload_n 1) 1 144, ze0 144 .ireturn 1 145]
def zm_250 : zMi := ((yX9_goesForEver, cX9_goesForEver, 6, (some .int)), (9, 1, 6), zt_250, [(11, [0, 1, 2]), (34, [0, 1, 2]), (42, [0, 1, 2, 3]), (56, [0, 1, 2, 3, 4, 5]), (95, [0, 1, 2, 3, 5]), (99, [0, 1, 2, 3, 5]), (100, [0, 1, 2, 3, 5]), (134, [0, 1, 2, 3])])
/-- NotWhereYesterdayModel.ever()I -/
def zt_251 : zT := [ze0 0 (.aload_n 0) 1 1, zev32 1 (.iconst 0) 1 2 0, zex 2 (.putfield 3) 3 5 9 0 0, ze0 5 (.aload_n 0) 1 6, zcal 6 (.invokevirtual 353) 3 9 244 1 0 9, zex 9 (.ifCond .ne 6) 3 12 15 0 0,
  zev32 12 (.bipush (-3)) 2 14 (-3), ze0 14 .ireturn 1 15, ze0 15 (.aload_n 0) 1 16, zcal 16 (.invokevirtual 356) 3 19 250 1 0 9, ze0 19 (.istore_n 1) 1 20, ze0 20 (.aload_n 0) 1 21,
  zev32 21 (.iconst 0) 1 22 0, zex 22 (.putfield 11) 3 25 9 1 0, ze0 25 (.aload_n 0) 1 26, ze0 26 (.aload_n 0) 1 27, zex 27 (.getfield 325) 3 30 9 47 0, zcal 30 (.invokevirtual 227) 3 33 174 2 1 9,
  ze0 33 (.iload_n 1) 1 34, ze0 34 .ireturn 1 35]
def zm_251 : zMi := ((yX9_ever, cX9_ever, 2, (some .int)), (9, 1, 7), zt_251, [])
/-- NotWhereYesterdayModel.reaches(I)V -/
def zt_252 : zT := [zev32 0 (.iconst 0) 1 1 0, ze0 1 (.istore_n 2) 1 2, ze0 2 (.iload_n 2) 1 3, ze0 3 (.aload_n 0) 1 4, zex 4 (.getfield 325) 3 7 9 47 0, zex 7 (.if_icmp .ge 16) 3 10 23 0 0,
  ze0 10 (.aload_n 0) 1 11, zex 11 (.getfield 359) 3 14 9 51 2, ze0 14 (.iload_n 2) 1 15, zev32 15 (.iconst (-1)) 1 16 (-1), ze0 16 .iastore 1 17, zev32 17 (.iinc 2 1) 3 20 1,
  zex 20 (.goto (-18)) 3 23 2 0 0, ze0 23 (.aload_n 0) 1 24, zex 24 (.getfield 359) 3 27 9 51 2, ze0 27 (.iload_n 1) 1 28, zev32 28 (.iconst 0) 1 29 0, ze0 29 .iastore 1 30,
  ze0 30 (.aload_n 0) 1 31, zex 31 (.getfield 362) 3 34 9 52 2, zev32 34 (.iconst 0) 1 35 0, ze0 35 (.iload_n 1) 1 36, ze0 36 .iastore 1 37, zev32 37 (.iconst 1) 1 38 1,
  ze0 38 (.istore_n 2) 1 39, zev32 39 (.iconst 0) 1 40 0, ze0 40 (.istore_n 3) 1 41, ze0 41 (.iload_n 3) 1 42, ze0 42 (.iload_n 2) 1 43, zex 43 (.if_icmp .ge 88) 3 46 131 0 0,
  zev32 46 (.iconst 0) 1 47 0, ze0 47 (.istore 4) 2 49, ze0 49 (.iload 4) 2 51, ze0 51 (.aload_n 0) 1 52, zex 52 (.getfield 325) 3 55 9 47 0, zex 55 (.if_icmp .ge 70) 3 58 125 0 0,
  ze0 58 (.aload_n 0) 1 59, zex 59 (.getfield 359) 3 62 9 51 2, ze0 62 (.iload 4) 2 64, ze0 64 .iaload 1 65, zex 65 (.ifCond .ge 54) 3 68 119 0 0, ze0 68 (.aload_n 0) 1 69,
  zex 69 (.getfield 340) 3 72 9 48 2, zev32 72 (.bipush 120) 2 74 120, ze0 74 (.iload 4) 2 76, ze0 76 .imul 1 77, ze0 77 (.aload_n 0) 1 78, zex 78 (.getfield 362) 3 81 9 52 2,
  ze0 81 (.iload_n 3) 1 82, ze0 82 .iaload 1 83, ze0 83 .iadd 1 84, ze0 84 .baload 1 85, zex 85 (.ifCond .eq 34) 3 88 119 0 0, ze0 88 (.aload_n 0) 1 89,
  zex 89 (.getfield 359) 3 92 9 51 2, ze0 92 (.iload 4) 2 94, ze0 94 (.aload_n 0) 1 95, zex 95 (.getfield 359) 3 98 9 51 2, ze0 98 (.aload_n 0) 1 99, zex 99 (.getfield 362) 3 102 9 52 2,
  ze0 102 (.iload_n 3) 1 103, ze0 103 .iaload 1 104, ze0 104 .iaload 1 105, zev32 105 (.iconst 1) 1 106 1, ze0 106 .iadd 1 107, ze0 107 .iastore 1 108,
  ze0 108 (.aload_n 0) 1 109, zex 109 (.getfield 362) 3 112 9 52 2, ze0 112 (.iload_n 2) 1 113, ze0 113 (.iload 4) 2 115, ze0 115 .iastore 1 116, zev32 116 (.iinc 2 1) 3 119 1,
  zev32 119 (.iinc 4 1) 3 122 1, zex 122 (.goto (-73)) 3 125 49 0 0, zev32 125 (.iinc 3 1) 3 128 1, zex 128 (.goto (-87)) 3 131 41 0 0, ze0 131 .return_ 1 132]
def zm_252 : zMi := ((yX9_reaches, cX9_reaches, 5, none), (9, 2, 1), zt_252, [(2, [0, 1, 2]), (41, [0, 2, 3]), (49, [0, 2, 3, 4]), (119, [0, 2, 3, 4])])
/-- NotWhereYesterdayModel.nextRound(I)I -/
def zt_253 : zT := [ze0 0 (.aload_n 0) 1 1, ze0 1 (.iload_n 1) 1 2, zcal 2 (.invokevirtual 365) 3 5 252 2 1 9, zev32 5 (.iconst (-1)) 1 6 (-1), ze0 6 (.istore_n 2) 1 7, zev32 7 (.iconst 0) 1 8 0,
  ze0 8 (.istore_n 3) 1 9, ze0 9 (.iload_n 3) 1 10, ze0 10 (.aload_n 0) 1 11, zex 11 (.getfield 325) 3 14 9 47 0, zex 14 (.if_icmp .ge 53) 3 17 67 0 0, ze0 17 (.aload_n 0) 1 18,
  zex 18 (.getfield 340) 3 21 9 48 2, zev32 21 (.bipush 120) 2 23 120, ze0 23 (.iload_n 1) 1 24, ze0 24 .imul 1 25, ze0 25 (.iload_n 3) 1 26, ze0 26 .iadd 1 27,
  ze0 27 .baload 1 28, zex 28 (.ifCond .eq 33) 3 31 61 0 0, ze0 31 (.aload_n 0) 1 32, zex 32 (.getfield 359) 3 35 9 51 2, ze0 35 (.iload_n 3) 1 36, ze0 36 .iaload 1 37,
  zex 37 (.ifCond .lt 24) 3 40 61 0 0, ze0 40 (.iload_n 2) 1 41, zex 41 (.ifCond .lt 18) 3 44 59 0 0, ze0 44 (.aload_n 0) 1 45, zex 45 (.getfield 359) 3 48 9 51 2, ze0 48 (.iload_n 3) 1 49,
  ze0 49 .iaload 1 50, ze0 50 (.aload_n 0) 1 51, zex 51 (.getfield 359) 3 54 9 51 2, ze0 54 (.iload_n 2) 1 55, ze0 55 .iaload 1 56, zex 56 (.if_icmp .ge 5) 3 59 61 0 0,
  ze0 59 (.iload_n 3) 1 60, ze0 60 (.istore_n 2) 1 61, zev32 61 (.iinc 3 1) 3 64 1, zex 64 (.goto (-55)) 3 67 9 0 0, ze0 67 (.iload_n 2) 1 68, ze0 68 .ireturn 1 69]
def zm_253 : zMi := ((yX9_nextRound, cX9_nextRound, 4, (some .int)), (9, 2, 2), zt_253, [(9, [0, 1, 2, 3]), (59, [0, 1, 3]), (61, [0, 1, 2, 3])])
/-- NotWhereYesterdayModel.entersList(I)V -/
def zt_254 : zT := [zev32 0 (.iconst 0) 1 1 0, ze0 1 (.istore_n 2) 1 2, ze0 2 (.iload_n 2) 1 3, ze0 3 (.aload_n 0) 1 4, zex 4 (.getfield 37) 3 7 9 7 0, zex 7 (.if_icmp .ge 23) 3 10 30 0 0,
  ze0 10 (.aload_n 0) 1 11, ze0 11 (.aload_n 0) 1 12, zex 12 (.getfield 322) 3 15 9 46 2, zev32 15 (.iconst 5) 1 16 5, ze0 16 (.iload_n 1) 1 17, ze0 17 .imul 1 18,
  ze0 18 (.iload_n 2) 1 19, ze0 19 .iadd 1 20, ze0 20 .iaload 1 21, zcal 21 (.invokevirtual 227) 3 24 174 2 1 9, zev32 24 (.iinc 2 1) 3 27 1, zex 27 (.goto (-25)) 3 30 2 0 0,
  ze0 30 .return_ 1 31]
def zm_254 : zMi := ((yX9_entersList, cX9_entersList, 3, none), (9, 2, 2), zt_254, [(2, [0, 1, 2])])
/-- NotWhereYesterdayModel.round()I -/
def zt_255 : zT := [ze0 0 (.aload_n 0) 1 1, zev32 1 (.iconst 0) 1 2 0, zex 2 (.putfield 3) 3 5 9 0 0, ze0 5 (.aload_n 0) 1 6, zcal 6 (.invokevirtual 353) 3 9 244 1 0 9, zex 9 (.ifCond .ne 6) 3 12 15 0 0,
  zev32 12 (.bipush (-3)) 2 14 (-3), ze0 14 .ireturn 1 15, ze0 15 (.aload_n 0) 1 16, zcal 16 (.invokevirtual 347) 3 19 249 1 1 9, zev32 19 (.bipush (-2)) 2 21 (-2), ze0 21 (.istore_n 1) 1 22,
  zev32 22 (.iconst 0) 1 23 0, ze0 23 (.istore_n 2) 1 24, zev32 24 (.iconst 0) 1 25 0, ze0 25 (.istore_n 3) 1 26, zev32 26 (.iconst 0) 1 27 0, ze0 27 (.istore 4) 2 29,
  ze0 29 (.iload 4) 2 31, ze0 31 (.aload_n 0) 1 32, zex 32 (.getfield 325) 3 35 9 47 0, zex 35 (.if_icmp .ge 55) 3 38 90 0 0, ze0 38 (.aload_n 0) 1 39, ze0 39 (.iload 4) 2 41,
  zcal 41 (.invokevirtual 368) 3 44 253 2 0 9, ze0 44 (.istore 5) 2 46, ze0 46 (.iload 5) 2 48, zex 48 (.ifCond .lt 36) 3 51 84 0 0, ze0 51 (.iload_n 1) 1 52, zex 52 (.ifCond .lt 16) 3 55 68 0 0,
  ze0 55 (.aload_n 0) 1 56, zex 56 (.getfield 359) 3 59 9 51 2, ze0 59 (.iload 5) 2 61, ze0 61 .iaload 1 62, zev32 62 (.iconst 1) 1 63 1, ze0 63 .iadd 1 64,
  ze0 64 (.iload_n 1) 1 65, zex 65 (.if_icmp .ge 19) 3 68 84 0 0, ze0 68 (.aload_n 0) 1 69, zex 69 (.getfield 359) 3 72 9 51 2, ze0 72 (.iload 5) 2 74, ze0 74 .iaload 1 75,
  zev32 75 (.iconst 1) 1 76 1, ze0 76 .iadd 1 77, ze0 77 (.istore_n 1) 1 78, ze0 78 (.iload 4) 2 80, ze0 80 (.istore_n 2) 1 81, ze0 81 (.iload 5) 2 83,
  ze0 83 (.istore_n 3) 1 84, zev32 84 (.iinc 4 1) 3 87 1, zex 87 (.goto (-58)) 3 90 29 0 0, ze0 90 (.iload_n 1) 1 91, zex 91 (.ifCond .le 18) 3 94 109 0 0, ze0 94 (.aload_n 0) 1 95,
  zev32 95 (.iconst 0) 1 96 0, zex 96 (.putfield 11) 3 99 9 1 0, ze0 99 (.aload_n 0) 1 100, ze0 100 (.iload_n 2) 1 101, zcal 101 (.invokevirtual 371) 3 104 254 2 1 9, ze0 104 (.aload_n 0) 1 105,
  ze0 105 (.iload_n 3) 1 106, zcal 106 (.invokevirtual 371) 3 109 254 2 1 9, ze0 109 (.iload_n 1) 1 110, ze0 110 .ireturn 1 111]
def zm_255 : zMi := ((yX9_round, cX9_round, 6, (some .int)), (9, 1, 6), zt_255, [(29, [0, 1, 2, 3, 4]), (68, [0, 4, 5]), (84, [0, 1, 2, 3, 4]), (109, [1])])
/-- NotWhereYesterdayModel.lasts()I -/
def zt_256 : zT := [ze0 0 (.aload_n 0) 1 1, zev32 1 (.iconst 0) 1 2 0, zex 2 (.putfield 3) 3 5 9 0 0, ze0 5 (.aload_n 0) 1 6, zcal 6 (.invokevirtual 353) 3 9 244 1 0 9, zex 9 (.ifCond .ne 6) 3 12 15 0 0,
  zev32 12 (.bipush (-3)) 2 14 (-3), ze0 14 .ireturn 1 15, ze0 15 (.aload_n 0) 1 16, zcal 16 (.invokevirtual 347) 3 19 249 1 1 9, zev32 19 (.iconst 0) 1 20 0, ze0 20 (.istore_n 1) 1 21,
  zev32 21 (.iconst 0) 1 22 0, ze0 22 (.istore_n 2) 1 23, ze0 23 (.iload_n 2) 1 24, ze0 24 (.aload_n 0) 1 25, zex 25 (.getfield 325) 3 28 9 47 0, zex 28 (.if_icmp .ge 67) 3 31 95 0 0,
  ze0 31 (.aload_n 0) 1 32, zex 32 (.getfield 374) 3 35 9 53 2, ze0 35 (.iload_n 2) 1 36, ze0 36 (.aload_n 0) 1 37, zex 37 (.getfield 158) 3 40 9 15 0, zex 40 (.ifCond .eq 24) 3 43 64 0 0,
  ze0 43 (.aload_n 0) 1 44, ze0 44 (.aload_n 0) 1 45, zex 45 (.getfield 56) 3 48 9 16 2, zev32 48 (.bipush 10) 2 50 10, ze0 50 (.aload_n 0) 1 51, zex 51 (.getfield 158) 3 54 9 15 0,
  zev32 54 (.iconst 1) 1 55 1, ze0 55 .isub 1 56, ze0 56 .imul 1 57, ze0 57 (.iload_n 2) 1 58, zcal 58 (.invokevirtual 343) 3 61 248 4 0 9, zex 61 (.ifCond .eq 7) 3 64 68 0 0,
  zev32 64 (.iconst 1) 1 65 1, zex 65 (.goto 4) 3 68 69 0 0, zev32 68 (.iconst 0) 1 69 0, ze0 69 .bastore 1 70, ze0 70 (.iload_n 1) 1 71, zex 71 (.ifCond .ne 12) 3 74 83 0 0,
  ze0 74 (.aload_n 0) 1 75, zex 75 (.getfield 374) 3 78 9 53 2, ze0 78 (.iload_n 2) 1 79, ze0 79 .baload 1 80, zex 80 (.ifCond .eq 7) 3 83 87 0 0, zev32 83 (.iconst 1) 1 84 1,
  zex 84 (.goto 4) 3 87 88 0 0, zev32 87 (.iconst 0) 1 88 0, ze0 88 (.istore_n 1) 1 89, zev32 89 (.iinc 2 1) 3 92 1, zex 92 (.goto (-69)) 3 95 23 0 0, zev32 95 (.iconst 0) 1 96 0,
  ze0 96 (.istore_n 2) 1 97, ze0 97 (.iload_n 1) 1 98, zex 98 (.ifCond .eq 150) 3 101 248 0 0, ze0 101 (.iload_n 2) 1 102, zev32 102 (.bipush 20) 2 104 20, zex 104 (.if_icmp .ge 144) 3 107 248 0 0,
  zev32 107 (.iinc 2 1) 3 110 1, zev32 110 (.iconst 0) 1 111 0, ze0 111 (.istore_n 1) 1 112, zev32 112 (.iconst 0) 1 113 0, ze0 113 (.istore_n 3) 1 114, ze0 114 (.iload_n 3) 1 115,
  ze0 115 (.aload_n 0) 1 116, zex 116 (.getfield 325) 3 119 9 47 0, zex 119 (.if_icmp .ge 98) 3 122 217 0 0, ze0 122 (.aload_n 0) 1 123, zex 123 (.getfield 377) 3 126 9 54 2, ze0 126 (.iload_n 3) 1 127,
  zev32 127 (.iconst 0) 1 128 0, ze0 128 .bastore 1 129, zev32 129 (.iconst 0) 1 130 0, ze0 130 (.istore 4) 2 132, ze0 132 (.iload 4) 2 134, ze0 134 (.aload_n 0) 1 135,
  zex 135 (.getfield 325) 3 138 9 47 0, zex 138 (.if_icmp .ge 54) 3 141 192 0 0, ze0 141 (.aload_n 0) 1 142, zex 142 (.getfield 377) 3 145 9 54 2, ze0 145 (.iload_n 3) 1 146, ze0 146 (.aload_n 0) 1 147,
  zex 147 (.getfield 377) 3 150 9 54 2, ze0 150 (.iload_n 3) 1 151, ze0 151 .baload 1 152, zex 152 (.ifCond .ne 28) 3 155 180 0 0, ze0 155 (.aload_n 0) 1 156, zex 156 (.getfield 374) 3 159 9 53 2,
  ze0 159 (.iload 4) 2 161, ze0 161 .baload 1 162, zex 162 (.ifCond .eq 22) 3 165 184 0 0, ze0 165 (.aload_n 0) 1 166, zex 166 (.getfield 340) 3 169 9 48 2, zev32 169 (.bipush 120) 2 171 120,
  ze0 171 (.iload 4) 2 173, ze0 173 .imul 1 174, ze0 174 (.iload_n 3) 1 175, ze0 175 .iadd 1 176, ze0 176 .baload 1 177, zex 177 (.ifCond .eq 7) 3 180 184 0 0,
  zev32 180 (.iconst 1) 1 181 1, zex 181 (.goto 4) 3 184 185 0 0, zev32 184 (.iconst 0) 1 185 0, ze0 185 .bastore 1 186, zev32 186 (.iinc 4 1) 3 189 1, zex 189 (.goto (-57)) 3 192 132 0 0,
  ze0 192 (.iload_n 1) 1 193, zex 193 (.ifCond .ne 12) 3 196 205 0 0, ze0 196 (.aload_n 0) 1 197, zex 197 (.getfield 377) 3 200 9 54 2, ze0 200 (.iload_n 3) 1 201, ze0 201 .baload 1 202,
  zex 202 (.ifCond .eq 7) 3 205 209 0 0, zev32 205 (.iconst 1) 1 206 1, zex 206 (.goto 4) 3 209 210 0 0, zev32 209 (.iconst 0) 1 210 0, ze0 210 (.istore_n 1) 1 211, zev32 211 (.iinc 3 1) 3 214 1,
  zex 214 (.goto (-100)) 3 217 114 0 0, zev32 217 (.iconst 0) 1 218 0, ze0 218 (.istore_n 3) 1 219, ze0 219 (.iload_n 3) 1 220, ze0 220 (.aload_n 0) 1 221, zex 221 (.getfield 325) 3 224 9 47 0,
  zex 224 (.if_icmp .ge 21) 3 227 245 0 0, ze0 227 (.aload_n 0) 1 228, zex 228 (.getfield 374) 3 231 9 53 2, ze0 231 (.iload_n 3) 1 232, ze0 232 (.aload_n 0) 1 233, zex 233 (.getfield 377) 3 236 9 54 2,
  ze0 236 (.iload_n 3) 1 237, ze0 237 .baload 1 238, ze0 238 .bastore 1 239, zev32 239 (.iinc 3 1) 3 242 1, zex 242 (.goto (-23)) 3 245 219 0 0, zex 245 (.goto (-148)) 3 248 97 0 0,
  ze0 248 (.iload_n 2) 1 249, ze0 249 .ireturn 1 250]
def zm_256 : zMi := ((yX9_lasts, cX9_lasts, 5, (some .int)), (9, 1, 6), zt_256, [(23, [0, 1, 2]), (64, [0, 1, 2]), (69, [0, 1, 2]), (83, [0, 2]), (88, [0, 2]), (97, [0, 1, 2]), (114, [0, 1, 2, 3]), (132, [0, 1, 2, 3, 4]), (180, [0, 1, 2, 3, 4]), (184, [0, 1, 2, 3, 4]), (185, [0, 1, 2, 3, 4]), (205, [0, 2, 3]), (210, [0, 2, 3]), (219, [0, 1, 2, 3]), (248, [2])])
/-- NotWhereYesterdayModel.lessonDoes(I)Z -/
def zt_257 : zT := [ze0 0 (.aload_n 0) 1 1, zex 1 (.getfield 25) 3 4 9 4 2, ze0 4 (.iload_n 1) 1 5, zev32 5 (.bipush 6) 2 7 6, ze0 7 .idiv 1 8, ze0 8 .dup2 1 9,
  ze0 9 .iaload 1 10, zev32 10 (.iconst 1) 1 11 1, ze0 11 (.iload_n 1) 1 12, zev32 12 (.bipush 6) 2 14 6, ze0 14 .irem 1 15, ze0 15 .ishl 1 16,
  ze0 16 .ior 1 17, ze0 17 .iastore 1 18, ze0 18 (.aload_n 0) 1 19, zcal 19 (.invokevirtual 356) 3 22 250 1 0 9, zex 22 (.ifCond .le 7) 3 25 29 0 0, zev32 25 (.iconst 1) 1 26 1,
  zex 26 (.goto 4) 3 29 30 0 0, zev32 29 (.iconst 0) 1 30 0, ze0 30 (.istore_n 2) 1 31, ze0 31 (.aload_n 0) 1 32, zex 32 (.getfield 25) 3 35 9 4 2, ze0 35 (.iload_n 1) 1 36,
  zev32 36 (.bipush 6) 2 38 6, ze0 38 .idiv 1 39, ze0 39 .dup2 1 40, ze0 40 .iaload 1 41, zev32 41 (.iconst 1) 1 42 1, ze0 42 (.iload_n 1) 1 43,
  zev32 43 (.bipush 6) 2 45 6, ze0 45 .irem 1 46, ze0 46 .ishl 1 47, zev32 47 (.iconst (-1)) 1 48 (-1), ze0 48 .ixor 1 49, ze0 49 .iand 1 50,
  ze0 50 .iastore 1 51, ze0 51 (.iload_n 2) 1 52, ze0 52 .ireturn 1 53]
def zm_257 : zMi := ((yX9_lessonDoes, cX9_lessonDoes, 3, (some .boolean)), (9, 2, 7), zt_257, [(30, [0, 1])])
/-- NotWhereYesterdayModel.isLesson(I)Z -/
def zt_258 : zT := [ze0 0 (.aload_n 0) 1 1, zex 1 (.getfield 25) 3 4 9 4 2, ze0 4 (.iload_n 1) 1 5, zev32 5 (.bipush 6) 2 7 6, ze0 7 .idiv 1 8, ze0 8 .iaload 1 9,
  ze0 9 (.iload_n 1) 1 10, zev32 10 (.bipush 6) 2 12 6, ze0 12 .irem 1 13, zcal 13 (.invokestatic 164) 3 16 172 2 0 9, zex 16 (.ifCond .ne 7) 3 19 23 0 0, zev32 19 (.iconst 1) 1 20 1,
  zex 20 (.goto 4) 3 23 24 0 0, zev32 23 (.iconst 0) 1 24 0, ze0 24 .ireturn 1 25]
def zm_258 : zMi := ((yX9_isLesson, cX9_isLesson, 2, (some .boolean)), (9, 2, 2), zt_258, [(24, [])])
/-- NotWhereYesterdayModel.entersLesson(I)V -/
def zt_259 : zT := [ze0 0 (.aload_n 0) 1 1, ze0 1 (.iload_n 1) 1 2, zev32 2 (.bipush 6) 2 4 6, ze0 4 .idiv 1 5, zcal 5 (.invokevirtual 227) 3 8 174 2 1 9, ze0 8 (.aload_n 0) 1 9,
  ze0 9 (.iload_n 1) 1 10, zev32 10 (.bipush 6) 2 12 6, ze0 12 .irem 1 13, zcal 13 (.invokevirtual 227) 3 16 174 2 1 9, ze0 16 .return_ 1 17]
def zm_259 : zMi := ((yX9_entersLesson, cX9_entersLesson, 2, none), (9, 2, 2), zt_259, [])
/-- NotWhereYesterdayModel.lessons()I -/
def zt_260 : zT := [ze0 0 (.aload_n 0) 1 1, zev32 1 (.iconst 0) 1 2 0, zex 2 (.putfield 3) 3 5 9 0 0, ze0 5 (.aload_n 0) 1 6, zcal 6 (.invokevirtual 353) 3 9 244 1 0 9, zex 9 (.ifCond .ne 6) 3 12 15 0 0,
  zev32 12 (.bipush (-3)) 2 14 (-3), ze0 14 .ireturn 1 15, ze0 15 (.aload_n 0) 1 16, zcal 16 (.invokevirtual 356) 3 19 250 1 0 9, zex 19 (.ifCond .le 10) 3 22 29 0 0, ze0 22 (.aload_n 0) 1 23,
  zev32 23 (.iconst 0) 1 24 0, zex 24 (.putfield 11) 3 27 9 1 0, zev32 27 (.iconst 0) 1 28 0, ze0 28 .ireturn 1 29, zev32 29 (.iconst 0) 1 30 0, ze0 30 (.istore_n 1) 1 31,
  ze0 31 (.iload_n 1) 1 32, zev32 32 (.bipush 6) 2 34 6, ze0 34 (.aload_n 0) 1 35, zex 35 (.getfield 22) 3 38 9 3 0, ze0 38 .imul 1 39, zex 39 (.if_icmp .ge 37) 3 42 76 0 0,
  ze0 42 (.aload_n 0) 1 43, ze0 43 (.iload_n 1) 1 44, zcal 44 (.invokevirtual 380) 3 47 258 2 0 9, zex 47 (.ifCond .eq 23) 3 50 70 0 0, ze0 50 (.aload_n 0) 1 51, ze0 51 (.iload_n 1) 1 52,
  zcal 52 (.invokevirtual 383) 3 55 257 2 0 9, zex 55 (.ifCond .eq 15) 3 58 70 0 0, ze0 58 (.aload_n 0) 1 59, zev32 59 (.iconst 0) 1 60 0, zex 60 (.putfield 11) 3 63 9 1 0, ze0 63 (.aload_n 0) 1 64,
  ze0 64 (.iload_n 1) 1 65, zcal 65 (.invokevirtual 386) 3 68 259 2 1 9, zev32 68 (.iconst 1) 1 69 1, ze0 69 .ireturn 1 70, zev32 70 (.iinc 1 1) 3 73 1, zex 73 (.goto (-42)) 3 76 31 0 0,
  zev32 76 (.iconst 0) 1 77 0, ze0 77 (.istore_n 1) 1 78, ze0 78 (.iload_n 1) 1 79, zev32 79 (.bipush 6) 2 81 6, ze0 81 (.aload_n 0) 1 82, zex 82 (.getfield 22) 3 85 9 3 0,
  ze0 85 .imul 1 86, zex 86 (.if_icmp .ge 128) 3 89 214 0 0, ze0 89 (.aload_n 0) 1 90, ze0 90 (.iload_n 1) 1 91, zcal 91 (.invokevirtual 380) 3 94 258 2 0 9, zex 94 (.ifCond .ne 6) 3 97 100 0 0,
  zex 97 (.goto 111) 3 100 208 0 0, ze0 100 (.aload_n 0) 1 101, zex 101 (.getfield 25) 3 104 9 4 2, ze0 104 (.iload_n 1) 1 105, zev32 105 (.bipush 6) 2 107 6, ze0 107 .idiv 1 108,
  ze0 108 .dup2 1 109, ze0 109 .iaload 1 110, zev32 110 (.iconst 1) 1 111 1, ze0 111 (.iload_n 1) 1 112, zev32 112 (.bipush 6) 2 114 6, ze0 114 .irem 1 115,
  ze0 115 .ishl 1 116, ze0 116 .ior 1 117, ze0 117 .iastore 1 118, zev32 118 (.iconst (-1)) 1 119 (-1), ze0 119 (.istore_n 2) 1 120, ze0 120 (.iload_n 1) 1 121,
  zev32 121 (.iconst 1) 1 122 1, ze0 122 .iadd 1 123, ze0 123 (.istore_n 3) 1 124, ze0 124 (.iload_n 3) 1 125, zev32 125 (.bipush 6) 2 127 6, ze0 127 (.aload_n 0) 1 128,
  zex 128 (.getfield 22) 3 131 9 3 0, ze0 131 .imul 1 132, zex 132 (.if_icmp .ge 35) 3 135 167 0 0, ze0 135 (.iload_n 2) 1 136, zex 136 (.ifCond .ge 31) 3 139 167 0 0, ze0 139 (.aload_n 0) 1 140,
  ze0 140 (.iload_n 3) 1 141, zcal 141 (.invokevirtual 380) 3 144 258 2 0 9, zex 144 (.ifCond .eq 15) 3 147 159 0 0, ze0 147 (.aload_n 0) 1 148, ze0 148 (.iload_n 3) 1 149, zcal 149 (.invokevirtual 383) 3 152 257 2 0 9,
  zex 152 (.ifCond .eq 7) 3 155 159 0 0, ze0 155 (.iload_n 3) 1 156, zex 156 (.goto 4) 3 159 160 0 0, zev32 159 (.iconst (-1)) 1 160 (-1), ze0 160 (.istore_n 2) 1 161, zev32 161 (.iinc 3 1) 3 164 1,
  zex 164 (.goto (-40)) 3 167 124 0 0, ze0 167 (.aload_n 0) 1 168, zex 168 (.getfield 25) 3 171 9 4 2, ze0 171 (.iload_n 1) 1 172, zev32 172 (.bipush 6) 2 174 6, ze0 174 .idiv 1 175,
  ze0 175 .dup2 1 176, ze0 176 .iaload 1 177, zev32 177 (.iconst 1) 1 178 1, ze0 178 (.iload_n 1) 1 179, zev32 179 (.bipush 6) 2 181 6, ze0 181 .irem 1 182,
  ze0 182 .ishl 1 183, zev32 183 (.iconst (-1)) 1 184 (-1), ze0 184 .ixor 1 185, ze0 185 .iand 1 186, ze0 186 .iastore 1 187, ze0 187 (.iload_n 2) 1 188,
  zex 188 (.ifCond .lt 20) 3 191 208 0 0, ze0 191 (.aload_n 0) 1 192, zev32 192 (.iconst 0) 1 193 0, zex 193 (.putfield 11) 3 196 9 1 0, ze0 196 (.aload_n 0) 1 197, ze0 197 (.iload_n 1) 1 198,
  zcal 198 (.invokevirtual 386) 3 201 259 2 1 9, ze0 201 (.aload_n 0) 1 202, ze0 202 (.iload_n 2) 1 203, zcal 203 (.invokevirtual 386) 3 206 259 2 1 9, zev32 206 (.iconst 2) 1 207 2, ze0 207 .ireturn 1 208,
  zev32 208 (.iinc 1 1) 3 211 1, zex 211 (.goto (-133)) 3 214 78 0 0, zev32 214 (.bipush (-2)) 2 216 (-2), ze0 216 .ireturn 1 217]
def zm_260 : zMi := ((yX9_lessons, cX9_lessons, 4, (some .int)), (9, 1, 8), zt_260, [(31, [0, 1]), (70, [0, 1]), (78, [0, 1]), (124, [0, 1, 2, 3]), (159, [0, 1, 3]), (160, [0, 1, 3]), (167, [0, 1, 2]), (208, [0, 1])])
/-- NotWhereYesterdayModel.brings(III)V -/
def zt_261 : zT := [ze0 0 (.iload_n 1) 1 1, ze0 1 (.iload_n 2) 1 2, zex 2 (.if_icmp .ne 46) 3 5 48 0 0, ze0 5 (.iload_n 3) 1 6, ze0 6 (.aload_n 0) 1 7, zex 7 (.getfield 389) 3 10 9 58 0,
  zex 10 (.if_icmp .le 37) 3 13 47 0 0, ze0 13 (.aload_n 0) 1 14, ze0 14 (.iload_n 3) 1 15, zex 15 (.putfield 389) 3 18 9 58 0, zev32 18 (.iconst 0) 1 19 0, ze0 19 (.istore 4) 2 21,
  ze0 21 (.iload 4) 2 23, ze0 23 (.iload_n 2) 1 24, zex 24 (.if_icmp .ge 23) 3 27 47 0 0, ze0 27 (.aload_n 0) 1 28, zex 28 (.getfield 392) 3 31 9 56 2, ze0 31 (.iload 4) 2 33,
  ze0 33 (.aload_n 0) 1 34, zex 34 (.getfield 395) 3 37 9 55 2, ze0 37 (.iload 4) 2 39, ze0 39 .iaload 1 40, ze0 40 .iastore 1 41, zev32 41 (.iinc 4 1) 3 44 1,
  zex 44 (.goto (-23)) 3 47 21 0 0, ze0 47 .return_ 1 48, zev32 48 (.iconst 0) 1 49 0, ze0 49 (.istore 4) 2 51, ze0 51 (.iload 4) 2 53, ze0 53 (.aload_n 0) 1 54,
  zex 54 (.getfield 325) 3 57 9 47 0, zex 57 (.if_icmp .ge 200) 3 60 257 0 0, zev32 60 (.iconst 0) 1 61 0, ze0 61 (.istore 5) 2 63, ze0 63 (.iload 5) 2 65, ze0 65 (.aload_n 0) 1 66,
  zex 66 (.getfield 37) 3 69 9 7 0, zex 69 (.if_icmp .ge 38) 3 72 107 0 0, ze0 72 (.aload_n 0) 1 73, zex 73 (.getfield 56) 3 76 9 16 2, zev32 76 (.bipush 10) 2 78 10, ze0 78 (.aload_n 0) 1 79,
  zex 79 (.getfield 158) 3 82 9 15 0, ze0 82 (.iload_n 1) 1 83, ze0 83 .iadd 1 84, ze0 84 .imul 1 85, ze0 85 (.iload 5) 2 87, ze0 87 .iadd 1 88,
  ze0 88 (.aload_n 0) 1 89, zex 89 (.getfield 322) 3 92 9 46 2, zev32 92 (.iconst 5) 1 93 5, ze0 93 (.iload 4) 2 95, ze0 95 .imul 1 96, ze0 96 (.iload 5) 2 98,
  ze0 98 .iadd 1 99, ze0 99 .iaload 1 100, ze0 100 .iastore 1 101, zev32 101 (.iinc 5 1) 3 104 1, zex 104 (.goto (-41)) 3 107 63 0 0, ze0 107 (.aload_n 0) 1 108,
  ze0 108 (.aload_n 0) 1 109, zex 109 (.getfield 158) 3 112 9 15 0, ze0 112 (.iload_n 1) 1 113, ze0 113 .iadd 1 114, ze0 114 (.aload_n 0) 1 115, zex 115 (.getfield 158) 3 118 9 15 0,
  ze0 118 (.iload_n 1) 1 119, ze0 119 .iadd 1 120, zcal 120 (.invokevirtual 231) 3 123 198 3 0 9, zex 123 (.ifCond .ne 6) 3 126 129 0 0, zex 126 (.goto 125) 3 129 251 0 0, zev32 129 (.iconst 0) 1 130 0,
  ze0 130 (.istore 5) 2 132, zev32 132 (.iconst 0) 1 133 0, ze0 133 (.istore 6) 2 135, ze0 135 (.iload 6) 2 137, ze0 137 (.aload_n 0) 1 138, zex 138 (.getfield 37) 3 141 9 7 0,
  zex 141 (.if_icmp .ge 90) 3 144 231 0 0, ze0 144 (.aload_n 0) 1 145, zex 145 (.getfield 398) 3 148 9 57 2, zev32 148 (.bipush 10) 2 150 10, ze0 150 (.iload_n 1) 1 151, ze0 151 .imul 1 152,
  ze0 152 (.iload 6) 2 154, ze0 154 .iadd 1 155, ze0 155 .iaload 1 156, ze0 156 (.istore 7) 2 158, ze0 158 (.iload 5) 2 160, zev32 160 (.bipush 10) 2 162 10,
  ze0 162 (.iload 7) 2 164, zex 164 (.ifCond .lt 30) 3 167 194 0 0, ze0 167 (.iload 7) 2 169, ze0 169 (.aload_n 0) 1 170, zex 170 (.getfield 322) 3 173 9 46 2, zev32 173 (.iconst 5) 1 174 5,
  ze0 174 (.iload 4) 2 176, ze0 176 .imul 1 177, ze0 177 (.iload 6) 2 179, ze0 179 .iadd 1 180, ze0 180 .iaload 1 181, zex 181 (.if_icmp .eq 13) 3 184 194 0 0,
  ze0 184 (.aload_n 0) 1 185, zex 185 (.getfield 50) 3 188 9 11 2, ze0 188 (.iload 6) 2 190, ze0 190 .iaload 1 191, zex 191 (.goto 4) 3 194 195 0 0, zev32 194 (.iconst 0) 1 195 0,
  ze0 195 .isub 1 196, ze0 196 .iadd 1 197, ze0 197 (.istore 5) 2 199, ze0 199 (.aload_n 0) 1 200, zex 200 (.getfield 398) 3 203 9 57 2, zev32 203 (.bipush 10) 2 205 10,
  ze0 205 (.iload_n 1) 1 206, zev32 206 (.iconst 1) 1 207 1, ze0 207 .iadd 1 208, ze0 208 .imul 1 209, ze0 209 (.iload 6) 2 211, ze0 211 .iadd 1 212,
  ze0 212 (.aload_n 0) 1 213, zex 213 (.getfield 322) 3 216 9 46 2, zev32 216 (.iconst 5) 1 217 5, ze0 217 (.iload 4) 2 219, ze0 219 .imul 1 220, ze0 220 (.iload 6) 2 222,
  ze0 222 .iadd 1 223, ze0 223 .iaload 1 224, ze0 224 .iastore 1 225, zev32 225 (.iinc 6 1) 3 228 1, zex 228 (.goto (-93)) 3 231 135 0 0, ze0 231 (.aload_n 0) 1 232,
  zex 232 (.getfield 395) 3 235 9 55 2, ze0 235 (.iload_n 1) 1 236, ze0 236 (.iload 4) 2 238, ze0 238 .iastore 1 239, ze0 239 (.aload_n 0) 1 240, ze0 240 (.iload_n 1) 1 241,
  zev32 241 (.iconst 1) 1 242 1, ze0 242 .iadd 1 243, ze0 243 (.iload_n 2) 1 244, ze0 244 (.iload_n 3) 1 245, ze0 245 (.iload 5) 2 247, ze0 247 .iadd 1 248,
  zcal 248 (.invokevirtual 401) 3 251 261 4 3 9, zev32 251 (.iinc 4 1) 3 254 1, zex 254 (.goto (-203)) 3 257 51 0 0, ze0 257 .return_ 1 258]
def zm_261 : zMi := ((yX9_brings, cX9_brings, 8, none), (9, 4, 6), zt_261, [(21, [0, 2, 4]), (47, []), (51, [0, 1, 2, 3, 4]), (63, [0, 1, 2, 3, 4, 5]), (135, [0, 1, 2, 3, 4, 5, 6]), (194, [0, 1, 2, 3, 4, 6]), (195, [0, 1, 2, 3, 4, 6]), (251, [0, 1, 2, 3, 4])])
/-- NotWhereYesterdayModel.most(I)I -/
def zt_262 : zT := [ze0 0 (.aload_n 0) 1 1, zev32 1 (.iconst 0) 1 2 0, zex 2 (.putfield 3) 3 5 9 0 0, ze0 5 (.iload_n 1) 1 6, ze0 6 .i2l 1 7, zev64 7 (.lconst 1) 1 8 1,
  zev64 8 (.ldc2_w 215) 3 11 3, zcal 11 (.invokestatic 16) 3 14 171 3 0 9, zex 14 (.ifCond .ne 5) 3 17 19 0 0, zev32 17 (.iconst (-1)) 1 18 (-1), ze0 18 .ireturn 1 19, ze0 19 (.aload_n 0) 1 20,
  zcal 20 (.invokevirtual 353) 3 23 244 1 0 9, zex 23 (.ifCond .ne 6) 3 26 29 0 0, zev32 26 (.bipush (-3)) 2 28 (-3), ze0 28 .ireturn 1 29, ze0 29 (.aload_n 0) 1 30, zcal 30 (.invokevirtual 337) 3 33 246 1 1 9,
  zev32 33 (.iconst 0) 1 34 0, ze0 34 (.istore_n 2) 1 35, ze0 35 (.iload_n 2) 1 36, ze0 36 (.aload_n 0) 1 37, zex 37 (.getfield 37) 3 40 9 7 0, zex 40 (.if_icmp .ge 21) 3 43 61 0 0,
  ze0 43 (.aload_n 0) 1 44, zex 44 (.getfield 398) 3 47 9 57 2, ze0 47 (.iload_n 2) 1 48, ze0 48 (.aload_n 0) 1 49, zex 49 (.getfield 53) 3 52 9 14 2, ze0 52 (.iload_n 2) 1 53,
  ze0 53 .iaload 1 54, ze0 54 .iastore 1 55, zev32 55 (.iinc 2 1) 3 58 1, zex 58 (.goto (-23)) 3 61 35 0 0, ze0 61 (.aload_n 0) 1 62, zev32 62 (.iconst (-1)) 1 63 (-1),
  zex 63 (.putfield 389) 3 66 9 58 0, ze0 66 (.aload_n 0) 1 67, zev32 67 (.iconst 0) 1 68 0, ze0 68 (.iload_n 1) 1 69, zev32 69 (.iconst 0) 1 70 0, zcal 70 (.invokevirtual 401) 3 73 261 4 1 9,
  ze0 73 (.aload_n 0) 1 74, zex 74 (.getfield 389) 3 77 9 58 0, zex 77 (.ifCond .ge 6) 3 80 83 0 0, zev32 80 (.bipush (-2)) 2 82 (-2), ze0 82 .ireturn 1 83, ze0 83 (.aload_n 0) 1 84,
  zev32 84 (.iconst 0) 1 85 0, zex 85 (.putfield 11) 3 88 9 1 0, zev32 88 (.iconst 0) 1 89 0, ze0 89 (.istore_n 2) 1 90, ze0 90 (.iload_n 2) 1 91, ze0 91 (.iload_n 1) 1 92,
  zex 92 (.if_icmp .ge 19) 3 95 111 0 0, ze0 95 (.aload_n 0) 1 96, ze0 96 (.aload_n 0) 1 97, zex 97 (.getfield 392) 3 100 9 56 2, ze0 100 (.iload_n 2) 1 101, ze0 101 .iaload 1 102,
  zcal 102 (.invokevirtual 371) 3 105 254 2 1 9, zev32 105 (.iinc 2 1) 3 108 1, zex 108 (.goto (-18)) 3 111 90 0 0, ze0 111 (.aload_n 0) 1 112, zex 112 (.getfield 389) 3 115 9 58 0, ze0 115 .ireturn 1 116]
def zm_262 : zMi := ((yX9_most, cX9_most, 3, (some .int)), (9, 2, 7), zt_262, [(35, [0, 1, 2]), (90, [0, 1, 2])])
/-- NotWhereYesterdayModel.wasEver()Z -/
def zt_263 : zT := [zev32 0 (.iconst 0) 1 1 0, ze0 1 (.istore_n 1) 1 2, zev32 2 (.iconst 0) 1 3 0, ze0 3 (.istore_n 2) 1 4, ze0 4 (.iload_n 2) 1 5, ze0 5 (.aload_n 0) 1 6,
  zex 6 (.getfield 158) 3 9 9 15 0, zex 9 (.if_icmp .ge 70) 3 12 79 0 0, zev32 12 (.iconst 1) 1 13 1, ze0 13 (.istore_n 3) 1 14, zev32 14 (.iconst 0) 1 15 0, ze0 15 (.istore 4) 2 17,
  ze0 17 (.iload 4) 2 19, ze0 19 (.aload_n 0) 1 20, zex 20 (.getfield 37) 3 23 9 7 0, zex 23 (.if_icmp .ge 36) 3 26 59 0 0, ze0 26 (.iload_n 3) 1 27, zex 27 (.ifCond .eq 24) 3 30 51 0 0,
  ze0 30 (.aload_n 0) 1 31, ze0 31 (.iload_n 2) 1 32, ze0 32 (.iload 4) 2 34, zcal 34 (.invokevirtual 161) 3 37 188 3 0 9, ze0 37 (.aload_n 0) 1 38, zex 38 (.getfield 328) 3 41 9 50 2,
  ze0 41 (.iload 4) 2 43, ze0 43 .iaload 1 44, zex 44 (.if_icmp .ne 7) 3 47 51 0 0, zev32 47 (.iconst 1) 1 48 1, zex 48 (.goto 4) 3 51 52 0 0, zev32 51 (.iconst 0) 1 52 0,
  ze0 52 (.istore_n 3) 1 53, zev32 53 (.iinc 4 1) 3 56 1, zex 56 (.goto (-39)) 3 59 17 0 0, ze0 59 (.iload_n 1) 1 60, zex 60 (.ifCond .ne 7) 3 63 67 0 0, ze0 63 (.iload_n 3) 1 64,
  zex 64 (.ifCond .eq 7) 3 67 71 0 0, zev32 67 (.iconst 1) 1 68 1, zex 68 (.goto 4) 3 71 72 0 0, zev32 71 (.iconst 0) 1 72 0, ze0 72 (.istore_n 1) 1 73, zev32 73 (.iinc 2 1) 3 76 1,
  zex 76 (.goto (-72)) 3 79 4 0 0, ze0 79 (.iload_n 1) 1 80, ze0 80 .ireturn 1 81]
def zm_263 : zMi := ((yX9_wasEver, cX9_wasEver, 5, (some .boolean)), (9, 1, 2), zt_263, [(4, [0, 1, 2]), (17, [0, 1, 2, 3, 4]), (51, [0, 1, 2, 4]), (52, [0, 1, 2, 4]), (67, [0, 2]), (72, [0, 2])])
/-- NotWhereYesterdayModel.freshens(IIII)V -/
def zt_264 : zT := [ze0 0 (.iload_n 1) 1 1, ze0 1 (.aload_n 0) 1 2, zex 2 (.getfield 37) 3 5 9 7 0, zex 5 (.if_icmp .ne 58) 3 8 63 0 0, ze0 8 (.iload 4) 2 10, ze0 10 (.aload_n 0) 1 11,
  zex 11 (.getfield 405) 3 14 9 59 0, zex 14 (.if_icmp .le 48) 3 17 62 0 0, ze0 17 (.aload_n 0) 1 18, zcal 18 (.invokevirtual 408) 3 21 263 1 0 9, zex 21 (.ifCond .ne 41) 3 24 62 0 0, ze0 24 (.aload_n 0) 1 25,
  ze0 25 (.iload 4) 2 27, zex 27 (.putfield 405) 3 30 9 59 0, zev32 30 (.iconst 0) 1 31 0, ze0 31 (.istore 5) 2 33, ze0 33 (.iload 5) 2 35, ze0 35 (.aload_n 0) 1 36,
  zex 36 (.getfield 37) 3 39 9 7 0, zex 39 (.if_icmp .ge 23) 3 42 62 0 0, ze0 42 (.aload_n 0) 1 43, zex 43 (.getfield 278) 3 46 9 43 2, ze0 46 (.iload 5) 2 48, ze0 48 (.aload_n 0) 1 49,
  zex 49 (.getfield 328) 3 52 9 50 2, ze0 52 (.iload 5) 2 54, ze0 54 .iaload 1 55, ze0 55 .iastore 1 56, zev32 56 (.iinc 5 1) 3 59 1, zex 59 (.goto (-26)) 3 62 33 0 0,
  ze0 62 .return_ 1 63, zev32 63 (.iconst (-1)) 1 64 (-1), ze0 64 (.istore 5) 2 66, ze0 66 (.iload 5) 2 68, ze0 68 (.aload_n 0) 1 69, zex 69 (.getfield 22) 3 72 9 3 0,
  zex 72 (.if_icmp .ge 109) 3 75 181 0 0, ze0 75 (.iload 5) 2 77, zex 77 (.ifCond .lt 44) 3 80 121 0 0, ze0 80 (.aload_n 0) 1 81, zex 81 (.getfield 263) 3 84 9 41 2, ze0 84 (.iload_n 1) 1 85,
  ze0 85 .iaload 1 86, ze0 86 (.iload 5) 2 88, zcal 88 (.invokestatic 164) 3 91 172 2 0 9, zex 91 (.ifCond .eq 34) 3 94 125 0 0, ze0 94 (.iload_n 2) 1 95, ze0 95 (.iload 5) 2 97,
  zcal 97 (.invokestatic 164) 3 100 172 2 0 9, zex 100 (.ifCond .ne 25) 3 103 125 0 0, ze0 103 (.iload_n 3) 1 104, zex 104 (.ifCond .lt 17) 3 107 121 0 0, ze0 107 (.aload_n 0) 1 108, zex 108 (.getfield 266) 3 111 9 42 2,
  ze0 111 (.iload_n 3) 1 112, ze0 112 .iaload 1 113, ze0 113 (.iload 5) 2 115, zcal 115 (.invokestatic 164) 3 118 172 2 0 9, zex 118 (.ifCond .eq 7) 3 121 125 0 0, zev32 121 (.iconst 1) 1 122 1,
  zex 122 (.goto 4) 3 125 126 0 0, zev32 125 (.iconst 0) 1 126 0, ze0 126 (.istore 6) 2 128, ze0 128 (.iload 6) 2 130, zex 130 (.ifCond .eq 45) 3 133 175 0 0, ze0 133 (.aload_n 0) 1 134,
  zex 134 (.getfield 328) 3 137 9 50 2, ze0 137 (.iload_n 1) 1 138, ze0 138 (.iload 5) 2 140, ze0 140 .iastore 1 141, ze0 141 (.aload_n 0) 1 142, ze0 142 (.iload_n 1) 1 143,
  zev32 143 (.iconst 1) 1 144 1, ze0 144 .iadd 1 145, ze0 145 (.iload 5) 2 147, zex 147 (.ifCond .ge 7) 3 150 154 0 0, ze0 150 (.iload_n 2) 1 151, zex 151 (.goto 9) 3 154 160 0 0,
  ze0 154 (.iload_n 2) 1 155, zev32 155 (.iconst 1) 1 156 1, ze0 156 (.iload 5) 2 158, ze0 158 .ishl 1 159, ze0 159 .ior 1 160, ze0 160 (.iload 5) 2 162,
  ze0 162 (.iload 4) 2 164, ze0 164 (.aload_n 0) 1 165, ze0 165 (.iload_n 1) 1 166, ze0 166 (.iload 5) 2 168, zcal 168 (.invokevirtual 200) 3 171 199 3 0 9, ze0 171 .iadd 1 172,
  zcal 172 (.invokevirtual 411) 3 175 264 5 3 9, zev32 175 (.iinc 5 1) 3 178 1, zex 178 (.goto (-112)) 3 181 66 0 0, ze0 181 .return_ 1 182]
def zm_264 : zMi := ((yX9_freshens, cX9_freshens, 7, none), (9, 5, 3), zt_264, [(33, [0, 5]), (62, []), (66, [0, 1, 2, 3, 4, 5]), (121, [0, 1, 2, 3, 4, 5]), (125, [0, 1, 2, 3, 4, 5]), (126, [0, 1, 2, 3, 4, 5]), (160, [0, 1, 2, 3, 4, 5]), (175, [0, 1, 2, 3, 4, 5])])
/-- NotWhereYesterdayModel.fresh()I -/
def zt_265 : zT := [ze0 0 (.aload_n 0) 1 1, zev32 1 (.iconst 0) 1 2 0, zex 2 (.putfield 3) 3 5 9 0 0, ze0 5 (.aload_n 0) 1 6, zcal 6 (.invokevirtual 353) 3 9 244 1 0 9, zex 9 (.ifCond .ne 6) 3 12 15 0 0,
  zev32 12 (.bipush (-3)) 2 14 (-3), ze0 14 .ireturn 1 15, ze0 15 (.aload_n 0) 1 16, zcal 16 (.invokevirtual 272) 3 19 220 1 1 9, ze0 19 (.aload_n 0) 1 20, zev32 20 (.iconst (-1)) 1 21 (-1),
  zex 21 (.putfield 405) 3 24 9 59 0, ze0 24 (.aload_n 0) 1 25, zev32 25 (.iconst 0) 1 26 0, zev32 26 (.iconst 0) 1 27 0, zev32 27 (.iconst (-1)) 1 28 (-1), zev32 28 (.iconst 0) 1 29 0,
  zcal 29 (.invokevirtual 411) 3 32 264 5 1 9, ze0 32 (.aload_n 0) 1 33, zex 33 (.getfield 405) 3 36 9 59 0, zex 36 (.ifCond .ge 6) 3 39 42 0 0, zev32 39 (.bipush (-2)) 2 41 (-2), ze0 41 .ireturn 1 42,
  ze0 42 (.aload_n 0) 1 43, zev32 43 (.iconst 0) 1 44 0, zex 44 (.putfield 11) 3 47 9 1 0, ze0 47 (.aload_n 0) 1 48, zcal 48 (.invokevirtual 284) 3 51 222 1 1 9, ze0 51 (.aload_n 0) 1 52,
  zex 52 (.getfield 405) 3 55 9 59 0, ze0 55 .ireturn 1 56]
def zm_265 : zMi := ((yX9_fresh, cX9_fresh, 1, (some .int)), (9, 1, 5), zt_265, [])
/-- NotWhereYesterdayModel.zigzag(III)I -/
def zt_266 : zT := [ze0 0 (.iload_n 0) 1 1, zev32 1 (.iconst 2) 1 2 2, ze0 2 .irem 1 3, zex 3 (.ifCond .ne 9) 3 6 12 0 0, ze0 6 (.iload_n 0) 1 7, zev32 7 (.iconst 2) 1 8 2,
  ze0 8 .idiv 1 9, zex 9 (.goto 10) 3 12 19 0 0, ze0 12 (.iload_n 2) 1 13, ze0 13 (.iload_n 0) 1 14, zev32 14 (.iconst 1) 1 15 1, ze0 15 .iadd 1 16,
  zev32 16 (.iconst 2) 1 17 2, ze0 17 .idiv 1 18, ze0 18 .isub 1 19, ze0 19 (.istore_n 3) 1 20, ze0 20 (.iload_n 1) 1 21, ze0 21 (.iload_n 3) 1 22,
  ze0 22 .iadd 1 23, ze0 23 (.iload_n 2) 1 24, ze0 24 .irem 1 25, ze0 25 .ireturn 1 26]
def zm_266 : zMi := ((yX9_zigzag, cX9_zigzag, 4, (some .int)), (9, 3, 1), zt_266, [(19, [1, 2])])
/-- NotWhereYesterdayModel.byKind(II)I -/
def zt_267 : zT := [ze0 0 (.iload_n 1) 1 1, zex 1 (.ifCond .ne 27) 3 4 28 0 0, ze0 4 (.iload_n 2) 1 5, ze0 5 (.aload_n 0) 1 6, zex 6 (.getfield 22) 3 9 9 3 0, zex 9 (.if_icmp .ge 17) 3 12 26 0 0,
  ze0 12 (.iload_n 2) 1 13, ze0 13 (.aload_n 0) 1 14, zex 14 (.getfield 158) 3 17 9 15 0, ze0 17 .iadd 1 18, ze0 18 (.aload_n 0) 1 19, zex 19 (.getfield 22) 3 22 9 3 0,
  ze0 22 .irem 1 23, zex 23 (.goto 4) 3 26 27 0 0, zev32 26 (.iconst (-1)) 1 27 (-1), ze0 27 .ireturn 1 28, ze0 28 (.iload_n 1) 1 29, zev32 29 (.iconst 1) 1 30 1,
  zex 30 (.if_icmp .ne 35) 3 33 65 0 0, zev32 33 (.iconst 2) 1 34 2, ze0 34 (.iload_n 2) 1 35, ze0 35 .imul 1 36, ze0 36 (.aload_n 0) 1 37, zex 37 (.getfield 158) 3 40 9 15 0,
  zev32 40 (.iconst 2) 1 41 2, ze0 41 .irem 1 42, ze0 42 .iadd 1 43, ze0 43 (.aload_n 0) 1 44, zex 44 (.getfield 22) 3 47 9 3 0, zex 47 (.if_icmp .ge 16) 3 50 63 0 0,
  zev32 50 (.iconst 2) 1 51 2, ze0 51 (.iload_n 2) 1 52, ze0 52 .imul 1 53, ze0 53 (.aload_n 0) 1 54, zex 54 (.getfield 158) 3 57 9 15 0, zev32 57 (.iconst 2) 1 58 2,
  ze0 58 .irem 1 59, ze0 59 .iadd 1 60, zex 60 (.goto 4) 3 63 64 0 0, zev32 63 (.iconst (-1)) 1 64 (-1), ze0 64 .ireturn 1 65, ze0 65 (.iload_n 2) 1 66,
  ze0 66 (.aload_n 0) 1 67, zex 67 (.getfield 22) 3 70 9 3 0, zex 70 (.if_icmp .ge 18) 3 73 88 0 0, ze0 73 (.iload_n 2) 1 74, ze0 74 (.aload_n 0) 1 75, zex 75 (.getfield 158) 3 78 9 15 0,
  ze0 78 (.aload_n 0) 1 79, zex 79 (.getfield 22) 3 82 9 3 0, zcal 82 (.invokestatic 415) 3 85 266 3 0 9, zex 85 (.goto 4) 3 88 89 0 0, zev32 88 (.iconst (-1)) 1 89 (-1), ze0 89 .ireturn 1 90]
def zm_267 : zMi := ((yX9_byKind, cX9_byKind, 3, (some .int)), (9, 3, 2), zt_267, [(27, []), (64, []), (89, [])])
/-- NotWhereYesterdayModel.go(II)I -/
def zt_268 : zT := [ze0 0 (.aload_n 0) 1 1, zev32 1 (.iconst 0) 1 2 0, zex 2 (.putfield 3) 3 5 9 0 0, ze0 5 (.iload_n 1) 1 6, ze0 6 .i2l 1 7, zev64 7 (.lconst 0) 1 8 0,
  zev64 8 (.ldc2_w 215) 3 11 3, zcal 11 (.invokestatic 16) 3 14 171 3 0 9, zex 14 (.ifCond .eq 33) 3 17 47 0 0, ze0 17 (.iload_n 2) 1 18, ze0 18 .i2l 1 19, zev64 19 (.lconst 0) 1 20 0,
  zev64 20 (.ldc2_w 418) 3 23 60, zcal 23 (.invokestatic 16) 3 26 171 3 0 9, zex 26 (.ifCond .eq 21) 3 29 47 0 0, ze0 29 (.aload_n 0) 1 30, zex 30 (.getfield 158) 3 33 9 15 0, ze0 33 (.iload_n 2) 1 34,
  ze0 34 .iadd 1 35, zev32 35 (.bipush 60) 2 37 60, zex 37 (.if_icmp .gt 10) 3 40 47 0 0, ze0 40 (.aload_n 0) 1 41, zex 41 (.getfield 22) 3 44 9 3 0, zex 44 (.ifCond .ne 5) 3 47 49 0 0,
  zev32 47 (.iconst (-1)) 1 48 (-1), ze0 48 .ireturn 1 49, zev32 49 (.iconst 0) 1 50 0, ze0 50 (.istore_n 3) 1 51, zev32 51 (.iconst 0) 1 52 0, ze0 52 (.istore 4) 2 54,
  ze0 54 (.iload 4) 2 56, ze0 56 (.iload_n 2) 1 57, zex 57 (.if_icmp .ge 88) 3 60 145 0 0, ze0 60 (.iload_n 1) 1 61, zev32 61 (.iconst 3) 1 62 3, zex 62 (.if_icmp .ne 8) 3 65 70 0 0,
  ze0 65 (.aload_n 0) 1 66, zcal 66 (.invokevirtual 287) 3 69 224 1 0 9, ze0 69 .pop 1 70, zev32 70 (.iconst 0) 1 71 0, ze0 71 (.istore 5) 2 73, ze0 73 (.iload 5) 2 75,
  ze0 75 (.aload_n 0) 1 76, zex 76 (.getfield 37) 3 79 9 7 0, zex 79 (.if_icmp .ge 32) 3 82 111 0 0, ze0 82 (.iload_n 1) 1 83, zev32 83 (.iconst 3) 1 84 3, zex 84 (.if_icmp .eq 27) 3 87 111 0 0,
  ze0 87 (.aload_n 0) 1 88, zex 88 (.getfield 56) 3 91 9 16 2, zev32 91 (.sipush 630) 3 94 630, ze0 94 (.iload 5) 2 96, ze0 96 .iadd 1 97, ze0 97 (.aload_n 0) 1 98,
  ze0 98 (.iload_n 1) 1 99, ze0 99 (.iload 5) 2 101, zcal 101 (.invokevirtual 420) 3 104 267 3 0 9, ze0 104 .iastore 1 105, zev32 105 (.iinc 5 1) 3 108 1, zex 108 (.goto (-35)) 3 111 73 0 0,
  ze0 111 (.iload_n 3) 1 112, ze0 112 (.aload_n 0) 1 113, zev32 113 (.bipush 63) 2 115 63, ze0 115 (.aload_n 0) 1 116, zex 116 (.getfield 158) 3 119 9 15 0, zcal 119 (.invokevirtual 231) 3 122 198 3 0 9,
  zex 122 (.ifCond .ne 7) 3 125 129 0 0, zev32 125 (.iconst 1) 1 126 1, zex 126 (.goto 4) 3 129 130 0 0, zev32 129 (.iconst 0) 1 130 0, zcal 130 (.invokestatic 71) 3 133 173 1 0 9, ze0 133 .iadd 1 134,
  ze0 134 (.istore_n 3) 1 135, ze0 135 (.aload_n 0) 1 136, zcal 136 (.invokevirtual 244) 3 139 211 1 1 9, zev32 139 (.iinc 4 1) 3 142 1, zex 142 (.goto (-88)) 3 145 54 0 0, ze0 145 (.iload_n 3) 1 146,
  ze0 146 .ireturn 1 147]
def zm_268 : zMi := ((yX9_go, cX9_go, 6, (some .int)), (9, 3, 7), zt_268, [(47, []), (54, [0, 1, 2, 3, 4]), (70, [0, 1, 2, 3, 4]), (73, [0, 1, 2, 3, 4, 5]), (111, [0, 1, 2, 3, 4]), (130, [0, 1, 2, 4])])
/-- NotWhereYesterdayModel.meets(I)V -/
def zt_269 : zT := [zev32 0 (.iconst 1) 1 1 1, ze0 1 (.istore_n 2) 1 2, ze0 2 (.iload_n 2) 1 3, ze0 3 (.aload_n 0) 1 4, zex 4 (.getfield 37) 3 7 9 7 0, zex 7 (.if_icmp .ge 61) 3 10 68 0 0,
  ze0 10 (.aload_n 0) 1 11, ze0 11 (.iload_n 1) 1 12, ze0 12 (.iload_n 2) 1 13, zev32 13 (.iconst 1) 1 14 1, ze0 14 .isub 1 15, zcal 15 (.invokevirtual 161) 3 18 188 3 0 9,
  ze0 18 (.istore_n 3) 1 19, ze0 19 (.aload_n 0) 1 20, ze0 20 (.iload_n 1) 1 21, ze0 21 (.iload_n 2) 1 22, zcal 22 (.invokevirtual 161) 3 25 188 3 0 9, ze0 25 (.istore 4) 2 27,
  ze0 27 (.iload_n 3) 1 28, zex 28 (.ifCond .lt 34) 3 31 62 0 0, ze0 31 (.iload 4) 2 33, zex 33 (.ifCond .lt 29) 3 36 62 0 0, ze0 36 (.aload_n 0) 1 37, zex 37 (.getfield 423) 3 40 9 60 2,
  ze0 40 (.iload_n 3) 1 41, ze0 41 .dup2 1 42, ze0 42 .iaload 1 43, zev32 43 (.iconst 1) 1 44 1, ze0 44 (.iload 4) 2 46, ze0 46 .ishl 1 47,
  ze0 47 .ior 1 48, ze0 48 .iastore 1 49, ze0 49 (.aload_n 0) 1 50, zex 50 (.getfield 423) 3 53 9 60 2, ze0 53 (.iload 4) 2 55, ze0 55 .dup2 1 56,
  ze0 56 .iaload 1 57, zev32 57 (.iconst 1) 1 58 1, ze0 58 (.iload_n 3) 1 59, ze0 59 .ishl 1 60, ze0 60 .ior 1 61, ze0 61 .iastore 1 62,
  zev32 62 (.iinc 2 1) 3 65 1, zex 65 (.goto (-63)) 3 68 2 0 0, ze0 68 .return_ 1 69]
def zm_269 : zMi := ((yX9_meets, cX9_meets, 5, none), (9, 2, 2), zt_269, [(2, [0, 1, 2]), (62, [0, 1, 2])])
/-- NotWhereYesterdayModel.meetsNobody()V -/
def zt_270 : zT := [zev32 0 (.iconst 0) 1 1 0, ze0 1 (.istore_n 1) 1 2, ze0 2 (.iload_n 1) 1 3, zev32 3 (.bipush 10) 2 5 10, zex 5 (.if_icmp .ge 16) 3 8 21 0 0, ze0 8 (.aload_n 0) 1 9,
  zex 9 (.getfield 423) 3 12 9 60 2, ze0 12 (.iload_n 1) 1 13, zev32 13 (.iconst 0) 1 14 0, ze0 14 .iastore 1 15, zev32 15 (.iinc 1 1) 3 18 1, zex 18 (.goto (-16)) 3 21 2 0 0,
  ze0 21 .return_ 1 22]
def zm_270 : zMi := ((yX9_meetsNobody, cX9_meetsNobody, 2, none), (9, 1, 1), zt_270, [(2, [0, 1])])
/-- NotWhereYesterdayModel.haveAllMet(I)Z -/
def zt_271 : zT := [zev32 0 (.iconst 1) 1 1 1, ze0 1 (.istore_n 2) 1 2, zev32 2 (.iconst 0) 1 3 0, ze0 3 (.istore_n 3) 1 4, ze0 4 (.iload_n 3) 1 5, ze0 5 (.iload_n 1) 1 6,
  zex 6 (.if_icmp .ge 34) 3 9 40 0 0, ze0 9 (.iload_n 2) 1 10, zex 10 (.ifCond .eq 22) 3 13 32 0 0, ze0 13 (.aload_n 0) 1 14, zex 14 (.getfield 423) 3 17 9 60 2, ze0 17 (.iload_n 3) 1 18,
  ze0 18 .iaload 1 19, zcal 19 (.invokestatic 293) 3 22 288 1 0 11, ze0 22 (.iload_n 1) 1 23, zev32 23 (.iconst 1) 1 24 1, ze0 24 .isub 1 25, zex 25 (.if_icmp .lt 7) 3 28 32 0 0,
  zev32 28 (.iconst 1) 1 29 1, zex 29 (.goto 4) 3 32 33 0 0, zev32 32 (.iconst 0) 1 33 0, ze0 33 (.istore_n 2) 1 34, zev32 34 (.iinc 3 1) 3 37 1, zex 37 (.goto (-33)) 3 40 4 0 0,
  ze0 40 (.iload_n 2) 1 41, ze0 41 .ireturn 1 42]
def zm_271 : zMi := ((yX9_haveAllMet, cX9_haveAllMet, 4, (some .boolean)), (9, 2, 2), zt_271, [(4, [0, 1, 2, 3]), (32, [0, 1, 3]), (33, [0, 1, 3])])
/-- NotWhereYesterdayModel.met(I)I -/
def zt_272 : zT := [ze0 0 (.aload_n 0) 1 1, zev32 1 (.iconst 0) 1 2 0, zex 2 (.putfield 3) 3 5 9 0 0, ze0 5 (.aload_n 0) 1 6, ze0 6 (.iload_n 1) 1 7, zcal 7 (.invokevirtual 203) 3 10 177 2 0 9,
  zex 10 (.ifCond .ne 5) 3 13 15 0 0, zev32 13 (.iconst (-1)) 1 14 (-1), ze0 14 .ireturn 1 15, ze0 15 (.aload_n 0) 1 16, zcal 16 (.invokevirtual 426) 3 19 270 1 1 9, zev32 19 (.iconst 0) 1 20 0,
  ze0 20 (.istore_n 2) 1 21, ze0 21 (.iload_n 2) 1 22, ze0 22 (.aload_n 0) 1 23, zex 23 (.getfield 158) 3 26 9 15 0, zex 26 (.if_icmp .ge 14) 3 29 40 0 0, ze0 29 (.aload_n 0) 1 30,
  ze0 30 (.iload_n 2) 1 31, zcal 31 (.invokevirtual 429) 3 34 269 2 1 9, zev32 34 (.iinc 2 1) 3 37 1, zex 37 (.goto (-16)) 3 40 21 0 0, ze0 40 (.aload_n 0) 1 41, zex 41 (.getfield 423) 3 44 9 60 2,
  ze0 44 (.iload_n 1) 1 45, ze0 45 .iaload 1 46, ze0 46 .ireturn 1 47]
def zm_272 : zMi := ((yX9_met, cX9_met, 3, (some .int)), (9, 2, 3), zt_272, [(21, [0, 1, 2])])
/-- NotWhereYesterdayModel.all()I -/
def zt_273 : zT := [ze0 0 (.aload_n 0) 1 1, zev32 1 (.iconst 0) 1 2 0, zex 2 (.putfield 3) 3 5 9 0 0, ze0 5 (.aload_n 0) 1 6, zex 6 (.getfield 22) 3 9 9 3 0, zev32 9 (.iconst 2) 1 10 2,
  zex 10 (.if_icmp .ge 5) 3 13 15 0 0, zev32 13 (.iconst (-1)) 1 14 (-1), ze0 14 .ireturn 1 15, ze0 15 (.aload_n 0) 1 16, zcal 16 (.invokevirtual 426) 3 19 270 1 1 9, zev32 19 (.iconst 0) 1 20 0,
  ze0 20 (.istore_n 1) 1 21, ze0 21 (.iload_n 1) 1 22, ze0 22 (.aload_n 0) 1 23, zex 23 (.getfield 158) 3 26 9 15 0, zex 26 (.if_icmp .ge 29) 3 29 55 0 0, ze0 29 (.aload_n 0) 1 30,
  ze0 30 (.iload_n 1) 1 31, zcal 31 (.invokevirtual 429) 3 34 269 2 1 9, ze0 34 (.aload_n 0) 1 35, ze0 35 (.aload_n 0) 1 36, zex 36 (.getfield 22) 3 39 9 3 0, zcal 39 (.invokevirtual 432) 3 42 271 2 0 9,
  zex 42 (.ifCond .eq 7) 3 45 49 0 0, ze0 45 (.iload_n 1) 1 46, zev32 46 (.iconst 1) 1 47 1, ze0 47 .iadd 1 48, ze0 48 .ireturn 1 49, zev32 49 (.iinc 1 1) 3 52 1,
  zex 52 (.goto (-31)) 3 55 21 0 0, zev32 55 (.bipush (-2)) 2 57 (-2), ze0 57 .ireturn 1 58]
def zm_273 : zMi := ((yX9_all, cX9_all, 2, (some .int)), (9, 1, 3), zt_273, [(21, [0, 1])])
/-- NotWhereYesterdayModel.soon(I)I -/
def zt_274 : zT := [ze0 0 (.aload_n 0) 1 1, zev32 1 (.iconst 0) 1 2 0, zex 2 (.putfield 3) 3 5 9 0 0, ze0 5 (.iload_n 1) 1 6, ze0 6 .i2l 1 7, zev64 7 (.ldc2_w 435) 3 10 2,
  zev64 10 (.ldc2_w 35) 3 13 10, zcal 13 (.invokestatic 16) 3 16 171 3 0 9, zex 16 (.ifCond .ne 5) 3 19 21 0 0, zev32 19 (.iconst (-1)) 1 20 (-1), ze0 20 .ireturn 1 21, ze0 21 (.aload_n 0) 1 22,
  zcal 22 (.invokevirtual 426) 3 25 270 1 1 9, zev32 25 (.iconst 0) 1 26 0, ze0 26 (.istore_n 2) 1 27, ze0 27 (.aload_n 0) 1 28, ze0 28 (.iload_n 1) 1 29, zcal 29 (.invokevirtual 432) 3 32 271 2 0 9,
  zex 32 (.ifCond .ne 68) 3 35 100 0 0, zev32 35 (.iconst 1) 1 36 1, ze0 36 (.istore_n 3) 1 37, ze0 37 (.iload_n 3) 1 38, ze0 38 (.iload_n 1) 1 39, zex 39 (.if_icmp .ge 55) 3 42 94 0 0,
  ze0 42 (.iload_n 3) 1 43, zev32 43 (.iconst 1) 1 44 1, ze0 44 .isub 1 45, ze0 45 (.iload_n 2) 1 46, ze0 46 (.iload_n 1) 1 47, zcal 47 (.invokestatic 415) 3 50 266 3 0 9,
  ze0 50 (.istore 4) 2 52, ze0 52 (.iload_n 3) 1 53, ze0 53 (.iload_n 2) 1 54, ze0 54 (.iload_n 1) 1 55, zcal 55 (.invokestatic 415) 3 58 266 3 0 9, ze0 58 (.istore 5) 2 60,
  ze0 60 (.aload_n 0) 1 61, zex 61 (.getfield 423) 3 64 9 60 2, ze0 64 (.iload 4) 2 66, ze0 66 .dup2 1 67, ze0 67 .iaload 1 68, zev32 68 (.iconst 1) 1 69 1,
  ze0 69 (.iload 5) 2 71, ze0 71 .ishl 1 72, ze0 72 .ior 1 73, ze0 73 .iastore 1 74, ze0 74 (.aload_n 0) 1 75, zex 75 (.getfield 423) 3 78 9 60 2,
  ze0 78 (.iload 5) 2 80, ze0 80 .dup2 1 81, ze0 81 .iaload 1 82, zev32 82 (.iconst 1) 1 83 1, ze0 83 (.iload 4) 2 85, ze0 85 .ishl 1 86,
  ze0 86 .ior 1 87, ze0 87 .iastore 1 88, zev32 88 (.iinc 3 1) 3 91 1, zex 91 (.goto (-54)) 3 94 37 0 0, zev32 94 (.iinc 2 1) 3 97 1, zex 97 (.goto (-70)) 3 100 27 0 0,
  ze0 100 (.iload_n 2) 1 101, ze0 101 .ireturn 1 102]
def zm_274 : zMi := ((yX9_soon, cX9_soon, 6, (some .int)), (9, 2, 3), zt_274, [(27, [0, 1, 2]), (37, [0, 1, 2, 3])])
/-- NotWhereYesterdayModel.often(II)I -/
def zt_275 : zT := [ze0 0 (.aload_n 0) 1 1, zev32 1 (.iconst 0) 1 2 0, zex 2 (.putfield 3) 3 5 9 0 0, ze0 5 (.aload_n 0) 1 6, ze0 6 (.iload_n 1) 1 7, zcal 7 (.invokevirtual 203) 3 10 177 2 0 9,
  zex 10 (.ifCond .eq 11) 3 13 21 0 0, ze0 13 (.aload_n 0) 1 14, ze0 14 (.iload_n 2) 1 15, zcal 15 (.invokevirtual 209) 3 18 178 2 0 9, zex 18 (.ifCond .ne 5) 3 21 23 0 0, zev32 21 (.iconst (-1)) 1 22 (-1),
  ze0 22 .ireturn 1 23, zev32 23 (.iconst 0) 1 24 0, ze0 24 (.istore_n 3) 1 25, zev32 25 (.iconst 0) 1 26 0, ze0 26 (.istore 4) 2 28, zev32 28 (.iconst 0) 1 29 0,
  ze0 29 (.istore 5) 2 31, zev32 31 (.iconst 1) 1 32 1, ze0 32 (.istore 6) 2 34, zev32 34 (.iconst 0) 1 35 0, ze0 35 (.istore 7) 2 37, ze0 37 (.iload 7) 2 39,
  ze0 39 (.aload_n 0) 1 40, zex 40 (.getfield 158) 3 43 9 15 0, zex 43 (.if_icmp .ge 80) 3 46 123 0 0, ze0 46 (.aload_n 0) 1 47, ze0 47 (.iload 7) 2 49, ze0 49 (.iload_n 2) 1 50,
  zcal 50 (.invokevirtual 161) 3 53 188 3 0 9, ze0 53 (.iload_n 1) 1 54, zex 54 (.if_icmp .eq 6) 3 57 60 0 0, zex 57 (.goto 60) 3 60 117 0 0, ze0 60 (.iload_n 3) 1 61, zex 61 (.ifCond .le 49) 3 64 110 0 0,
  ze0 64 (.iload_n 3) 1 65, zev32 65 (.iconst 1) 1 66 1, zex 66 (.if_icmp .ne 11) 3 69 77 0 0, ze0 69 (.iload 7) 2 71, ze0 71 (.iload 4) 2 73, ze0 73 .isub 1 74,
  zex 74 (.goto 13) 3 77 87 0 0, ze0 77 (.iload 5) 2 79, ze0 79 (.iload 7) 2 81, ze0 81 (.iload 4) 2 83, ze0 83 .isub 1 84, zcal 84 (.invokestatic 122) 3 87 0 2 9 0,
  ze0 87 (.istore 5) 2 89, ze0 89 (.iload 6) 2 91, zex 91 (.ifCond .eq 16) 3 94 107 0 0, ze0 94 (.iload 7) 2 96, ze0 96 (.iload 4) 2 98, ze0 98 .isub 1 99,
  zev32 99 (.iconst 2) 1 100 2, zex 100 (.if_icmp .ne 7) 3 103 107 0 0, zev32 103 (.iconst 1) 1 104 1, zex 104 (.goto 4) 3 107 108 0 0, zev32 107 (.iconst 0) 1 108 0, ze0 108 (.istore 6) 2 110,
  ze0 110 (.iload 7) 2 112, ze0 112 (.istore 4) 2 114, zev32 114 (.iinc 3 1) 3 117 1, zev32 117 (.iinc 7 1) 3 120 1, zex 120 (.goto (-83)) 3 123 37 0 0, ze0 123 (.aload_n 0) 1 124,
  zev32 124 (.iconst 0) 1 125 0, zex 125 (.putfield 11) 3 128 9 1 0, ze0 128 (.aload_n 0) 1 129, ze0 129 (.iload 5) 2 131, zcal 131 (.invokevirtual 227) 3 134 174 2 1 9, ze0 134 (.aload_n 0) 1 135,
  ze0 135 (.iload_n 3) 1 136, zev32 136 (.iconst 1) 1 137 1, zex 137 (.if_icmp .le 12) 3 140 149 0 0, ze0 140 (.iload 6) 2 142, zex 142 (.ifCond .eq 7) 3 145 149 0 0, zev32 145 (.iconst 1) 1 146 1,
  zex 146 (.goto 4) 3 149 150 0 0, zev32 149 (.iconst 0) 1 150 0, zcal 150 (.invokestatic 71) 3 153 173 1 0 9, zcal 153 (.invokevirtual 227) 3 156 174 2 1 9, ze0 156 (.iload_n 3) 1 157, ze0 157 .ireturn 1 158]
def zm_275 : zMi := ((yX9_often, cX9_often, 8, (some .int)), (9, 3, 3), zt_275, [(21, []), (37, [0, 1, 2, 3, 4, 5, 6, 7]), (87, [0, 1, 2, 3, 4, 6, 7]), (107, [0, 1, 2, 3, 5, 7]), (108, [0, 1, 2, 3, 5, 7]), (110, [0, 1, 2, 3, 5, 6, 7]), (117, [0, 1, 2, 3, 4, 5, 6, 7]), (149, [3]), (150, [3])])
/-- NotWhereYesterdayModel.alternate(I)I -/
def zt_276 : zT := [ze0 0 (.aload_n 0) 1 1, zev32 1 (.iconst 0) 1 2 0, zex 2 (.putfield 3) 3 5 9 0 0, ze0 5 (.aload_n 0) 1 6, ze0 6 (.iload_n 1) 1 7, zcal 7 (.invokevirtual 209) 3 10 178 2 0 9,
  zex 10 (.ifCond .ne 5) 3 13 15 0 0, zev32 13 (.iconst (-1)) 1 14 (-1), ze0 14 .ireturn 1 15, ze0 15 (.aload_n 0) 1 16, zev32 16 (.iconst 0) 1 17 0, zex 17 (.putfield 11) 3 20 9 1 0,
  ze0 20 (.aload_n 0) 1 21, zex 21 (.getfield 158) 3 24 9 15 0, zev32 24 (.iconst 2) 1 25 2, zex 25 (.if_icmp .ge 7) 3 28 32 0 0, zev32 28 (.iconst (-1)) 1 29 (-1), zex 29 (.goto 14) 3 32 43 0 0,
  ze0 32 (.aload_n 0) 1 33, ze0 33 (.aload_n 0) 1 34, zex 34 (.getfield 158) 3 37 9 15 0, zev32 37 (.iconst 1) 1 38 1, ze0 38 .isub 1 39, ze0 39 (.iload_n 1) 1 40,
  zcal 40 (.invokevirtual 161) 3 43 188 3 0 9, ze0 43 (.istore_n 2) 1 44, ze0 44 (.aload_n 0) 1 45, zex 45 (.getfield 158) 3 48 9 15 0, zev32 48 (.iconst 2) 1 49 2, zex 49 (.if_icmp .ge 7) 3 52 56 0 0,
  zev32 52 (.iconst (-1)) 1 53 (-1), zex 53 (.goto 14) 3 56 67 0 0, ze0 56 (.aload_n 0) 1 57, ze0 57 (.aload_n 0) 1 58, zex 58 (.getfield 158) 3 61 9 15 0, zev32 61 (.iconst 2) 1 62 2,
  ze0 62 .isub 1 63, ze0 63 (.iload_n 1) 1 64, zcal 64 (.invokevirtual 161) 3 67 188 3 0 9, ze0 67 (.istore_n 3) 1 68, ze0 68 (.iload_n 2) 1 69, zex 69 (.ifCond .lt 12) 3 72 81 0 0,
  ze0 72 (.iload_n 3) 1 73, zex 73 (.ifCond .lt 8) 3 76 81 0 0, ze0 76 (.iload_n 2) 1 77, ze0 77 (.iload_n 3) 1 78, zex 78 (.if_icmp .ne 5) 3 81 83 0 0, zev32 81 (.iconst 0) 1 82 0,
  ze0 82 .ireturn 1 83, zev32 83 (.iconst 2) 1 84 2, ze0 84 (.istore 4) 2 86, ze0 86 (.iload 4) 2 88, ze0 88 (.aload_n 0) 1 89, zex 89 (.getfield 158) 3 92 9 15 0,
  zex 92 (.if_icmp .ge 38) 3 95 130 0 0, ze0 95 (.aload_n 0) 1 96, ze0 96 (.aload_n 0) 1 97, zex 97 (.getfield 158) 3 100 9 15 0, zev32 100 (.iconst 1) 1 101 1, ze0 101 .isub 1 102,
  ze0 102 (.iload 4) 2 104, ze0 104 .isub 1 105, ze0 105 (.iload_n 1) 1 106, zcal 106 (.invokevirtual 161) 3 109 188 3 0 9, ze0 109 (.iload 4) 2 111, zev32 111 (.iconst 2) 1 112 2,
  ze0 112 .irem 1 113, zex 113 (.ifCond .ne 7) 3 116 120 0 0, ze0 116 (.iload_n 2) 1 117, zex 117 (.goto 4) 3 120 121 0 0, ze0 120 (.iload_n 3) 1 121, zex 121 (.if_icmp .ne 9) 3 124 130 0 0,
  zev32 124 (.iinc 4 1) 3 127 1, zex 127 (.goto (-41)) 3 130 86 0 0, ze0 130 (.aload_n 0) 1 131, ze0 131 (.iload_n 2) 1 132, zcal 132 (.invokevirtual 227) 3 135 174 2 1 9, ze0 135 (.aload_n 0) 1 136,
  ze0 136 (.iload_n 3) 1 137, zcal 137 (.invokevirtual 227) 3 140 174 2 1 9, ze0 140 (.iload 4) 2 142, ze0 142 .ireturn 1 143]
def zm_276 : zMi := ((yX9_alternate, cX9_alternate, 5, (some .int)), (9, 2, 3), zt_276, [(43, [0, 1]), (67, [0, 1, 2]), (81, []), (86, [0, 1, 2, 3, 4]), (121, [0, 1, 2, 3, 4]), (130, [0, 2, 3, 4])])
/-- NotWhereYesterdayModel.wereAt(I)I -/
def zt_277 : zT := [zev32 0 (.iconst 0) 1 1 0, ze0 1 (.istore_n 2) 1 2, zev32 2 (.iconst 0) 1 3 0, ze0 3 (.istore_n 3) 1 4, ze0 4 (.iload_n 3) 1 5, ze0 5 (.aload_n 0) 1 6,
  zex 6 (.getfield 158) 3 9 9 15 0, zex 9 (.if_icmp .ge 49) 3 12 58 0 0, zev32 12 (.iconst 0) 1 13 0, ze0 13 (.istore 4) 2 15, ze0 15 (.iload 4) 2 17, ze0 17 (.aload_n 0) 1 18,
  zex 18 (.getfield 37) 3 21 9 7 0, zex 21 (.if_icmp .ge 31) 3 24 52 0 0, ze0 24 (.iload_n 2) 1 25, ze0 25 (.aload_n 0) 1 26, ze0 26 (.iload_n 3) 1 27, ze0 27 (.iload 4) 2 29,
  zcal 29 (.invokevirtual 161) 3 32 188 3 0 9, ze0 32 (.iload_n 1) 1 33, zex 33 (.if_icmp .ne 10) 3 36 43 0 0, zev32 36 (.iconst 1) 1 37 1, ze0 37 (.iload 4) 2 39, ze0 39 .ishl 1 40,
  zex 40 (.goto 4) 3 43 44 0 0, zev32 43 (.iconst 0) 1 44 0, ze0 44 .ior 1 45, ze0 45 (.istore_n 2) 1 46, zev32 46 (.iinc 4 1) 3 49 1, zex 49 (.goto (-34)) 3 52 15 0 0,
  zev32 52 (.iinc 3 1) 3 55 1, zex 55 (.goto (-51)) 3 58 4 0 0, ze0 58 (.iload_n 2) 1 59, ze0 59 .ireturn 1 60]
def zm_277 : zMi := ((yX9_wereAt, cX9_wereAt, 5, (some .int)), (9, 2, 2), zt_277, [(4, [0, 1, 2, 3]), (15, [0, 1, 2, 3, 4]), (44, [0, 1, 3, 4])])
/-- NotWhereYesterdayModel.chairs(I)I -/
def zt_278 : zT := [ze0 0 (.aload_n 0) 1 1, zev32 1 (.iconst 0) 1 2 0, zex 2 (.putfield 3) 3 5 9 0 0, ze0 5 (.aload_n 0) 1 6, ze0 6 (.iload_n 1) 1 7, zcal 7 (.invokevirtual 203) 3 10 177 2 0 9,
  zex 10 (.ifCond .ne 5) 3 13 15 0 0, zev32 13 (.iconst (-1)) 1 14 (-1), ze0 14 .ireturn 1 15, zev32 15 (.iconst 0) 1 16 0, ze0 16 (.istore_n 2) 1 17, zev32 17 (.iconst 0) 1 18 0,
  ze0 18 (.istore_n 3) 1 19, ze0 19 (.iload_n 3) 1 20, ze0 20 (.aload_n 0) 1 21, zex 21 (.getfield 22) 3 24 9 3 0, zex 24 (.if_icmp .ge 36) 3 27 60 0 0, ze0 27 (.iload_n 2) 1 28,
  ze0 28 (.aload_n 0) 1 29, ze0 29 (.iload_n 3) 1 30, zcal 30 (.invokevirtual 437) 3 33 277 2 0 9, zev32 33 (.iconst 1) 1 34 1, ze0 34 (.aload_n 0) 1 35, zex 35 (.getfield 37) 3 38 9 7 0,
  ze0 38 .ishl 1 39, zev32 39 (.iconst 1) 1 40 1, ze0 40 .isub 1 41, zex 41 (.if_icmp .ne 7) 3 44 48 0 0, zev32 44 (.iconst 1) 1 45 1, zex 45 (.goto 4) 3 48 49 0 0,
  zev32 48 (.iconst 0) 1 49 0, zcal 49 (.invokestatic 71) 3 52 173 1 0 9, ze0 52 .iadd 1 53, ze0 53 (.istore_n 2) 1 54, zev32 54 (.iinc 3 1) 3 57 1, zex 57 (.goto (-38)) 3 60 19 0 0,
  ze0 60 (.aload_n 0) 1 61, zev32 61 (.iconst 0) 1 62 0, zex 62 (.putfield 11) 3 65 9 1 0, ze0 65 (.aload_n 0) 1 66, ze0 66 (.iload_n 2) 1 67, zcal 67 (.invokevirtual 227) 3 70 174 2 1 9,
  ze0 70 (.aload_n 0) 1 71, ze0 71 (.iload_n 1) 1 72, zcal 72 (.invokevirtual 437) 3 75 277 2 0 9, ze0 75 .ireturn 1 76]
def zm_278 : zMi := ((yX9_chairs, cX9_chairs, 4, (some .int)), (9, 2, 3), zt_278, [(19, [0, 1, 2, 3]), (49, [0, 1, 3])])
/-- NotWhereYesterdayModel.areSame(II)Z -/
def zt_279 : zT := [zev32 0 (.iconst 1) 1 1 1, ze0 1 (.istore_n 3) 1 2, zev32 2 (.iconst 0) 1 3 0, ze0 3 (.istore 4) 2 5, ze0 5 (.iload 4) 2 7, ze0 7 (.aload_n 0) 1 8,
  zex 8 (.getfield 37) 3 11 9 7 0, zex 11 (.if_icmp .ge 36) 3 14 47 0 0, ze0 14 (.iload_n 3) 1 15, zex 15 (.ifCond .eq 24) 3 18 39 0 0, ze0 18 (.aload_n 0) 1 19, ze0 19 (.iload_n 1) 1 20,
  ze0 20 (.iload 4) 2 22, zcal 22 (.invokevirtual 161) 3 25 188 3 0 9, ze0 25 (.aload_n 0) 1 26, ze0 26 (.iload_n 2) 1 27, ze0 27 (.iload 4) 2 29, zcal 29 (.invokevirtual 161) 3 32 188 3 0 9,
  zex 32 (.if_icmp .ne 7) 3 35 39 0 0, zev32 35 (.iconst 1) 1 36 1, zex 36 (.goto 4) 3 39 40 0 0, zev32 39 (.iconst 0) 1 40 0, ze0 40 (.istore_n 3) 1 41, zev32 41 (.iinc 4 1) 3 44 1,
  zex 44 (.goto (-39)) 3 47 5 0 0, ze0 47 (.iload_n 3) 1 48, ze0 48 .ireturn 1 49]
def zm_279 : zMi := ((yX9_areSame, cX9_areSame, 5, (some .boolean)), (9, 3, 2), zt_279, [(5, [0, 1, 2, 3, 4]), (39, [0, 1, 2, 4]), (40, [0, 1, 2, 4])])
/-- NotWhereYesterdayModel.unlike()I -/
def zt_280 : zT := [ze0 0 (.aload_n 0) 1 1, zev32 1 (.iconst 0) 1 2 0, zex 2 (.putfield 3) 3 5 9 0 0, zev32 5 (.iconst 0) 1 6 0, ze0 6 (.istore_n 1) 1 7, ze0 7 (.iload_n 1) 1 8,
  ze0 8 (.aload_n 0) 1 9, zex 9 (.getfield 158) 3 12 9 15 0, zex 12 (.if_icmp .ge 47) 3 15 59 0 0, ze0 15 (.aload_n 0) 1 16, zex 16 (.getfield 158) 3 19 9 15 0, zev32 19 (.iconst 1) 1 20 1,
  ze0 20 .isub 1 21, ze0 21 (.iload_n 1) 1 22, ze0 22 .isub 1 23, ze0 23 (.istore_n 2) 1 24, ze0 24 (.iload_n 2) 1 25, zev32 25 (.iconst 1) 1 26 1,
  ze0 26 .iadd 1 27, ze0 27 (.istore_n 3) 1 28, ze0 28 (.iload_n 3) 1 29, ze0 29 (.aload_n 0) 1 30, zex 30 (.getfield 158) 3 33 9 15 0, zex 33 (.if_icmp .ge 20) 3 36 53 0 0,
  ze0 36 (.aload_n 0) 1 37, ze0 37 (.iload_n 2) 1 38, ze0 38 (.iload_n 3) 1 39, zcal 39 (.invokevirtual 440) 3 42 279 3 0 9, zex 42 (.ifCond .eq 5) 3 45 47 0 0, ze0 45 (.iload_n 1) 1 46,
  ze0 46 .ireturn 1 47, zev32 47 (.iinc 3 1) 3 50 1, zex 50 (.goto (-22)) 3 53 28 0 0, zev32 53 (.iinc 1 1) 3 56 1, zex 56 (.goto (-49)) 3 59 7 0 0, ze0 59 (.iload_n 1) 1 60,
  ze0 60 .ireturn 1 61]
def zm_280 : zMi := ((yX9_unlike, cX9_unlike, 4, (some .int)), (9, 1, 3), zt_280, [(7, [0, 1]), (28, [0, 1, 2, 3])])
/-- NotWhereYesterdayModel.lays([III)V -/
def zt_281 : zT := [zev32 0 (.iconst 0) 1 1 0, ze0 1 (.istore 4) 2 3, ze0 3 (.iload 4) 2 5, ze0 5 (.iload_n 3) 1 6, zex 6 (.if_icmp .ge 27) 3 9 33 0 0, ze0 9 (.aload_n 0) 1 10,
  zex 10 (.getfield 443) 3 13 9 64 2, ze0 13 (.aload_n 0) 1 14, zex 14 (.getfield 446) 3 17 9 65 0, ze0 17 (.iload 4) 2 19, ze0 19 .iadd 1 20, ze0 20 (.aload_n 1) 1 21,
  ze0 21 (.iload_n 2) 1 22, ze0 22 (.iload 4) 2 24, ze0 24 .iadd 1 25, ze0 25 .iaload 1 26, ze0 26 .iastore 1 27, zev32 27 (.iinc 4 1) 3 30 1,
  zex 30 (.goto (-27)) 3 33 3 0 0, ze0 33 (.aload_n 0) 1 34, ze0 34 .dup 1 35, zex 35 (.getfield 446) 3 38 9 65 0, ze0 38 (.iload_n 3) 1 39, ze0 39 .iadd 1 40,
  zex 40 (.putfield 446) 3 43 9 65 0, ze0 43 .return_ 1 44]
def zm_281 : zMi := ((yX9_lays, cX9_lays, 5, none), (9, 4, 1), zt_281, [(3, [0, 1, 2, 3, 4])])
/-- NotWhereYesterdayModel.takesBack([III)V -/
def zt_282 : zT := [zev32 0 (.iconst 0) 1 1 0, ze0 1 (.istore 4) 2 3, ze0 3 (.iload 4) 2 5, ze0 5 (.iload_n 3) 1 6, zex 6 (.if_icmp .ge 27) 3 9 33 0 0, ze0 9 (.aload_n 1) 1 10,
  ze0 10 (.iload_n 2) 1 11, ze0 11 (.iload 4) 2 13, ze0 13 .iadd 1 14, ze0 14 (.aload_n 0) 1 15, zex 15 (.getfield 443) 3 18 9 64 2, ze0 18 (.aload_n 0) 1 19,
  zex 19 (.getfield 446) 3 22 9 65 0, ze0 22 (.iload 4) 2 24, ze0 24 .iadd 1 25, ze0 25 .iaload 1 26, ze0 26 .iastore 1 27, zev32 27 (.iinc 4 1) 3 30 1,
  zex 30 (.goto (-27)) 3 33 3 0 0, ze0 33 (.aload_n 0) 1 34, ze0 34 .dup 1 35, zex 35 (.getfield 446) 3 38 9 65 0, ze0 38 (.iload_n 3) 1 39, ze0 39 .iadd 1 40,
  zex 40 (.putfield 446) 3 43 9 65 0, ze0 43 .return_ 1 44]
def zm_282 : zMi := ((yX9_takesBack, cX9_takesBack, 5, none), (9, 4, 1), zt_282, [(3, [0, 1, 2, 3, 4])])
/-- NotWhereYesterdayModel.keep(I)Z -/
def zt_283 : zT := [ze0 0 (.aload_n 0) 1 1, zev32 1 (.iconst 0) 1 2 0, zex 2 (.putfield 3) 3 5 9 0 0, ze0 5 (.iload_n 1) 1 6, ze0 6 .i2l 1 7, zev64 7 (.lconst 0) 1 8 0,
  zev64 8 (.ldc2_w 435) 3 11 2, zcal 11 (.invokestatic 16) 3 14 171 3 0 9, zex 14 (.ifCond .ne 5) 3 17 19 0 0, zev32 17 (.iconst 0) 1 18 0, ze0 18 .ireturn 1 19, ze0 19 (.aload_n 0) 1 20,
  zex 20 (.getfield 449) 3 23 9 61 2, ze0 23 (.iload_n 1) 1 24, zev32 24 (.iconst 1) 1 25 1, ze0 25 .bastore 1 26, ze0 26 (.aload_n 0) 1 27, zex 27 (.getfield 452) 3 30 9 62 2,
  ze0 30 (.iload_n 1) 1 31, ze0 31 (.aload_n 0) 1 32, zex 32 (.getfield 22) 3 35 9 3 0, ze0 35 .iastore 1 36, ze0 36 (.aload_n 0) 1 37, zex 37 (.getfield 455) 3 40 9 63 2,
  ze0 40 (.iload_n 1) 1 41, ze0 41 (.aload_n 0) 1 42, zex 42 (.getfield 37) 3 45 9 7 0, ze0 45 .iastore 1 46, ze0 46 (.aload_n 0) 1 47, zev32 47 (.sipush 711) 3 50 711,
  ze0 50 (.iload_n 1) 1 51, ze0 51 .imul 1 52, zex 52 (.putfield 446) 3 55 9 65 0, ze0 55 (.aload_n 0) 1 56, ze0 56 (.aload_n 0) 1 57, zex 57 (.getfield 56) 3 60 9 16 2,
  zev32 60 (.iconst 0) 1 61 0, zev32 61 (.sipush 600) 3 64 600, zcal 64 (.invokevirtual 458) 3 67 281 4 1 9, ze0 67 (.aload_n 0) 1 68, ze0 68 (.aload_n 0) 1 69, zex 69 (.getfield 56) 3 72 9 16 2,
  zev32 72 (.sipush 630) 3 75 630, zev32 75 (.bipush 10) 2 77 10, zcal 77 (.invokevirtual 458) 3 80 281 4 1 9, ze0 80 (.aload_n 0) 1 81, ze0 81 (.aload_n 0) 1 82, zex 82 (.getfield 234) 3 85 9 12 2,
  zev32 85 (.iconst 0) 1 86 0, zev32 86 (.bipush 10) 2 88 10, zcal 88 (.invokevirtual 458) 3 91 281 4 1 9, ze0 91 (.aload_n 0) 1 92, ze0 92 (.aload_n 0) 1 93, zex 93 (.getfield 237) 3 96 9 13 2,
  zev32 96 (.iconst 0) 1 97 0, zev32 97 (.bipush 10) 2 99 10, zcal 99 (.invokevirtual 458) 3 102 281 4 1 9, ze0 102 (.aload_n 0) 1 103, ze0 103 (.aload_n 0) 1 104, zex 104 (.getfield 53) 3 107 9 14 2,
  zev32 107 (.iconst 0) 1 108 0, zev32 108 (.bipush 10) 2 110 10, zcal 110 (.invokevirtual 458) 3 113 281 4 1 9, ze0 113 (.aload_n 0) 1 114, ze0 114 (.aload_n 0) 1 115, zex 115 (.getfield 25) 3 118 9 4 2,
  zev32 118 (.iconst 0) 1 119 0, zev32 119 (.bipush 10) 2 121 10, zcal 121 (.invokevirtual 458) 3 124 281 4 1 9, ze0 124 (.aload_n 0) 1 125, ze0 125 (.aload_n 0) 1 126, zex 126 (.getfield 206) 3 129 9 6 2,
  zev32 129 (.iconst 0) 1 130 0, zev32 130 (.bipush 60) 2 132 60, zcal 132 (.invokevirtual 458) 3 135 281 4 1 9, ze0 135 (.aload_n 0) 1 136, zex 136 (.getfield 443) 3 139 9 64 2, ze0 139 (.aload_n 0) 1 140,
  zex 140 (.getfield 446) 3 143 9 65 0, ze0 143 (.aload_n 0) 1 144, zex 144 (.getfield 158) 3 147 9 15 0, ze0 147 .iastore 1 148, zev32 148 (.iconst 1) 1 149 1, ze0 149 .ireturn 1 150]
def zm_283 : zMi := ((yX9_keep, cX9_keep, 2, (some .boolean)), (9, 2, 2), zt_283, [])
/-- NotWhereYesterdayModel.again(I)Z -/
def zt_284 : zT := [ze0 0 (.aload_n 0) 1 1, zev32 1 (.iconst 0) 1 2 0, zex 2 (.putfield 3) 3 5 9 0 0, ze0 5 (.iload_n 1) 1 6, ze0 6 .i2l 1 7, zev64 7 (.lconst 0) 1 8 0,
  zev64 8 (.ldc2_w 435) 3 11 2, zcal 11 (.invokestatic 16) 3 14 171 3 0 9, zex 14 (.ifCond .eq 38) 3 17 52 0 0, ze0 17 (.aload_n 0) 1 18, zex 18 (.getfield 449) 3 21 9 61 2, ze0 21 (.iload_n 1) 1 22,
  ze0 22 .baload 1 23, zex 23 (.ifCond .eq 29) 3 26 52 0 0, ze0 26 (.aload_n 0) 1 27, zex 27 (.getfield 452) 3 30 9 62 2, ze0 30 (.iload_n 1) 1 31, ze0 31 .iaload 1 32,
  ze0 32 (.aload_n 0) 1 33, zex 33 (.getfield 22) 3 36 9 3 0, zex 36 (.if_icmp .ne 16) 3 39 52 0 0, ze0 39 (.aload_n 0) 1 40, zex 40 (.getfield 455) 3 43 9 63 2, ze0 43 (.iload_n 1) 1 44,
  ze0 44 .iaload 1 45, ze0 45 (.aload_n 0) 1 46, zex 46 (.getfield 37) 3 49 9 7 0, zex 49 (.if_icmp .eq 5) 3 52 54 0 0, zev32 52 (.iconst 0) 1 53 0, ze0 53 .ireturn 1 54,
  ze0 54 (.aload_n 0) 1 55, zev32 55 (.sipush 711) 3 58 711, ze0 58 (.iload_n 1) 1 59, ze0 59 .imul 1 60, zex 60 (.putfield 446) 3 63 9 65 0, ze0 63 (.aload_n 0) 1 64,
  ze0 64 (.aload_n 0) 1 65, zex 65 (.getfield 56) 3 68 9 16 2, zev32 68 (.iconst 0) 1 69 0, zev32 69 (.sipush 600) 3 72 600, zcal 72 (.invokevirtual 462) 3 75 282 4 1 9, ze0 75 (.aload_n 0) 1 76,
  ze0 76 (.aload_n 0) 1 77, zex 77 (.getfield 56) 3 80 9 16 2, zev32 80 (.sipush 630) 3 83 630, zev32 83 (.bipush 10) 2 85 10, zcal 85 (.invokevirtual 462) 3 88 282 4 1 9, ze0 88 (.aload_n 0) 1 89,
  ze0 89 (.aload_n 0) 1 90, zex 90 (.getfield 234) 3 93 9 12 2, zev32 93 (.iconst 0) 1 94 0, zev32 94 (.bipush 10) 2 96 10, zcal 96 (.invokevirtual 462) 3 99 282 4 1 9, ze0 99 (.aload_n 0) 1 100,
  ze0 100 (.aload_n 0) 1 101, zex 101 (.getfield 237) 3 104 9 13 2, zev32 104 (.iconst 0) 1 105 0, zev32 105 (.bipush 10) 2 107 10, zcal 107 (.invokevirtual 462) 3 110 282 4 1 9, ze0 110 (.aload_n 0) 1 111,
  ze0 111 (.aload_n 0) 1 112, zex 112 (.getfield 53) 3 115 9 14 2, zev32 115 (.iconst 0) 1 116 0, zev32 116 (.bipush 10) 2 118 10, zcal 118 (.invokevirtual 462) 3 121 282 4 1 9, ze0 121 (.aload_n 0) 1 122,
  ze0 122 (.aload_n 0) 1 123, zex 123 (.getfield 25) 3 126 9 4 2, zev32 126 (.iconst 0) 1 127 0, zev32 127 (.bipush 10) 2 129 10, zcal 129 (.invokevirtual 462) 3 132 282 4 1 9, ze0 132 (.aload_n 0) 1 133,
  ze0 133 (.aload_n 0) 1 134, zex 134 (.getfield 206) 3 137 9 6 2, zev32 137 (.iconst 0) 1 138 0, zev32 138 (.bipush 60) 2 140 60, zcal 140 (.invokevirtual 462) 3 143 282 4 1 9, ze0 143 (.aload_n 0) 1 144,
  ze0 144 (.aload_n 0) 1 145, zex 145 (.getfield 443) 3 148 9 64 2, ze0 148 (.aload_n 0) 1 149, zex 149 (.getfield 446) 3 152 9 65 0, ze0 152 .iaload 1 153, zex 153 (.putfield 158) 3 156 9 15 0,
  zev32 156 (.iconst 1) 1 157 1, ze0 157 .ireturn 1 158]
def zm_284 : zMi := ((yX9_again, cX9_again, 2, (some .boolean)), (9, 2, 2), zt_284, [(52, [])])
/-- NotWhereYesterdayModel.count(I)I -/
def zt_285 : zT := [ze0 0 (.aload_n 0) 1 1, zev32 1 (.iconst 0) 1 2 0, zex 2 (.putfield 3) 3 5 9 0 0, ze0 5 (.iload_n 1) 1 6, (6, (((.tableswitch 86 0 7 #[46, 51, 56, 61, 66, 71, 76, 81]), 46), 52, (92, 0, 0), (0, 0), [52, 57, 62, 67, 72, 77, 82, 87])), ze0 52 (.aload_n 0) 1 53,
  zex 53 (.getfield 22) 3 56 9 3 0, ze0 56 .ireturn 1 57, ze0 57 (.aload_n 0) 1 58, zex 58 (.getfield 37) 3 61 9 7 0, ze0 61 .ireturn 1 62, ze0 62 (.aload_n 0) 1 63,
  zex 63 (.getfield 158) 3 66 9 15 0, ze0 66 .ireturn 1 67, ze0 67 (.aload_n 0) 1 68, zex 68 (.getfield 131) 3 71 9 17 0, ze0 71 .ireturn 1 72, ze0 72 (.aload_n 0) 1 73,
  zex 73 (.getfield 134) 3 76 9 18 0, ze0 76 .ireturn 1 77, ze0 77 (.aload_n 0) 1 78, zcal 78 (.invokevirtual 221) 3 81 206 1 0 9, ze0 81 .ireturn 1 82, ze0 82 (.aload_n 0) 1 83,
  zex 83 (.getfield 11) 3 86 9 1 0, ze0 86 .ireturn 1 87, ze0 87 (.aload_n 0) 1 88, zex 88 (.getfield 59) 3 91 9 34 0, ze0 91 .ireturn 1 92, zev32 92 (.iconst (-1)) 1 93 (-1),
  ze0 93 .ireturn 1 94]
def zm_285 : zMi := ((yX9_count, cX9_count, 2, (some .int)), (9, 2, 3), zt_285, [])
/-- NotWhereYesterdayModel.<init>()V -/
def zt_286 : zT := [ze0 0 (.aload_n 0) 1 1, zcal 1 (.invokespecial 465) 3 4 0 1 5 0, ze0 4 (.aload_n 0) 1 5, zev32 5 (.bipush 40) 2 7 40, zex 7 (.newarray .int) 2 9 20 0 0, zex 9 (.putfield 7) 3 12 9 2 2,
  ze0 12 (.aload_n 0) 1 13, zev32 13 (.bipush 10) 2 15 10, zex 15 (.newarray .int) 2 17 20 0 0, zex 17 (.putfield 25) 3 20 9 4 2, ze0 20 (.aload_n 0) 1 21, zev32 21 (.bipush 10) 2 23 10,
  zex 23 (.newarray .int) 2 25 20 0 0, zex 25 (.putfield 28) 3 28 9 5 2, ze0 28 (.aload_n 0) 1 29, zev32 29 (.bipush 60) 2 31 60, zex 31 (.newarray .int) 2 33 20 0 0, zex 33 (.putfield 206) 3 36 9 6 2,
  ze0 36 (.aload_n 0) 1 37, zev32 37 (.bipush 10) 2 39 10, zex 39 (.newarray .int) 2 41 20 0 0, zex 41 (.putfield 40) 3 44 9 8 2, ze0 44 (.aload_n 0) 1 45, zev32 45 (.bipush 10) 2 47 10,
  zex 47 (.newarray .boolean) 2 49 21 0 0, zex 49 (.putfield 43) 3 52 9 9 2, ze0 52 (.aload_n 0) 1 53, zev32 53 (.bipush 10) 2 55 10, zex 55 (.newarray .int) 2 57 20 0 0, zex 57 (.putfield 47) 3 60 9 10 2,
  ze0 60 (.aload_n 0) 1 61, zev32 61 (.bipush 10) 2 63 10, zex 63 (.newarray .int) 2 65 20 0 0, zex 65 (.putfield 50) 3 68 9 11 2, ze0 68 (.aload_n 0) 1 69, zev32 69 (.bipush 10) 2 71 10,
  zex 71 (.newarray .int) 2 73 20 0 0, zex 73 (.putfield 234) 3 76 9 12 2, ze0 76 (.aload_n 0) 1 77, zev32 77 (.bipush 10) 2 79 10, zex 79 (.newarray .int) 2 81 20 0 0, zex 81 (.putfield 237) 3 84 9 13 2,
  ze0 84 (.aload_n 0) 1 85, zev32 85 (.bipush 10) 2 87 10, zex 87 (.newarray .int) 2 89 20 0 0, zex 89 (.putfield 53) 3 92 9 14 2, ze0 92 (.aload_n 0) 1 93, zev32 93 (.sipush 640) 3 96 640,
  zex 96 (.newarray .int) 2 98 20 0 0, zex 98 (.putfield 56) 3 101 9 16 2, ze0 101 (.aload_n 0) 1 102, zev32 102 (.bipush 10) 2 104 10, zex 104 (.newarray .int) 2 106 20 0 0, zex 106 (.putfield 143) 3 109 9 20 2,
  ze0 109 (.aload_n 0) 1 110, zev32 110 (.bipush 10) 2 112 10, zex 112 (.newarray .int) 2 114 20 0 0, zex 114 (.putfield 146) 3 117 9 22 2, ze0 117 (.aload_n 0) 1 118, zev32 118 (.bipush 10) 2 120 10,
  zex 120 (.newarray .int) 2 122 20 0 0, zex 122 (.putfield 149) 3 125 9 23 2, ze0 125 (.aload_n 0) 1 126, zev32 126 (.bipush 10) 2 128 10, zex 128 (.newarray .int) 2 130 20 0 0, zex 130 (.putfield 152) 3 133 9 24 2,
  ze0 133 (.aload_n 0) 1 134, zev32 134 (.bipush 10) 2 136 10, zex 136 (.newarray .int) 2 138 20 0 0, zex 138 (.putfield 110) 3 141 9 28 2, ze0 141 (.aload_n 0) 1 142, zev32 142 (.bipush 10) 2 144 10,
  zex 144 (.newarray .int) 2 146 20 0 0, zex 146 (.putfield 95) 3 149 9 30 2, ze0 149 (.aload_n 0) 1 150, zev32 150 (.bipush 10) 2 152 10, zex 152 (.newarray .int) 2 154 20 0 0, zex 154 (.putfield 101) 3 157 9 31 2,
  ze0 157 (.aload_n 0) 1 158, zev32 158 (.bipush 10) 2 160 10, zex 160 (.newarray .int) 2 162 20 0 0, zex 162 (.putfield 104) 3 165 9 32 2, ze0 165 (.aload_n 0) 1 166, zev32 166 (.bipush 80) 2 168 80,
  zex 168 (.newarray .int) 2 170 20 0 0, zex 170 (.putfield 62) 3 173 9 33 2, ze0 173 (.aload_n 0) 1 174, zev32 174 (.iconst (-1)) 1 175 (-1), zex 175 (.putfield 155) 3 178 9 37 0, ze0 178 (.aload_n 0) 1 179,
  zev32 179 (.iconst 4) 1 180 4, zex 180 (.newarray .int) 2 182 20 0 0, zex 182 (.putfield 247) 3 185 9 39 2, ze0 185 (.aload_n 0) 1 186, zev32 186 (.ldc_w 470) 3 189 123904, zex 189 (.newarray .int) 2 191 20 0 0,
  zex 191 (.putfield 257) 3 194 9 40 2, ze0 194 (.aload_n 0) 1 195, zev32 195 (.bipush 10) 2 197 10, zex 197 (.newarray .int) 2 199 20 0 0, zex 199 (.putfield 263) 3 202 9 41 2, ze0 202 (.aload_n 0) 1 203,
  zev32 203 (.bipush 10) 2 205 10, zex 205 (.newarray .int) 2 207 20 0 0, zex 207 (.putfield 266) 3 210 9 42 2, ze0 210 (.aload_n 0) 1 211, zev32 211 (.bipush 10) 2 213 10, zex 213 (.newarray .int) 2 215 20 0 0,
  zex 215 (.putfield 278) 3 218 9 43 2, ze0 218 (.aload_n 0) 1 219, zev32 219 (.sipush 600) 3 222 600, zex 222 (.newarray .int) 2 224 20 0 0, zex 224 (.putfield 322) 3 227 9 46 2, ze0 227 (.aload_n 0) 1 228,
  zev32 228 (.sipush 14400) 3 231 14400, zex 231 (.newarray .boolean) 2 233 21 0 0, zex 233 (.putfield 340) 3 236 9 48 2, ze0 236 (.aload_n 0) 1 237, zev32 237 (.bipush 120) 2 239 120, zex 239 (.newarray .boolean) 2 241 21 0 0,
  zex 241 (.putfield 350) 3 244 9 49 2, ze0 244 (.aload_n 0) 1 245, zev32 245 (.bipush 10) 2 247 10, zex 247 (.newarray .int) 2 249 20 0 0, zex 249 (.putfield 328) 3 252 9 50 2, ze0 252 (.aload_n 0) 1 253,
  zev32 253 (.bipush 120) 2 255 120, zex 255 (.newarray .int) 2 257 20 0 0, zex 257 (.putfield 359) 3 260 9 51 2, ze0 260 (.aload_n 0) 1 261, zev32 261 (.bipush 120) 2 263 120, zex 263 (.newarray .int) 2 265 20 0 0,
  zex 265 (.putfield 362) 3 268 9 52 2, ze0 268 (.aload_n 0) 1 269, zev32 269 (.bipush 120) 2 271 120, zex 271 (.newarray .boolean) 2 273 21 0 0, zex 273 (.putfield 374) 3 276 9 53 2, ze0 276 (.aload_n 0) 1 277,
  zev32 277 (.bipush 120) 2 279 120, zex 279 (.newarray .boolean) 2 281 21 0 0, zex 281 (.putfield 377) 3 284 9 54 2, ze0 284 (.aload_n 0) 1 285, zev32 285 (.iconst 3) 1 286 3, zex 286 (.newarray .int) 2 288 20 0 0,
  zex 288 (.putfield 395) 3 291 9 55 2, ze0 291 (.aload_n 0) 1 292, zev32 292 (.iconst 3) 1 293 3, zex 293 (.newarray .int) 2 295 20 0 0, zex 295 (.putfield 392) 3 298 9 56 2, ze0 298 (.aload_n 0) 1 299,
  zev32 299 (.bipush 40) 2 301 40, zex 301 (.newarray .int) 2 303 20 0 0, zex 303 (.putfield 398) 3 306 9 57 2, ze0 306 (.aload_n 0) 1 307, zev32 307 (.bipush 10) 2 309 10, zex 309 (.newarray .int) 2 311 20 0 0,
  zex 311 (.putfield 423) 3 314 9 60 2, ze0 314 (.aload_n 0) 1 315, zev32 315 (.iconst 3) 1 316 3, zex 316 (.newarray .boolean) 2 318 21 0 0, zex 318 (.putfield 449) 3 321 9 61 2, ze0 321 (.aload_n 0) 1 322,
  zev32 322 (.iconst 3) 1 323 3, zex 323 (.newarray .int) 2 325 20 0 0, zex 325 (.putfield 452) 3 328 9 62 2, ze0 328 (.aload_n 0) 1 329, zev32 329 (.iconst 3) 1 330 3, zex 330 (.newarray .int) 2 332 20 0 0,
  zex 332 (.putfield 455) 3 335 9 63 2, ze0 335 (.aload_n 0) 1 336, zev32 336 (.sipush 2133) 3 339 2133, zex 339 (.newarray .int) 2 341 20 0 0, zex 341 (.putfield 443) 3 344 9 64 2, ze0 344 .return_ 1 345]
def zm_286 : zMi := ((yX9_init, cX9_init, 1, none), (9, 1, 1), zt_286, [])
/-- NotWhereYesterdayModel.row(I)I -/
def zt_287 : zT := [ze0 0 (.aload_n 0) 1 1, zev32 1 (.iconst 0) 1 2 0, zex 2 (.putfield 3) 3 5 9 0 0, ze0 5 (.iload_n 1) 1 6, ze0 6 .i2l 1 7, zev64 7 (.lconst 0) 1 8 0,
  ze0 8 (.aload_n 0) 1 9, zex 9 (.getfield 11) 3 12 9 1 0, zev32 12 (.iconst 1) 1 13 1, ze0 13 .isub 1 14, ze0 14 .i2l 1 15, zcal 15 (.invokestatic 16) 3 18 171 3 0 9,
  zex 18 (.ifCond .ne 10) 3 21 28 0 0, ze0 21 (.aload_n 0) 1 22, zev32 22 (.iconst 1) 1 23 1, zex 23 (.putfield 3) 3 26 9 0 0, zev32 26 (.iconst 0) 1 27 0, ze0 27 .ireturn 1 28,
  ze0 28 (.aload_n 0) 1 29, zex 29 (.getfield 7) 3 32 9 2 2, ze0 32 (.iload_n 1) 1 33, ze0 33 .iaload 1 34, ze0 34 .ireturn 1 35]
def zm_287 : zMi := ((yX9_row, cX9_row, 2, (some .int)), (9, 2, 2), zt_287, [])
/-- java/lang/Integer.bitCount(I)I -/
def zt_288 : zT := [ze0 0 (.iload_n 0) 1 1, ze0 1 (.iload_n 0) 1 2, zev32 2 (.iconst 1) 1 3 1, ze0 3 .iushr 1 4, zev32 4 (.ldc_w 265) 3 7 1431655765, ze0 7 .iand 1 8,
  ze0 8 .isub 1 9, ze0 9 (.istore_n 0) 1 10, ze0 10 (.iload_n 0) 1 11, zev32 11 (.ldc_w 266) 3 14 858993459, ze0 14 .iand 1 15, ze0 15 (.iload_n 0) 1 16,
  zev32 16 (.iconst 2) 1 17 2, ze0 17 .iushr 1 18, zev32 18 (.ldc_w 266) 3 21 858993459, ze0 21 .iand 1 22, ze0 22 .iadd 1 23, ze0 23 (.istore_n 0) 1 24,
  ze0 24 (.iload_n 0) 1 25, ze0 25 (.iload_n 0) 1 26, zev32 26 (.iconst 4) 1 27 4, ze0 27 .iushr 1 28, ze0 28 .iadd 1 29, zev32 29 (.ldc_w 267) 3 32 252645135,
  ze0 32 .iand 1 33, ze0 33 (.istore_n 0) 1 34, ze0 34 (.iload_n 0) 1 35, ze0 35 (.iload_n 0) 1 36, zev32 36 (.bipush 8) 2 38 8, ze0 38 .iushr 1 39,
  ze0 39 .iadd 1 40, ze0 40 (.istore_n 0) 1 41, ze0 41 (.iload_n 0) 1 42, ze0 42 (.iload_n 0) 1 43, zev32 43 (.bipush 16) 2 45 16, ze0 45 .iushr 1 46,
  ze0 46 .iadd 1 47, ze0 47 (.istore_n 0) 1 48, ze0 48 (.iload_n 0) 1 49, zev32 49 (.bipush 63) 2 51 63, ze0 51 .iand 1 52, ze0 52 .ireturn 1 53]
def zm_288 : zMi := ((yJ6_bitCount_0f7a4, cJ6_bitCount_0f7a4, 1, (some .int)), (11, 1, 1), zt_288, [])
/-- java/lang/Long.bitCount(J)I -/
def zt_289 : zT := [ze0 0 (.lload_n 0) 1 1, ze0 1 (.lload_n 0) 1 2, zev32 2 (.iconst 1) 1 3 1, ze0 3 .lushr 1 4, zev64 4 (.ldc2_w 314) 3 7 6148914691236517205, ze0 7 .land 1 8,
  ze0 8 .lsub 1 9, ze0 9 (.lstore_n 0) 1 10, ze0 10 (.lload_n 0) 1 11, zev64 11 (.ldc2_w 316) 3 14 3689348814741910323, ze0 14 .land 1 15, ze0 15 (.lload_n 0) 1 16,
  zev32 16 (.iconst 2) 1 17 2, ze0 17 .lushr 1 18, zev64 18 (.ldc2_w 316) 3 21 3689348814741910323, ze0 21 .land 1 22, ze0 22 .ladd 1 23, ze0 23 (.lstore_n 0) 1 24,
  ze0 24 (.lload_n 0) 1 25, ze0 25 (.lload_n 0) 1 26, zev32 26 (.iconst 4) 1 27 4, ze0 27 .lushr 1 28, ze0 28 .ladd 1 29, zev64 29 (.ldc2_w 318) 3 32 1085102592571150095,
  ze0 32 .land 1 33, ze0 33 (.lstore_n 0) 1 34, ze0 34 (.lload_n 0) 1 35, ze0 35 (.lload_n 0) 1 36, zev32 36 (.bipush 8) 2 38 8, ze0 38 .lushr 1 39,
  ze0 39 .ladd 1 40, ze0 40 (.lstore_n 0) 1 41, ze0 41 (.lload_n 0) 1 42, ze0 42 (.lload_n 0) 1 43, zev32 43 (.bipush 16) 2 45 16, ze0 45 .lushr 1 46,
  ze0 46 .ladd 1 47, ze0 47 (.lstore_n 0) 1 48, ze0 48 (.lload_n 0) 1 49, ze0 49 (.lload_n 0) 1 50, zev32 50 (.bipush 32) 2 52 32, ze0 52 .lushr 1 53,
  ze0 53 .ladd 1 54, ze0 54 (.lstore_n 0) 1 55, ze0 55 (.lload_n 0) 1 56, ze0 56 .l2i 1 57, zev32 57 (.bipush 127) 2 59 127, ze0 59 .iand 1 60,
  ze0 60 .ireturn 1 61]
def zm_289 : zMi := ((yJ13_bitCount_95d88, cJ13_bitCount_95d88, 2, (some .int)), (12, 1, 1), zt_289, [])
/-- java/util/Arrays.fill([II)V -/
def zt_290 : zT := [zev32 0 (.iconst 0) 1 1 0, ze0 1 (.istore_n 2) 1 2, ze0 2 (.aload_n 0) 1 3, ze0 3 .arraylength 1 4, ze0 4 (.istore_n 3) 1 5, ze0 5 (.iload_n 2) 1 6,
  ze0 6 (.iload_n 3) 1 7, zex 7 (.if_icmp .ge 13) 3 10 20 0 0, ze0 10 (.aload_n 0) 1 11, ze0 11 (.iload_n 2) 1 12, ze0 12 (.iload_n 1) 1 13, ze0 13 .iastore 1 14,
  zev32 14 (.iinc 2 1) 3 17 1, zex 17 (.goto (-12)) 3 20 5 0 0, ze0 20 .return_ 1 21]
def zm_290 : zMi := ((yJ7_fill_53178, cJ7_fill_53178, 4, none), (14, 2, 1), zt_290, [(5, [0, 1, 2, 3])])
/-- NotWhereYesterdayLaw.law([I)Z -/
def zt_291_0 : zT := [zex 0 (.new 8) 3 3 8 13 0, ze0 3 .dup 1 4, zcal 4 (.invokespecial 15) 3 7 104 1 4 8, ze0 7 (.astore_n 1) 1 8, zex 8 (.new 16) 3 11 9 66 0, ze0 11 .dup 1 12,
  zcal 12 (.invokespecial 18) 3 15 286 1 4 9, ze0 15 (.astore_n 2) 1 16, zev32 16 (.iconst 1) 1 17 1, zex 17 (.newarray .long) 2 19 22 0 0, ze0 19 (.astore_n 3) 1 20, zev32 20 (.iconst 0) 1 21 0,
  ze0 21 (.istore 4) 2 23, ze0 23 (.iload 4) 2 25, ze0 25 (.aload_n 0) 1 26, ze0 26 .arraylength 1 27, zev32 27 (.iconst 5) 1 28 5, ze0 28 .isub 1 29,
  zex 29 (.if_icmp .gt 1439) 3 32 1468 0 0, ze0 32 (.aload_n 0) 1 33, ze0 33 (.iload 4) 2 35, ze0 35 .iaload 1 36, zev32 36 (.bipush 63) 2 38 63, ze0 38 .iand 1 39,
  (39, (((.tableswitch 1423 0 46 #[201, 238, 315, 340, 365, 378, 415, 452, 489, 526, 587, 600, 613, 650, 675, 688, 713, 726, 739, 764, 789, 802, 815, 840, 865, 890, 927, 964, 989, 1002, 1015, 1028, 1041, 1054, 1079, 1092, 1129, 1154, 1167, 1192, 1229, 1254, 1279, 1292, 1317, 1342, 1367]), 201), 240, (1462, 0, 0), (0, 0), [240, 277, 354, 379, 404, 417, 454, 491, 528, 565, 626, 639, 652, 689, 714, 727, 752, 765, 778, 803, 828, 841, 854, 879, 904, 929, 966, 1003, 1028, 1041, 1054, 1067, 1080, 1093, 1118, 1131, 1168, 1193, 1206, 1231, 1268, 1293, 1318, 1331, 1356, 1381, 1406])), ze0 240 (.aload_n 1) 1 241, ze0 241 (.aload_n 0) 1 242, ze0 242 (.iload 4) 2 244, zev32 244 (.iconst 1) 1 245 1, ze0 245 .iadd 1 246,
  ze0 246 .iaload 1 247, ze0 247 (.aload_n 0) 1 248, ze0 248 (.iload 4) 2 250, zev32 250 (.iconst 2) 1 251 2, ze0 251 .iadd 1 252, ze0 252 .iaload 1 253,
  zcal 253 (.invokevirtual 19) 3 256 105 3 0 8, ze0 256 (.aload_n 2) 1 257, ze0 257 (.aload_n 0) 1 258, ze0 258 (.iload 4) 2 260, zev32 260 (.iconst 1) 1 261 1, ze0 261 .iadd 1 262,
  ze0 262 .iaload 1 263, ze0 263 (.aload_n 0) 1 264, ze0 264 (.iload 4) 2 266, zev32 266 (.iconst 2) 1 267 2, ze0 267 .iadd 1 268, ze0 268 .iaload 1 269,
  zcal 269 (.invokevirtual 23) 3 272 175 3 0 9, zex 272 (.if_icmp .eq 1190) 3 275 1462 0 0, zev32 275 (.iconst 0) 1 276 0, ze0 276 .ireturn 1 277, ze0 277 (.aload_n 1) 1 278, ze0 278 (.aload_n 0) 1 279,
  ze0 279 (.iload 4) 2 281, zev32 281 (.iconst 1) 1 282 1, ze0 282 .iadd 1 283, ze0 283 .iaload 1 284, ze0 284 (.aload_n 0) 1 285, ze0 285 (.iload 4) 2 287]
def zt_291_1 : zT := [zev32 287 (.iconst 2) 1 288 2, ze0 288 .iadd 1 289, ze0 289 .iaload 1 290, zex 290 (.ifCond .eq 7) 3 293 297 0 0, zev32 293 (.iconst 1) 1 294 1, zex 294 (.goto 4) 3 297 298 0 0,
  zev32 297 (.iconst 0) 1 298 0, ze0 298 (.aload_n 0) 1 299, ze0 299 (.iload 4) 2 301, zev32 301 (.iconst 3) 1 302 3, ze0 302 .iadd 1 303, ze0 303 .iaload 1 304,
  ze0 304 (.aload_n 0) 1 305, ze0 305 (.iload 4) 2 307, zev32 307 (.iconst 4) 1 308 4, ze0 308 .iadd 1 309, ze0 309 .iaload 1 310, zcal 310 (.invokevirtual 24) 3 313 106 5 0 8,
  ze0 313 (.aload_n 2) 1 314, ze0 314 (.aload_n 0) 1 315, ze0 315 (.iload 4) 2 317, zev32 317 (.iconst 1) 1 318 1, ze0 318 .iadd 1 319, ze0 319 .iaload 1 320,
  ze0 320 (.aload_n 0) 1 321, ze0 321 (.iload 4) 2 323, zev32 323 (.iconst 2) 1 324 2, ze0 324 .iadd 1 325, ze0 325 .iaload 1 326, zex 326 (.ifCond .eq 7) 3 329 333 0 0,
  zev32 329 (.iconst 1) 1 330 1, zex 330 (.goto 4) 3 333 334 0 0, zev32 333 (.iconst 0) 1 334 0, ze0 334 (.aload_n 0) 1 335, ze0 335 (.iload 4) 2 337, zev32 337 (.iconst 3) 1 338 3,
  ze0 338 .iadd 1 339, ze0 339 .iaload 1 340, ze0 340 (.aload_n 0) 1 341, ze0 341 (.iload 4) 2 343, zev32 343 (.iconst 4) 1 344 4, ze0 344 .iadd 1 345,
  ze0 345 .iaload 1 346, zcal 346 (.invokevirtual 28) 3 349 176 5 0 9, zex 349 (.if_icmp .eq 1113) 3 352 1462 0 0, zev32 352 (.iconst 0) 1 353 0, ze0 353 .ireturn 1 354, ze0 354 (.aload_n 1) 1 355,
  ze0 355 (.aload_n 0) 1 356, ze0 356 (.iload 4) 2 358, zev32 358 (.iconst 1) 1 359 1, ze0 359 .iadd 1 360, ze0 360 .iaload 1 361, zcal 361 (.invokevirtual 29) 3 364 107 2 0 8,
  ze0 364 (.aload_n 2) 1 365, ze0 365 (.aload_n 0) 1 366, ze0 366 (.iload 4) 2 368, zev32 368 (.iconst 1) 1 369 1, ze0 369 .iadd 1 370, ze0 370 .iaload 1 371]
def zt_291_2 : zT := [zcal 371 (.invokevirtual 32) 3 374 179 2 0 9, zex 374 (.if_icmp .eq 1088) 3 377 1462 0 0, zev32 377 (.iconst 0) 1 378 0, ze0 378 .ireturn 1 379, ze0 379 (.aload_n 1) 1 380, ze0 380 (.aload_n 0) 1 381,
  ze0 381 (.iload 4) 2 383, zev32 383 (.iconst 1) 1 384 1, ze0 384 .iadd 1 385, ze0 385 .iaload 1 386, zcal 386 (.invokevirtual 33) 3 389 108 2 0 8, ze0 389 (.aload_n 2) 1 390,
  ze0 390 (.aload_n 0) 1 391, ze0 391 (.iload 4) 2 393, zev32 393 (.iconst 1) 1 394 1, ze0 394 .iadd 1 395, ze0 395 .iaload 1 396, zcal 396 (.invokevirtual 37) 3 399 180 2 0 9,
  zex 399 (.if_icmp .eq 1063) 3 402 1462 0 0, zev32 402 (.iconst 0) 1 403 0, ze0 403 .ireturn 1 404, ze0 404 (.aload_n 1) 1 405, zcal 405 (.invokevirtual 38) 3 408 109 1 0 8, ze0 408 (.aload_n 2) 1 409,
  zcal 409 (.invokevirtual 42) 3 412 187 1 0 9, zex 412 (.if_icmp .eq 1050) 3 415 1462 0 0, zev32 415 (.iconst 0) 1 416 0, ze0 416 .ireturn 1 417, ze0 417 (.aload_n 1) 1 418, ze0 418 (.aload_n 0) 1 419,
  ze0 419 (.iload 4) 2 421, zev32 421 (.iconst 1) 1 422 1, ze0 422 .iadd 1 423, ze0 423 .iaload 1 424, ze0 424 (.aload_n 0) 1 425, ze0 425 (.iload 4) 2 427,
  zev32 427 (.iconst 2) 1 428 2, ze0 428 .iadd 1 429, ze0 429 .iaload 1 430, zcal 430 (.invokevirtual 43) 3 433 110 3 0 8, ze0 433 (.aload_n 2) 1 434, ze0 434 (.aload_n 0) 1 435,
  ze0 435 (.iload 4) 2 437, zev32 437 (.iconst 1) 1 438 1, ze0 438 .iadd 1 439, ze0 439 .iaload 1 440, ze0 440 (.aload_n 0) 1 441, ze0 441 (.iload 4) 2 443,
  zev32 443 (.iconst 2) 1 444 2, ze0 444 .iadd 1 445, ze0 445 .iaload 1 446, zcal 446 (.invokevirtual 46) 3 449 201 3 0 9, zex 449 (.if_icmp .eq 1013) 3 452 1462 0 0, zev32 452 (.iconst 0) 1 453 0,
  ze0 453 .ireturn 1 454, ze0 454 (.aload_n 1) 1 455, ze0 455 (.aload_n 0) 1 456, ze0 456 (.iload 4) 2 458, zev32 458 (.iconst 1) 1 459 1, ze0 459 .iadd 1 460]
def zt_291_3 : zT := [ze0 460 .iaload 1 461, ze0 461 (.aload_n 0) 1 462, ze0 462 (.iload 4) 2 464, zev32 464 (.iconst 2) 1 465 2, ze0 465 .iadd 1 466, ze0 466 .iaload 1 467,
  zcal 467 (.invokevirtual 47) 3 470 111 3 0 8, ze0 470 (.aload_n 2) 1 471, ze0 471 (.aload_n 0) 1 472, ze0 472 (.iload 4) 2 474, zev32 474 (.iconst 1) 1 475 1, ze0 475 .iadd 1 476,
  ze0 476 .iaload 1 477, ze0 477 (.aload_n 0) 1 478, ze0 478 (.iload 4) 2 480, zev32 480 (.iconst 2) 1 481 2, ze0 481 .iadd 1 482, ze0 482 .iaload 1 483,
  zcal 483 (.invokevirtual 50) 3 486 202 3 0 9, zex 486 (.if_icmp .eq 976) 3 489 1462 0 0, zev32 489 (.iconst 0) 1 490 0, ze0 490 .ireturn 1 491, ze0 491 (.aload_n 1) 1 492, ze0 492 (.aload_n 0) 1 493,
  ze0 493 (.iload 4) 2 495, zev32 495 (.iconst 1) 1 496 1, ze0 496 .iadd 1 497, ze0 497 .iaload 1 498, ze0 498 (.aload_n 0) 1 499, ze0 499 (.iload 4) 2 501,
  zev32 501 (.iconst 2) 1 502 2, ze0 502 .iadd 1 503, ze0 503 .iaload 1 504, zcal 504 (.invokevirtual 51) 3 507 112 3 0 8, ze0 507 (.aload_n 2) 1 508, ze0 508 (.aload_n 0) 1 509,
  ze0 509 (.iload 4) 2 511, zev32 511 (.iconst 1) 1 512 1, ze0 512 .iadd 1 513, ze0 513 .iaload 1 514, ze0 514 (.aload_n 0) 1 515, ze0 515 (.iload 4) 2 517,
  zev32 517 (.iconst 2) 1 518 2, ze0 518 .iadd 1 519, ze0 519 .iaload 1 520, zcal 520 (.invokevirtual 54) 3 523 203 3 0 9, zex 523 (.if_icmp .eq 939) 3 526 1462 0 0, zev32 526 (.iconst 0) 1 527 0,
  ze0 527 .ireturn 1 528, ze0 528 (.aload_n 1) 1 529, ze0 529 (.aload_n 0) 1 530, ze0 530 (.iload 4) 2 532, zev32 532 (.iconst 1) 1 533 1, ze0 533 .iadd 1 534,
  ze0 534 .iaload 1 535, ze0 535 (.aload_n 0) 1 536, ze0 536 (.iload 4) 2 538, zev32 538 (.iconst 2) 1 539 2, ze0 539 .iadd 1 540, ze0 540 .iaload 1 541]
def zt_291_4 : zT := [zcal 541 (.invokevirtual 55) 3 544 113 3 0 8, ze0 544 (.aload_n 2) 1 545, ze0 545 (.aload_n 0) 1 546, ze0 546 (.iload 4) 2 548, zev32 548 (.iconst 1) 1 549 1, ze0 549 .iadd 1 550,
  ze0 550 .iaload 1 551, ze0 551 (.aload_n 0) 1 552, ze0 552 (.iload 4) 2 554, zev32 554 (.iconst 2) 1 555 2, ze0 555 .iadd 1 556, ze0 556 .iaload 1 557,
  zcal 557 (.invokevirtual 58) 3 560 205 3 0 9, zex 560 (.if_icmp .eq 902) 3 563 1462 0 0, zev32 563 (.iconst 0) 1 564 0, ze0 564 .ireturn 1 565, ze0 565 (.aload_n 1) 1 566, ze0 566 (.aload_n 0) 1 567,
  ze0 567 (.iload 4) 2 569, zev32 569 (.iconst 1) 1 570 1, ze0 570 .iadd 1 571, ze0 571 .iaload 1 572, ze0 572 (.aload_n 0) 1 573, ze0 573 (.iload 4) 2 575,
  zev32 575 (.iconst 2) 1 576 2, ze0 576 .iadd 1 577, ze0 577 .iaload 1 578, ze0 578 (.aload_n 0) 1 579, ze0 579 (.iload 4) 2 581, zev32 581 (.iconst 3) 1 582 3,
  ze0 582 .iadd 1 583, ze0 583 .iaload 1 584, ze0 584 (.aload_n 0) 1 585, ze0 585 (.iload 4) 2 587, zev32 587 (.iconst 4) 1 588 4, ze0 588 .iadd 1 589,
  ze0 589 .iaload 1 590, zcal 590 (.invokevirtual 59) 3 593 114 5 0 8, ze0 593 (.aload_n 2) 1 594, ze0 594 (.aload_n 0) 1 595, ze0 595 (.iload 4) 2 597, zev32 597 (.iconst 1) 1 598 1,
  ze0 598 .iadd 1 599, ze0 599 .iaload 1 600, ze0 600 (.aload_n 0) 1 601, ze0 601 (.iload 4) 2 603, zev32 603 (.iconst 2) 1 604 2, ze0 604 .iadd 1 605,
  ze0 605 .iaload 1 606, ze0 606 (.aload_n 0) 1 607, ze0 607 (.iload 4) 2 609, zev32 609 (.iconst 3) 1 610 3, ze0 610 .iadd 1 611, ze0 611 .iaload 1 612,
  ze0 612 (.aload_n 0) 1 613, ze0 613 (.iload 4) 2 615, zev32 615 (.iconst 4) 1 616 4, ze0 616 .iadd 1 617, ze0 617 .iaload 1 618, zcal 618 (.invokevirtual 63) 3 621 208 5 0 9]
def zt_291_5 : zT := [zex 621 (.if_icmp .eq 841) 3 624 1462 0 0, zev32 624 (.iconst 0) 1 625 0, ze0 625 .ireturn 1 626, ze0 626 (.aload_n 1) 1 627, zcal 627 (.invokevirtual 64) 3 630 117 1 0 8, ze0 630 (.aload_n 2) 1 631,
  zcal 631 (.invokevirtual 67) 3 634 209 1 0 9, zex 634 (.if_icmp .eq 828) 3 637 1462 0 0, zev32 637 (.iconst 0) 1 638 0, ze0 638 .ireturn 1 639, ze0 639 (.aload_n 1) 1 640, zcal 640 (.invokevirtual 68) 3 643 118 1 0 8,
  ze0 643 (.aload_n 2) 1 644, zcal 644 (.invokevirtual 71) 3 647 212 1 0 9, zex 647 (.if_icmp .eq 815) 3 650 1462 0 0, zev32 650 (.iconst 0) 1 651 0, ze0 651 .ireturn 1 652, ze0 652 (.aload_n 1) 1 653,
  ze0 653 (.aload_n 0) 1 654, ze0 654 (.iload 4) 2 656, zev32 656 (.iconst 1) 1 657 1, ze0 657 .iadd 1 658, ze0 658 .iaload 1 659, ze0 659 (.aload_n 0) 1 660,
  ze0 660 (.iload 4) 2 662, zev32 662 (.iconst 2) 1 663 2, ze0 663 .iadd 1 664, ze0 664 .iaload 1 665, zcal 665 (.invokevirtual 72) 3 668 119 3 0 8, ze0 668 (.aload_n 2) 1 669,
  ze0 669 (.aload_n 0) 1 670, ze0 670 (.iload 4) 2 672, zev32 672 (.iconst 1) 1 673 1, ze0 673 .iadd 1 674, ze0 674 .iaload 1 675, ze0 675 (.aload_n 0) 1 676,
  ze0 676 (.iload 4) 2 678, zev32 678 (.iconst 2) 1 679 2, ze0 679 .iadd 1 680, ze0 680 .iaload 1 681, zcal 681 (.invokevirtual 75) 3 684 213 3 0 9, zex 684 (.if_icmp .eq 778) 3 687 1462 0 0,
  zev32 687 (.iconst 0) 1 688 0, ze0 688 .ireturn 1 689, ze0 689 (.aload_n 1) 1 690, ze0 690 (.aload_n 0) 1 691, ze0 691 (.iload 4) 2 693, zev32 693 (.iconst 1) 1 694 1,
  ze0 694 .iadd 1 695, ze0 695 .iaload 1 696, zcal 696 (.invokevirtual 76) 3 699 120 2 0 8, ze0 699 (.aload_n 2) 1 700, ze0 700 (.aload_n 0) 1 701, ze0 701 (.iload 4) 2 703,
  zev32 703 (.iconst 1) 1 704 1, ze0 704 .iadd 1 705, ze0 705 .iaload 1 706, zcal 706 (.invokevirtual 79) 3 709 214 2 0 9, zex 709 (.if_icmp .eq 753) 3 712 1462 0 0, zev32 712 (.iconst 0) 1 713 0]
def zt_291_6 : zT := [ze0 713 .ireturn 1 714, ze0 714 (.aload_n 1) 1 715, zcal 715 (.invokevirtual 80) 3 718 122 1 0 8, ze0 718 (.aload_n 2) 1 719, zcal 719 (.invokevirtual 83) 3 722 215 1 0 9, zex 722 (.if_icmp .eq 740) 3 725 1462 0 0,
  zev32 725 (.iconst 0) 1 726 0, ze0 726 .ireturn 1 727, ze0 727 (.aload_n 1) 1 728, ze0 728 (.aload_n 0) 1 729, ze0 729 (.iload 4) 2 731, zev32 731 (.iconst 1) 1 732 1,
  ze0 732 .iadd 1 733, ze0 733 .iaload 1 734, zcal 734 (.invokevirtual 84) 3 737 123 2 0 8, ze0 737 (.aload_n 2) 1 738, ze0 738 (.aload_n 0) 1 739, ze0 739 (.iload 4) 2 741,
  zev32 741 (.iconst 1) 1 742 1, ze0 742 .iadd 1 743, ze0 743 .iaload 1 744, zcal 744 (.invokevirtual 87) 3 747 216 2 0 9, zex 747 (.if_icmp .eq 715) 3 750 1462 0 0, zev32 750 (.iconst 0) 1 751 0,
  ze0 751 .ireturn 1 752, ze0 752 (.aload_n 1) 1 753, zcal 753 (.invokevirtual 88) 3 756 124 1 0 8, ze0 756 (.aload_n 2) 1 757, zcal 757 (.invokevirtual 91) 3 760 223 1 0 9, zex 760 (.if_icmp .eq 702) 3 763 1462 0 0,
  zev32 763 (.iconst 0) 1 764 0, ze0 764 .ireturn 1 765, ze0 765 (.aload_n 1) 1 766, zcal 766 (.invokevirtual 92) 3 769 125 1 0 8, ze0 769 (.aload_n 2) 1 770, zcal 770 (.invokevirtual 95) 3 773 225 1 0 9,
  zex 773 (.if_icmp .eq 689) 3 776 1462 0 0, zev32 776 (.iconst 0) 1 777 0, ze0 777 .ireturn 1 778, ze0 778 (.aload_n 1) 1 779, ze0 779 (.aload_n 0) 1 780, ze0 780 (.iload 4) 2 782,
  zev32 782 (.iconst 1) 1 783 1, ze0 783 .iadd 1 784, ze0 784 .iaload 1 785, zcal 785 (.invokevirtual 96) 3 788 127 2 0 8, ze0 788 (.aload_n 2) 1 789, ze0 789 (.aload_n 0) 1 790,
  ze0 790 (.iload 4) 2 792, zev32 792 (.iconst 1) 1 793 1, ze0 793 .iadd 1 794, ze0 794 .iaload 1 795, zcal 795 (.invokevirtual 99) 3 798 226 2 0 9, zex 798 (.if_icmp .eq 664) 3 801 1462 0 0,
  zev32 801 (.iconst 0) 1 802 0, ze0 802 .ireturn 1 803, ze0 803 (.aload_n 1) 1 804, ze0 804 (.aload_n 0) 1 805, ze0 805 (.iload 4) 2 807, zev32 807 (.iconst 1) 1 808 1]
def zt_291_7 : zT := [ze0 808 .iadd 1 809, ze0 809 .iaload 1 810, zcal 810 (.invokevirtual 100) 3 813 128 2 0 8, ze0 813 (.aload_n 2) 1 814, ze0 814 (.aload_n 0) 1 815, ze0 815 (.iload 4) 2 817,
  zev32 817 (.iconst 1) 1 818 1, ze0 818 .iadd 1 819, ze0 819 .iaload 1 820, zcal 820 (.invokevirtual 103) 3 823 228 2 0 9, zex 823 (.if_icmp .eq 639) 3 826 1462 0 0, zev32 826 (.iconst 0) 1 827 0,
  ze0 827 .ireturn 1 828, ze0 828 (.aload_n 1) 1 829, zcal 829 (.invokevirtual 104) 3 832 130 1 0 8, ze0 832 (.aload_n 2) 1 833, zcal 833 (.invokevirtual 107) 3 836 229 1 0 9, zex 836 (.if_icmp .eq 626) 3 839 1462 0 0,
  zev32 839 (.iconst 0) 1 840 0, ze0 840 .ireturn 1 841, ze0 841 (.aload_n 1) 1 842, zcal 842 (.invokevirtual 108) 3 845 131 1 0 8, ze0 845 (.aload_n 2) 1 846, zcal 846 (.invokevirtual 111) 3 849 230 1 0 9,
  zex 849 (.if_icmp .eq 613) 3 852 1462 0 0, zev32 852 (.iconst 0) 1 853 0, ze0 853 .ireturn 1 854, ze0 854 (.aload_n 1) 1 855, ze0 855 (.aload_n 0) 1 856, ze0 856 (.iload 4) 2 858,
  zev32 858 (.iconst 1) 1 859 1, ze0 859 .iadd 1 860, ze0 860 .iaload 1 861, zcal 861 (.invokevirtual 112) 3 864 133 2 0 8, ze0 864 (.aload_n 2) 1 865, ze0 865 (.aload_n 0) 1 866,
  ze0 866 (.iload 4) 2 868, zev32 868 (.iconst 1) 1 869 1, ze0 869 .iadd 1 870, ze0 870 .iaload 1 871, zcal 871 (.invokevirtual 115) 3 874 231 2 0 9, zex 874 (.if_icmp .eq 588) 3 877 1462 0 0,
  zev32 877 (.iconst 0) 1 878 0, ze0 878 .ireturn 1 879, ze0 879 (.aload_n 1) 1 880, ze0 880 (.aload_n 0) 1 881, ze0 881 (.iload 4) 2 883, zev32 883 (.iconst 1) 1 884 1,
  ze0 884 .iadd 1 885, ze0 885 .iaload 1 886, zcal 886 (.invokevirtual 116) 3 889 134 2 0 8, ze0 889 (.aload_n 2) 1 890, ze0 890 (.aload_n 0) 1 891, ze0 891 (.iload 4) 2 893,
  zev32 893 (.iconst 1) 1 894 1, ze0 894 .iadd 1 895, ze0 895 .iaload 1 896, zcal 896 (.invokevirtual 119) 3 899 236 2 0 9, zex 899 (.if_icmp .eq 563) 3 902 1462 0 0, zev32 902 (.iconst 0) 1 903 0]
def zt_291_8 : zT := [ze0 903 .ireturn 1 904, ze0 904 (.aload_n 1) 1 905, ze0 905 (.aload_n 0) 1 906, ze0 906 (.iload 4) 2 908, zev32 908 (.iconst 1) 1 909 1, ze0 909 .iadd 1 910,
  ze0 910 .iaload 1 911, zcal 911 (.invokevirtual 120) 3 914 135 2 0 8, ze0 914 (.aload_n 2) 1 915, ze0 915 (.aload_n 0) 1 916, ze0 916 (.iload 4) 2 918, zev32 918 (.iconst 1) 1 919 1,
  ze0 919 .iadd 1 920, ze0 920 .iaload 1 921, zcal 921 (.invokevirtual 123) 3 924 237 2 0 9, zex 924 (.if_icmp .eq 538) 3 927 1462 0 0, zev32 927 (.iconst 0) 1 928 0, ze0 928 .ireturn 1 929,
  ze0 929 (.aload_n 1) 1 930, ze0 930 (.aload_n 0) 1 931, ze0 931 (.iload 4) 2 933, zev32 933 (.iconst 1) 1 934 1, ze0 934 .iadd 1 935, ze0 935 .iaload 1 936,
  ze0 936 (.aload_n 0) 1 937, ze0 937 (.iload 4) 2 939, zev32 939 (.iconst 2) 1 940 2, ze0 940 .iadd 1 941, ze0 941 .iaload 1 942, zcal 942 (.invokevirtual 124) 3 945 136 3 0 8,
  ze0 945 (.aload_n 2) 1 946, ze0 946 (.aload_n 0) 1 947, ze0 947 (.iload 4) 2 949, zev32 949 (.iconst 1) 1 950 1, ze0 950 .iadd 1 951, ze0 951 .iaload 1 952,
  ze0 952 (.aload_n 0) 1 953, ze0 953 (.iload 4) 2 955, zev32 955 (.iconst 2) 1 956 2, ze0 956 .iadd 1 957, ze0 957 .iaload 1 958, zcal 958 (.invokevirtual 127) 3 961 238 3 0 9,
  zex 961 (.if_icmp .eq 501) 3 964 1462 0 0, zev32 964 (.iconst 0) 1 965 0, ze0 965 .ireturn 1 966, ze0 966 (.aload_n 1) 1 967, ze0 967 (.aload_n 0) 1 968, ze0 968 (.iload 4) 2 970,
  zev32 970 (.iconst 1) 1 971 1, ze0 971 .iadd 1 972, ze0 972 .iaload 1 973, ze0 973 (.aload_n 0) 1 974, ze0 974 (.iload 4) 2 976, zev32 976 (.iconst 2) 1 977 2,
  ze0 977 .iadd 1 978, ze0 978 .iaload 1 979, zcal 979 (.invokevirtual 128) 3 982 137 3 0 8, ze0 982 (.aload_n 2) 1 983, ze0 983 (.aload_n 0) 1 984, ze0 984 (.iload 4) 2 986]
def zt_291_9 : zT := [zev32 986 (.iconst 1) 1 987 1, ze0 987 .iadd 1 988, ze0 988 .iaload 1 989, ze0 989 (.aload_n 0) 1 990, ze0 990 (.iload 4) 2 992, zev32 992 (.iconst 2) 1 993 2,
  ze0 993 .iadd 1 994, ze0 994 .iaload 1 995, zcal 995 (.invokevirtual 131) 3 998 241 3 0 9, zex 998 (.if_icmp .eq 464) 3 1001 1462 0 0, zev32 1001 (.iconst 0) 1 1002 0, ze0 1002 .ireturn 1 1003,
  ze0 1003 (.aload_n 1) 1 1004, ze0 1004 (.aload_n 0) 1 1005, ze0 1005 (.iload 4) 2 1007, zev32 1007 (.iconst 1) 1 1008 1, ze0 1008 .iadd 1 1009, ze0 1009 .iaload 1 1010,
  zcal 1010 (.invokevirtual 132) 3 1013 138 2 0 8, ze0 1013 (.aload_n 2) 1 1014, ze0 1014 (.aload_n 0) 1 1015, ze0 1015 (.iload 4) 2 1017, zev32 1017 (.iconst 1) 1 1018 1, ze0 1018 .iadd 1 1019,
  ze0 1019 .iaload 1 1020, zcal 1020 (.invokevirtual 135) 3 1023 242 2 0 9, zex 1023 (.if_icmp .eq 439) 3 1026 1462 0 0, zev32 1026 (.iconst 0) 1 1027 0, ze0 1027 .ireturn 1 1028, ze0 1028 (.aload_n 1) 1 1029,
  zcal 1029 (.invokevirtual 136) 3 1032 140 1 0 8, ze0 1032 (.aload_n 2) 1 1033, zcal 1033 (.invokevirtual 139) 3 1036 243 1 0 9, zex 1036 (.if_icmp .eq 426) 3 1039 1462 0 0, zev32 1039 (.iconst 0) 1 1040 0, ze0 1040 .ireturn 1 1041,
  ze0 1041 (.aload_n 1) 1 1042, zcal 1042 (.invokevirtual 140) 3 1045 143 1 0 8, ze0 1045 (.aload_n 2) 1 1046, zcal 1046 (.invokevirtual 143) 3 1049 251 1 0 9, zex 1049 (.if_icmp .eq 413) 3 1052 1462 0 0, zev32 1052 (.iconst 0) 1 1053 0,
  ze0 1053 .ireturn 1 1054, ze0 1054 (.aload_n 1) 1 1055, zcal 1055 (.invokevirtual 144) 3 1058 144 1 0 8, ze0 1058 (.aload_n 2) 1 1059, zcal 1059 (.invokevirtual 147) 3 1062 255 1 0 9, zex 1062 (.if_icmp .eq 400) 3 1065 1462 0 0,
  zev32 1065 (.iconst 0) 1 1066 0, ze0 1066 .ireturn 1 1067, ze0 1067 (.aload_n 1) 1 1068, zcal 1068 (.invokevirtual 148) 3 1071 145 1 0 8, ze0 1071 (.aload_n 2) 1 1072, zcal 1072 (.invokevirtual 151) 3 1075 256 1 0 9,
  zex 1075 (.if_icmp .eq 387) 3 1078 1462 0 0, zev32 1078 (.iconst 0) 1 1079 0, ze0 1079 .ireturn 1 1080, ze0 1080 (.aload_n 1) 1 1081, zcal 1081 (.invokevirtual 152) 3 1084 146 1 0 8, ze0 1084 (.aload_n 2) 1 1085]
def zt_291_10 : zT := [zcal 1085 (.invokevirtual 155) 3 1088 260 1 0 9, zex 1088 (.if_icmp .eq 374) 3 1091 1462 0 0, zev32 1091 (.iconst 0) 1 1092 0, ze0 1092 .ireturn 1 1093, ze0 1093 (.aload_n 1) 1 1094, ze0 1094 (.aload_n 0) 1 1095,
  ze0 1095 (.iload 4) 2 1097, zev32 1097 (.iconst 1) 1 1098 1, ze0 1098 .iadd 1 1099, ze0 1099 .iaload 1 1100, zcal 1100 (.invokevirtual 156) 3 1103 148 2 0 8, ze0 1103 (.aload_n 2) 1 1104,
  ze0 1104 (.aload_n 0) 1 1105, ze0 1105 (.iload 4) 2 1107, zev32 1107 (.iconst 1) 1 1108 1, ze0 1108 .iadd 1 1109, ze0 1109 .iaload 1 1110, zcal 1110 (.invokevirtual 159) 3 1113 262 2 0 9,
  zex 1113 (.if_icmp .eq 349) 3 1116 1462 0 0, zev32 1116 (.iconst 0) 1 1117 0, ze0 1117 .ireturn 1 1118, ze0 1118 (.aload_n 1) 1 1119, zcal 1119 (.invokevirtual 160) 3 1122 150 1 0 8, ze0 1122 (.aload_n 2) 1 1123,
  zcal 1123 (.invokevirtual 163) 3 1126 265 1 0 9, zex 1126 (.if_icmp .eq 336) 3 1129 1462 0 0, zev32 1129 (.iconst 0) 1 1130 0, ze0 1130 .ireturn 1 1131, ze0 1131 (.aload_n 1) 1 1132, ze0 1132 (.aload_n 0) 1 1133,
  ze0 1133 (.iload 4) 2 1135, zev32 1135 (.iconst 1) 1 1136 1, ze0 1136 .iadd 1 1137, ze0 1137 .iaload 1 1138, ze0 1138 (.aload_n 0) 1 1139, ze0 1139 (.iload 4) 2 1141,
  zev32 1141 (.iconst 2) 1 1142 2, ze0 1142 .iadd 1 1143, ze0 1143 .iaload 1 1144, zcal 1144 (.invokevirtual 164) 3 1147 151 3 0 8, ze0 1147 (.aload_n 2) 1 1148, ze0 1148 (.aload_n 0) 1 1149,
  ze0 1149 (.iload 4) 2 1151, zev32 1151 (.iconst 1) 1 1152 1, ze0 1152 .iadd 1 1153, ze0 1153 .iaload 1 1154, ze0 1154 (.aload_n 0) 1 1155, ze0 1155 (.iload 4) 2 1157,
  zev32 1157 (.iconst 2) 1 1158 2, ze0 1158 .iadd 1 1159, ze0 1159 .iaload 1 1160, zcal 1160 (.invokevirtual 167) 3 1163 268 3 0 9, zex 1163 (.if_icmp .eq 299) 3 1166 1462 0 0, zev32 1166 (.iconst 0) 1 1167 0,
  ze0 1167 .ireturn 1 1168, ze0 1168 (.aload_n 1) 1 1169, ze0 1169 (.aload_n 0) 1 1170, ze0 1170 (.iload 4) 2 1172, zev32 1172 (.iconst 1) 1 1173 1, ze0 1173 .iadd 1 1174]
def zt_291_11 : zT := [ze0 1174 .iaload 1 1175, zcal 1175 (.invokevirtual 168) 3 1178 155 2 0 8, ze0 1178 (.aload_n 2) 1 1179, ze0 1179 (.aload_n 0) 1 1180, ze0 1180 (.iload 4) 2 1182, zev32 1182 (.iconst 1) 1 1183 1,
  ze0 1183 .iadd 1 1184, ze0 1184 .iaload 1 1185, zcal 1185 (.invokevirtual 171) 3 1188 272 2 0 9, zex 1188 (.if_icmp .eq 274) 3 1191 1462 0 0, zev32 1191 (.iconst 0) 1 1192 0, ze0 1192 .ireturn 1 1193,
  ze0 1193 (.aload_n 1) 1 1194, zcal 1194 (.invokevirtual 172) 3 1197 156 1 0 8, ze0 1197 (.aload_n 2) 1 1198, zcal 1198 (.invokevirtual 175) 3 1201 273 1 0 9, zex 1201 (.if_icmp .eq 261) 3 1204 1462 0 0, zev32 1204 (.iconst 0) 1 1205 0,
  ze0 1205 .ireturn 1 1206, ze0 1206 (.aload_n 1) 1 1207, ze0 1207 (.aload_n 0) 1 1208, ze0 1208 (.iload 4) 2 1210, zev32 1210 (.iconst 1) 1 1211 1, ze0 1211 .iadd 1 1212,
  ze0 1212 .iaload 1 1213, zcal 1213 (.invokevirtual 176) 3 1216 157 2 0 8, ze0 1216 (.aload_n 2) 1 1217, ze0 1217 (.aload_n 0) 1 1218, ze0 1218 (.iload 4) 2 1220, zev32 1220 (.iconst 1) 1 1221 1,
  ze0 1221 .iadd 1 1222, ze0 1222 .iaload 1 1223, zcal 1223 (.invokevirtual 179) 3 1226 274 2 0 9, zex 1226 (.if_icmp .eq 236) 3 1229 1462 0 0, zev32 1229 (.iconst 0) 1 1230 0, ze0 1230 .ireturn 1 1231,
  ze0 1231 (.aload_n 1) 1 1232, ze0 1232 (.aload_n 0) 1 1233, ze0 1233 (.iload 4) 2 1235, zev32 1235 (.iconst 1) 1 1236 1, ze0 1236 .iadd 1 1237, ze0 1237 .iaload 1 1238,
  ze0 1238 (.aload_n 0) 1 1239, ze0 1239 (.iload 4) 2 1241, zev32 1241 (.iconst 2) 1 1242 2, ze0 1242 .iadd 1 1243, ze0 1243 .iaload 1 1244, zcal 1244 (.invokevirtual 180) 3 1247 158 3 0 8,
  ze0 1247 (.aload_n 2) 1 1248, ze0 1248 (.aload_n 0) 1 1249, ze0 1249 (.iload 4) 2 1251, zev32 1251 (.iconst 1) 1 1252 1, ze0 1252 .iadd 1 1253, ze0 1253 .iaload 1 1254,
  ze0 1254 (.aload_n 0) 1 1255, ze0 1255 (.iload 4) 2 1257, zev32 1257 (.iconst 2) 1 1258 2, ze0 1258 .iadd 1 1259, ze0 1259 .iaload 1 1260, zcal 1260 (.invokevirtual 183) 3 1263 275 3 0 9]
def zt_291_12 : zT := [zex 1263 (.if_icmp .eq 199) 3 1266 1462 0 0, zev32 1266 (.iconst 0) 1 1267 0, ze0 1267 .ireturn 1 1268, ze0 1268 (.aload_n 1) 1 1269, ze0 1269 (.aload_n 0) 1 1270, ze0 1270 (.iload 4) 2 1272,
  zev32 1272 (.iconst 1) 1 1273 1, ze0 1273 .iadd 1 1274, ze0 1274 .iaload 1 1275, zcal 1275 (.invokevirtual 184) 3 1278 159 2 0 8, ze0 1278 (.aload_n 2) 1 1279, ze0 1279 (.aload_n 0) 1 1280,
  ze0 1280 (.iload 4) 2 1282, zev32 1282 (.iconst 1) 1 1283 1, ze0 1283 .iadd 1 1284, ze0 1284 .iaload 1 1285, zcal 1285 (.invokevirtual 187) 3 1288 276 2 0 9, zex 1288 (.if_icmp .eq 174) 3 1291 1462 0 0,
  zev32 1291 (.iconst 0) 1 1292 0, ze0 1292 .ireturn 1 1293, ze0 1293 (.aload_n 1) 1 1294, ze0 1294 (.aload_n 0) 1 1295, ze0 1295 (.iload 4) 2 1297, zev32 1297 (.iconst 1) 1 1298 1,
  ze0 1298 .iadd 1 1299, ze0 1299 .iaload 1 1300, zcal 1300 (.invokevirtual 188) 3 1303 160 2 0 8, ze0 1303 (.aload_n 2) 1 1304, ze0 1304 (.aload_n 0) 1 1305, ze0 1305 (.iload 4) 2 1307,
  zev32 1307 (.iconst 1) 1 1308 1, ze0 1308 .iadd 1 1309, ze0 1309 .iaload 1 1310, zcal 1310 (.invokevirtual 191) 3 1313 278 2 0 9, zex 1313 (.if_icmp .eq 149) 3 1316 1462 0 0, zev32 1316 (.iconst 0) 1 1317 0,
  ze0 1317 .ireturn 1 1318, ze0 1318 (.aload_n 1) 1 1319, zcal 1319 (.invokevirtual 192) 3 1322 162 1 0 8, ze0 1322 (.aload_n 2) 1 1323, zcal 1323 (.invokevirtual 195) 3 1326 280 1 0 9, zex 1326 (.if_icmp .eq 136) 3 1329 1462 0 0,
  zev32 1329 (.iconst 0) 1 1330 0, ze0 1330 .ireturn 1 1331, ze0 1331 (.aload_n 1) 1 1332, ze0 1332 (.aload_n 0) 1 1333, ze0 1333 (.iload 4) 2 1335, zev32 1335 (.iconst 1) 1 1336 1,
  ze0 1336 .iadd 1 1337, ze0 1337 .iaload 1 1338, zcal 1338 (.invokevirtual 196) 3 1341 164 2 0 8, ze0 1341 (.aload_n 2) 1 1342, ze0 1342 (.aload_n 0) 1 1343, ze0 1343 (.iload 4) 2 1345,
  zev32 1345 (.iconst 1) 1 1346 1, ze0 1346 .iadd 1 1347, ze0 1347 .iaload 1 1348, zcal 1348 (.invokevirtual 199) 3 1351 283 2 0 9, zex 1351 (.if_icmp .eq 111) 3 1354 1462 0 0, zev32 1354 (.iconst 0) 1 1355 0]
def zt_291_13 : zT := [ze0 1355 .ireturn 1 1356, ze0 1356 (.aload_n 1) 1 1357, ze0 1357 (.aload_n 0) 1 1358, ze0 1358 (.iload 4) 2 1360, zev32 1360 (.iconst 1) 1 1361 1, ze0 1361 .iadd 1 1362,
  ze0 1362 .iaload 1 1363, zcal 1363 (.invokevirtual 200) 3 1366 165 2 0 8, ze0 1366 (.aload_n 2) 1 1367, ze0 1367 (.aload_n 0) 1 1368, ze0 1368 (.iload 4) 2 1370, zev32 1370 (.iconst 1) 1 1371 1,
  ze0 1371 .iadd 1 1372, ze0 1372 .iaload 1 1373, zcal 1373 (.invokevirtual 203) 3 1376 284 2 0 9, zex 1376 (.if_icmp .eq 86) 3 1379 1462 0 0, zev32 1379 (.iconst 0) 1 1380 0, ze0 1380 .ireturn 1 1381,
  ze0 1381 (.aload_n 1) 1 1382, ze0 1382 (.aload_n 0) 1 1383, ze0 1383 (.iload 4) 2 1385, zev32 1385 (.iconst 1) 1 1386 1, ze0 1386 .iadd 1 1387, ze0 1387 .iaload 1 1388,
  zcal 1388 (.invokevirtual 204) 3 1391 166 2 0 8, ze0 1391 (.aload_n 2) 1 1392, ze0 1392 (.aload_n 0) 1 1393, ze0 1393 (.iload 4) 2 1395, zev32 1395 (.iconst 1) 1 1396 1, ze0 1396 .iadd 1 1397,
  ze0 1397 .iaload 1 1398, zcal 1398 (.invokevirtual 207) 3 1401 285 2 0 9, zex 1401 (.if_icmp .eq 61) 3 1404 1462 0 0, zev32 1404 (.iconst 0) 1 1405 0, ze0 1405 .ireturn 1 1406, ze0 1406 (.aload_n 1) 1 1407,
  ze0 1407 (.aload_n 0) 1 1408, ze0 1408 (.iload 4) 2 1410, zev32 1410 (.iconst 1) 1 1411 1, ze0 1411 .iadd 1 1412, ze0 1412 .iaload 1 1413, ze0 1413 (.aload_n 3) 1 1414,
  zcal 1414 (.invokestatic 208) 3 1417 0 3 7 0, ze0 1417 (.istore 5) 2 1419, ze0 1419 (.aload_n 2) 1 1420, ze0 1420 (.aload_n 0) 1 1421, ze0 1421 (.iload 4) 2 1423, zev32 1423 (.iconst 1) 1 1424 1,
  ze0 1424 .iadd 1 1425, ze0 1425 .iaload 1 1426, zcal 1426 (.invokevirtual 213) 3 1429 287 2 0 9, ze0 1429 (.istore 6) 2 1431, ze0 1431 (.aload_n 2) 1 1432, zcal 1432 (.invokevirtual 214) 3 1435 170 1 0 9,
  ze0 1435 (.iload 5) 2 1437, zex 1437 (.if_icmp .eq 5) 3 1440 1442 0 0, zev32 1440 (.iconst 0) 1 1441 0, ze0 1441 .ireturn 1 1442, ze0 1442 (.iload 5) 2 1444, zex 1444 (.ifCond .ne 15) 3 1447 1459 0 0]
def zt_291_14 : zT := [ze0 1447 (.aload_n 3) 1 1448, zev32 1448 (.iconst 0) 1 1449 0, ze0 1449 .laload 1 1450, ze0 1450 (.iload 6) 2 1452, ze0 1452 .i2l 1 1453, ze0 1453 .lcmp 1 1454,
  zex 1454 (.ifCond .eq 5) 3 1457 1459 0 0, zev32 1457 (.iconst 0) 1 1458 0, ze0 1458 .ireturn 1 1459, zex 1459 (.goto 3) 3 1462 1462 0 0, zev32 1462 (.iinc 4 5) 3 1465 5, zex 1465 (.goto (-1442)) 3 1468 23 0 0,
  zev32 1468 (.iconst 1) 1 1469 1, ze0 1469 .ireturn 1 1470]
def zt_291 : zT := zt_291_0 ++ (zt_291_1 ++ (zt_291_2 ++ (zt_291_3 ++ (zt_291_4 ++ (zt_291_5 ++ (zt_291_6 ++ (zt_291_7 ++ (zt_291_8 ++ (zt_291_9 ++ (zt_291_10 ++ (zt_291_11 ++ (zt_291_12 ++ (zt_291_13 ++ (zt_291_14))))))))))))))
def zm_291 : zMi := ((yL_law, cL_law, 7, (some .boolean)), (10, 1, 9), zt_291, [(7, [0]), (15, [0, 1]), (23, [0, 1, 2, 3, 4]), (298, [0, 1, 2, 3, 4]), (334, [0, 1, 2, 3, 4]), (1459, [0, 1, 2, 3, 4]), (1462, [0, 1, 2, 3, 4])])
def zMl_0 : List zMi := [zm_0, zm_1, zm_2, zm_3, zm_4, zm_5, zm_6, zm_7, zm_8, zm_9, zm_10, zm_11, zm_12, zm_13, zm_14, zm_15, zm_16, zm_17, zm_18, zm_19, zm_20, zm_21, zm_22, zm_23, zm_24, zm_25, zm_26, zm_27, zm_28, zm_29, zm_30, zm_31, zm_32, zm_33, zm_34, zm_35, zm_36, zm_37, zm_38, zm_39, zm_40, zm_41, zm_42, zm_43, zm_44, zm_45, zm_46, zm_47, zm_48, zm_49]
def zMl_1 : List zMi := [zm_50, zm_51, zm_52, zm_53, zm_54, zm_55, zm_56, zm_57, zm_58, zm_59, zm_60, zm_61, zm_62, zm_63, zm_64, zm_65, zm_66, zm_67, zm_68, zm_69, zm_70, zm_71, zm_72, zm_73, zm_74, zm_75, zm_76, zm_77, zm_78, zm_79, zm_80, zm_81, zm_82, zm_83, zm_84, zm_85, zm_86, zm_87, zm_88, zm_89, zm_90, zm_91, zm_92, zm_93, zm_94, zm_95, zm_96, zm_97, zm_98, zm_99]
def zMl_2 : List zMi := [zm_100, zm_101, zm_102, zm_103, zm_104, zm_105, zm_106, zm_107, zm_108, zm_109, zm_110, zm_111, zm_112, zm_113, zm_114, zm_115, zm_116, zm_117, zm_118, zm_119, zm_120, zm_121, zm_122, zm_123, zm_124, zm_125, zm_126, zm_127, zm_128, zm_129, zm_130, zm_131, zm_132, zm_133, zm_134, zm_135, zm_136, zm_137, zm_138, zm_139, zm_140, zm_141, zm_142, zm_143, zm_144, zm_145, zm_146, zm_147, zm_148, zm_149]
def zMl_3 : List zMi := [zm_150, zm_151, zm_152, zm_153, zm_154, zm_155, zm_156, zm_157, zm_158, zm_159, zm_160, zm_161, zm_162, zm_163, zm_164, zm_165, zm_166, zm_167, zm_168, zm_169, zm_170, zm_171, zm_172, zm_173, zm_174, zm_175, zm_176, zm_177, zm_178, zm_179, zm_180, zm_181, zm_182, zm_183, zm_184, zm_185, zm_186, zm_187, zm_188, zm_189, zm_190, zm_191, zm_192, zm_193, zm_194, zm_195, zm_196, zm_197, zm_198, zm_199]
def zMl_4 : List zMi := [zm_200, zm_201, zm_202, zm_203, zm_204, zm_205, zm_206, zm_207, zm_208, zm_209, zm_210, zm_211, zm_212, zm_213, zm_214, zm_215, zm_216, zm_217, zm_218, zm_219, zm_220, zm_221, zm_222, zm_223, zm_224, zm_225, zm_226, zm_227, zm_228, zm_229, zm_230, zm_231, zm_232, zm_233, zm_234, zm_235, zm_236, zm_237, zm_238, zm_239, zm_240, zm_241, zm_242, zm_243, zm_244, zm_245, zm_246, zm_247, zm_248, zm_249]
def zMl_5 : List zMi := [zm_250, zm_251, zm_252, zm_253, zm_254, zm_255, zm_256, zm_257, zm_258, zm_259, zm_260, zm_261, zm_262, zm_263, zm_264, zm_265, zm_266, zm_267, zm_268, zm_269, zm_270, zm_271, zm_272, zm_273, zm_274, zm_275, zm_276, zm_277, zm_278, zm_279, zm_280, zm_281, zm_282, zm_283, zm_284, zm_285, zm_286, zm_287, zm_288, zm_289, zm_290, zm_291]
def zMl : List zMi := zMl_0 ++ (zMl_1 ++ (zMl_2 ++ (zMl_3 ++ (zMl_4 ++ (zMl_5)))))
def zM (k : Nat) : Option zMi := zMl[k]?
