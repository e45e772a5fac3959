/-! The constructors, by segments. -/
set_option maxRecDepth 100000 in
theorem ct_104_r (a : zA) (b : zB) : zr zM zprm 26 31 (0, [.ref 138], [], zs_112, a, b) = some (none, zs_112, a, b, 0, 0, 0) := (zr_run (mi := zm_26) rfl 400 _).trans rfl
set_option maxRecDepth 100000 in
theorem ct_104 (a : zA) (b : zB) (h : ∀ q j, 138 ≤ q → a q j = 0) (hb : ∀ q j, 138 ≤ q → b q j = 0) : zent zM (zr zM zprm) 26 31 [.ref 138] zs_112 a b = some (none, zs_112, a, b, 0, 0, 0) := (zent_eq (M := zM) (mi := zm_26) rfl rfl).trans (ct_104_r a b)
set_option maxRecDepth 100000 in
theorem ct_105_r (a : zA) (b : zB) : zr zM zprm 26 31 (0, [.ref 139], [], zs_113, a, b) = some (none, zs_113, a, b, 0, 0, 0) := (zr_run (mi := zm_26) rfl 400 _).trans rfl
set_option maxRecDepth 100000 in
theorem ct_105 (a : zA) (b : zB) (h : ∀ q j, 139 ≤ q → a q j = 0) (hb : ∀ q j, 139 ≤ q → b q j = 0) : zent zM (zr zM zprm) 26 31 [.ref 139] zs_113 a b = some (none, zs_113, a, b, 0, 0, 0) := (zent_eq (M := zM) (mi := zm_26) rfl rfl).trans (ct_105_r a b)
set_option maxRecDepth 100000 in
theorem ct_106_r (a : zA) (b : zB) : zr zM zprm 26 31 (0, [.ref 140], [], zs_114, a, b) = some (none, zs_114, a, b, 0, 0, 0) := (zr_run (mi := zm_26) rfl 400 _).trans rfl
set_option maxRecDepth 100000 in
theorem ct_106 (a : zA) (b : zB) (h : ∀ q j, 140 ≤ q → a q j = 0) (hb : ∀ q j, 140 ≤ q → b q j = 0) : zent zM (zr zM zprm) 26 31 [.ref 140] zs_114 a b = some (none, zs_114, a, b, 0, 0, 0) := (zent_eq (M := zM) (mi := zm_26) rfl rfl).trans (ct_106_r a b)
set_option maxRecDepth 100000 in
theorem ct_107_r (a : zA) (b : zB) : zr zM zprm 26 31 (0, [.ref 141], [], zs_115, a, b) = some (none, zs_115, a, b, 0, 0, 0) := (zr_run (mi := zm_26) rfl 400 _).trans rfl
set_option maxRecDepth 100000 in
theorem ct_107 (a : zA) (b : zB) (h : ∀ q j, 141 ≤ q → a q j = 0) (hb : ∀ q j, 141 ≤ q → b q j = 0) : zent zM (zr zM zprm) 26 31 [.ref 141] zs_115 a b = some (none, zs_115, a, b, 0, 0, 0) := (zent_eq (M := zM) (mi := zm_26) rfl rfl).trans (ct_107_r a b)
set_option maxRecDepth 100000 in
theorem ct_108_r (a : zA) (b : zB) : zr zM zprm 26 31 (0, [.ref 142], [], zs_116, a, b) = some (none, zs_116, a, b, 0, 0, 0) := (zr_run (mi := zm_26) rfl 400 _).trans rfl
set_option maxRecDepth 100000 in
theorem ct_108 (a : zA) (b : zB) (h : ∀ q j, 142 ≤ q → a q j = 0) (hb : ∀ q j, 142 ≤ q → b q j = 0) : zent zM (zr zM zprm) 26 31 [.ref 142] zs_116 a b = some (none, zs_116, a, b, 0, 0, 0) := (zent_eq (M := zM) (mi := zm_26) rfl rfl).trans (ct_108_r a b)
set_option maxRecDepth 100000 in
theorem ct_109_r (a : zA) (b : zB) : zr zM zprm 26 31 (0, [.ref 143], [], zs_117, a, b) = some (none, zs_117, a, b, 0, 0, 0) := (zr_run (mi := zm_26) rfl 400 _).trans rfl
set_option maxRecDepth 100000 in
theorem ct_109 (a : zA) (b : zB) (h : ∀ q j, 143 ≤ q → a q j = 0) (hb : ∀ q j, 143 ≤ q → b q j = 0) : zent zM (zr zM zprm) 26 31 [.ref 143] zs_117 a b = some (none, zs_117, a, b, 0, 0, 0) := (zent_eq (M := zM) (mi := zm_26) rfl rfl).trans (ct_109_r a b)
set_option maxRecDepth 100000 in
theorem ct_110_r (a : zA) (b : zB) : zr zM zprm 26 31 (0, [.ref 144], [], zs_118, a, b) = some (none, zs_118, a, b, 0, 0, 0) := (zr_run (mi := zm_26) rfl 400 _).trans rfl
set_option maxRecDepth 100000 in
theorem ct_110 (a : zA) (b : zB) (h : ∀ q j, 144 ≤ q → a q j = 0) (hb : ∀ q j, 144 ≤ q → b q j = 0) : zent zM (zr zM zprm) 26 31 [.ref 144] zs_118 a b = some (none, zs_118, a, b, 0, 0, 0) := (zent_eq (M := zM) (mi := zm_26) rfl rfl).trans (ct_110_r a b)
set_option maxRecDepth 100000 in
theorem ct_111_r (a : zA) (b : zB) : zr zM zprm 26 31 (0, [.ref 145], [], zs_119, a, b) = some (none, zs_119, a, b, 0, 0, 0) := (zr_run (mi := zm_26) rfl 400 _).trans rfl
set_option maxRecDepth 100000 in
theorem ct_111 (a : zA) (b : zB) (h : ∀ q j, 145 ≤ q → a q j = 0) (hb : ∀ q j, 145 ≤ q → b q j = 0) : zent zM (zr zM zprm) 26 31 [.ref 145] zs_119 a b = some (none, zs_119, a, b, 0, 0, 0) := (zent_eq (M := zM) (mi := zm_26) rfl rfl).trans (ct_111_r a b)
set_option maxRecDepth 100000 in
theorem ct_112_r (a : zA) (b : zB) : zr zM zprm 26 31 (0, [.ref 146], [], zs_120, a, b) = some (none, zs_120, a, b, 0, 0, 0) := (zr_run (mi := zm_26) rfl 400 _).trans rfl
set_option maxRecDepth 100000 in
theorem ct_112 (a : zA) (b : zB) (h : ∀ q j, 146 ≤ q → a q j = 0) (hb : ∀ q j, 146 ≤ q → b q j = 0) : zent zM (zr zM zprm) 26 31 [.ref 146] zs_120 a b = some (none, zs_120, a, b, 0, 0, 0) := (zent_eq (M := zM) (mi := zm_26) rfl rfl).trans (ct_112_r a b)
set_option maxRecDepth 100000 in
theorem ct_113_r (a : zA) (b : zB) : zr zM zprm 26 31 (0, [.ref 147], [], zs_121, a, b) = some (none, zs_121, a, b, 0, 0, 0) := (zr_run (mi := zm_26) rfl 400 _).trans rfl
set_option maxRecDepth 100000 in
theorem ct_113 (a : zA) (b : zB) (h : ∀ q j, 147 ≤ q → a q j = 0) (hb : ∀ q j, 147 ≤ q → b q j = 0) : zent zM (zr zM zprm) 26 31 [.ref 147] zs_121 a b = some (none, zs_121, a, b, 0, 0, 0) := (zent_eq (M := zM) (mi := zm_26) rfl rfl).trans (ct_113_r a b)
set_option maxRecDepth 100000 in
theorem ct_114_r (a : zA) (b : zB) : zr zM zprm 26 31 (0, [.ref 148], [], zs_122, a, b) = some (none, zs_122, a, b, 0, 0, 0) := (zr_run (mi := zm_26) rfl 400 _).trans rfl
set_option maxRecDepth 100000 in
theorem ct_114 (a : zA) (b : zB) (h : ∀ q j, 148 ≤ q → a q j = 0) (hb : ∀ q j, 148 ≤ q → b q j = 0) : zent zM (zr zM zprm) 26 31 [.ref 148] zs_122 a b = some (none, zs_122, a, b, 0, 0, 0) := (zent_eq (M := zM) (mi := zm_26) rfl rfl).trans (ct_114_r a b)
set_option maxRecDepth 100000 in
theorem ct_115_r (a : zA) (b : zB) : zr zM zprm 26 31 (0, [.ref 149], [], zs_123, a, b) = some (none, zs_123, a, b, 0, 0, 0) := (zr_run (mi := zm_26) rfl 400 _).trans rfl
set_option maxRecDepth 100000 in
theorem ct_115 (a : zA) (b : zB) (h : ∀ q j, 149 ≤ q → a q j = 0) (hb : ∀ q j, 149 ≤ q → b q j = 0) : zent zM (zr zM zprm) 26 31 [.ref 149] zs_123 a b = some (none, zs_123, a, b, 0, 0, 0) := (zent_eq (M := zM) (mi := zm_26) rfl rfl).trans (ct_115_r a b)
set_option maxRecDepth 100000 in
theorem ct_116_r (a : zA) (b : zB) : zr zM zprm 26 31 (0, [.ref 150], [], zs_124, a, b) = some (none, zs_124, a, b, 0, 0, 0) := (zr_run (mi := zm_26) rfl 400 _).trans rfl
set_option maxRecDepth 100000 in
theorem ct_116 (a : zA) (b : zB) (h : ∀ q j, 150 ≤ q → a q j = 0) (hb : ∀ q j, 150 ≤ q → b q j = 0) : zent zM (zr zM zprm) 26 31 [.ref 150] zs_124 a b = some (none, zs_124, a, b, 0, 0, 0) := (zent_eq (M := zM) (mi := zm_26) rfl rfl).trans (ct_116_r a b)
set_option maxRecDepth 100000 in
theorem ct_117_r (a : zA) (b : zB) : zr zM zprm 26 31 (0, [.ref 151], [], zs_125, a, b) = some (none, zs_125, a, b, 0, 0, 0) := (zr_run (mi := zm_26) rfl 400 _).trans rfl
set_option maxRecDepth 100000 in
theorem ct_117 (a : zA) (b : zB) (h : ∀ q j, 151 ≤ q → a q j = 0) (hb : ∀ q j, 151 ≤ q → b q j = 0) : zent zM (zr zM zprm) 26 31 [.ref 151] zs_125 a b = some (none, zs_125, a, b, 0, 0, 0) := (zent_eq (M := zM) (mi := zm_26) rfl rfl).trans (ct_117_r a b)
set_option maxRecDepth 100000 in
theorem ct_118_r (a : zA) (b : zB) : zr zM zprm 26 31 (0, [.ref 152], [], zs_126, a, b) = some (none, zs_126, a, b, 0, 0, 0) := (zr_run (mi := zm_26) rfl 400 _).trans rfl
set_option maxRecDepth 100000 in
theorem ct_118 (a : zA) (b : zB) (h : ∀ q j, 152 ≤ q → a q j = 0) (hb : ∀ q j, 152 ≤ q → b q j = 0) : zent zM (zr zM zprm) 26 31 [.ref 152] zs_126 a b = some (none, zs_126, a, b, 0, 0, 0) := (zent_eq (M := zM) (mi := zm_26) rfl rfl).trans (ct_118_r a b)
set_option maxRecDepth 100000 in
theorem ct_119_r (a : zA) (b : zB) : zr zM zprm 26 31 (0, [.ref 153], [], zs_127, a, b) = some (none, zs_127, a, b, 0, 0, 0) := (zr_run (mi := zm_26) rfl 400 _).trans rfl
set_option maxRecDepth 100000 in
theorem ct_119 (a : zA) (b : zB) (h : ∀ q j, 153 ≤ q → a q j = 0) (hb : ∀ q j, 153 ≤ q → b q j = 0) : zent zM (zr zM zprm) 26 31 [.ref 153] zs_127 a b = some (none, zs_127, a, b, 0, 0, 0) := (zent_eq (M := zM) (mi := zm_26) rfl rfl).trans (ct_119_r a b)
set_option maxRecDepth 100000 in
theorem ct_120_r (a : zA) (b : zB) : zr zM zprm 26 31 (0, [.ref 154], [], zs_128, a, b) = some (none, zs_128, a, b, 0, 0, 0) := (zr_run (mi := zm_26) rfl 400 _).trans rfl
set_option maxRecDepth 100000 in
theorem ct_120 (a : zA) (b : zB) (h : ∀ q j, 154 ≤ q → a q j = 0) (hb : ∀ q j, 154 ≤ q → b q j = 0) : zent zM (zr zM zprm) 26 31 [.ref 154] zs_128 a b = some (none, zs_128, a, b, 0, 0, 0) := (zent_eq (M := zM) (mi := zm_26) rfl rfl).trans (ct_120_r a b)
set_option maxRecDepth 100000 in
theorem ct_121_r (a : zA) (b : zB) : zr zM zprm 26 31 (0, [.ref 155], [], zs_129, a, b) = some (none, zs_129, a, b, 0, 0, 0) := (zr_run (mi := zm_26) rfl 400 _).trans rfl
set_option maxRecDepth 100000 in
theorem ct_121 (a : zA) (b : zB) (h : ∀ q j, 155 ≤ q → a q j = 0) (hb : ∀ q j, 155 ≤ q → b q j = 0) : zent zM (zr zM zprm) 26 31 [.ref 155] zs_129 a b = some (none, zs_129, a, b, 0, 0, 0) := (zent_eq (M := zM) (mi := zm_26) rfl rfl).trans (ct_121_r a b)
set_option maxRecDepth 100000 in
theorem ct_122_r (a : zA) (b : zB) : zr zM zprm 26 31 (0, [.ref 156], [], zs_130, a, b) = some (none, zs_130, a, b, 0, 0, 0) := (zr_run (mi := zm_26) rfl 400 _).trans rfl
set_option maxRecDepth 100000 in
theorem ct_122 (a : zA) (b : zB) (h : ∀ q j, 156 ≤ q → a q j = 0) (hb : ∀ q j, 156 ≤ q → b q j = 0) : zent zM (zr zM zprm) 26 31 [.ref 156] zs_130 a b = some (none, zs_130, a, b, 0, 0, 0) := (zent_eq (M := zM) (mi := zm_26) rfl rfl).trans (ct_122_r a b)
set_option maxRecDepth 100000 in
theorem ct_123_r (a : zA) (b : zB) : zr zM zprm 26 31 (0, [.ref 157], [], zs_131, a, b) = some (none, zs_131, a, b, 0, 0, 0) := (zr_run (mi := zm_26) rfl 400 _).trans rfl
set_option maxRecDepth 100000 in
theorem ct_123 (a : zA) (b : zB) (h : ∀ q j, 157 ≤ q → a q j = 0) (hb : ∀ q j, 157 ≤ q → b q j = 0) : zent zM (zr zM zprm) 26 31 [.ref 157] zs_131 a b = some (none, zs_131, a, b, 0, 0, 0) := (zent_eq (M := zM) (mi := zm_26) rfl rfl).trans (ct_123_r a b)
set_option maxRecDepth 100000 in
theorem ct_124_r (a : zA) (b : zB) : zr zM zprm 26 31 (0, [.ref 158], [], zs_132, a, b) = some (none, zs_132, a, b, 0, 0, 0) := (zr_run (mi := zm_26) rfl 400 _).trans rfl
set_option maxRecDepth 100000 in
theorem ct_124 (a : zA) (b : zB) (h : ∀ q j, 158 ≤ q → a q j = 0) (hb : ∀ q j, 158 ≤ q → b q j = 0) : zent zM (zr zM zprm) 26 31 [.ref 158] zs_132 a b = some (none, zs_132, a, b, 0, 0, 0) := (zent_eq (M := zM) (mi := zm_26) rfl rfl).trans (ct_124_r a b)
set_option maxRecDepth 100000 in
theorem ct_125_r (a : zA) (b : zB) : zr zM zprm 26 31 (0, [.ref 159], [], zs_133, a, b) = some (none, zs_133, a, b, 0, 0, 0) := (zr_run (mi := zm_26) rfl 400 _).trans rfl
set_option maxRecDepth 100000 in
theorem ct_125 (a : zA) (b : zB) (h : ∀ q j, 159 ≤ q → a q j = 0) (hb : ∀ q j, 159 ≤ q → b q j = 0) : zent zM (zr zM zprm) 26 31 [.ref 159] zs_133 a b = some (none, zs_133, a, b, 0, 0, 0) := (zent_eq (M := zM) (mi := zm_26) rfl rfl).trans (ct_125_r a b)
set_option maxRecDepth 100000 in
theorem ct_126_r (a : zA) (b : zB) : zr zM zprm 26 31 (0, [.ref 160], [], zs_134, a, b) = some (none, zs_134, a, b, 0, 0, 0) := (zr_run (mi := zm_26) rfl 400 _).trans rfl
set_option maxRecDepth 100000 in
theorem ct_126 (a : zA) (b : zB) (h : ∀ q j, 160 ≤ q → a q j = 0) (hb : ∀ q j, 160 ≤ q → b q j = 0) : zent zM (zr zM zprm) 26 31 [.ref 160] zs_134 a b = some (none, zs_134, a, b, 0, 0, 0) := (zent_eq (M := zM) (mi := zm_26) rfl rfl).trans (ct_126_r a b)
set_option maxRecDepth 100000 in
theorem ct_127_r (a : zA) (b : zB) : zr zM zprm 26 31 (0, [.ref 161], [], zs_135, a, b) = some (none, zs_135, a, b, 0, 0, 0) := (zr_run (mi := zm_26) rfl 400 _).trans rfl
set_option maxRecDepth 100000 in
theorem ct_127 (a : zA) (b : zB) (h : ∀ q j, 161 ≤ q → a q j = 0) (hb : ∀ q j, 161 ≤ q → b q j = 0) : zent zM (zr zM zprm) 26 31 [.ref 161] zs_135 a b = some (none, zs_135, a, b, 0, 0, 0) := (zent_eq (M := zM) (mi := zm_26) rfl rfl).trans (ct_127_r a b)
set_option maxRecDepth 100000 in
theorem ct_128_r (a : zA) (b : zB) : zr zM zprm 26 31 (0, [.ref 162], [], zs_136, a, b) = some (none, zs_136, a, b, 0, 0, 0) := (zr_run (mi := zm_26) rfl 400 _).trans rfl
set_option maxRecDepth 100000 in
theorem ct_128 (a : zA) (b : zB) (h : ∀ q j, 162 ≤ q → a q j = 0) (hb : ∀ q j, 162 ≤ q → b q j = 0) : zent zM (zr zM zprm) 26 31 [.ref 162] zs_136 a b = some (none, zs_136, a, b, 0, 0, 0) := (zent_eq (M := zM) (mi := zm_26) rfl rfl).trans (ct_128_r a b)
set_option maxRecDepth 100000 in
theorem ct_129_r (a : zA) (b : zB) : zr zM zprm 26 31 (0, [.ref 163], [], zs_137, a, b) = some (none, zs_137, a, b, 0, 0, 0) := (zr_run (mi := zm_26) rfl 400 _).trans rfl
set_option maxRecDepth 100000 in
theorem ct_129 (a : zA) (b : zB) (h : ∀ q j, 163 ≤ q → a q j = 0) (hb : ∀ q j, 163 ≤ q → b q j = 0) : zent zM (zr zM zprm) 26 31 [.ref 163] zs_137 a b = some (none, zs_137, a, b, 0, 0, 0) := (zent_eq (M := zM) (mi := zm_26) rfl rfl).trans (ct_129_r a b)
set_option maxRecDepth 100000 in
theorem ct_130_r (a : zA) (b : zB) : zr zM zprm 26 31 (0, [.ref 164], [], zs_138, a, b) = some (none, zs_138, a, b, 0, 0, 0) := (zr_run (mi := zm_26) rfl 400 _).trans rfl
set_option maxRecDepth 100000 in
theorem ct_130 (a : zA) (b : zB) (h : ∀ q j, 164 ≤ q → a q j = 0) (hb : ∀ q j, 164 ≤ q → b q j = 0) : zent zM (zr zM zprm) 26 31 [.ref 164] zs_138 a b = some (none, zs_138, a, b, 0, 0, 0) := (zent_eq (M := zM) (mi := zm_26) rfl rfl).trans (ct_130_r a b)
set_option maxRecDepth 100000 in
theorem ct_131_r (a : zA) (b : zB) : zr zM zprm 26 31 (0, [.ref 165], [], zs_139, a, b) = some (none, zs_139, a, b, 0, 0, 0) := (zr_run (mi := zm_26) rfl 400 _).trans rfl
set_option maxRecDepth 100000 in
theorem ct_131 (a : zA) (b : zB) (h : ∀ q j, 165 ≤ q → a q j = 0) (hb : ∀ q j, 165 ≤ q → b q j = 0) : zent zM (zr zM zprm) 26 31 [.ref 165] zs_139 a b = some (none, zs_139, a, b, 0, 0, 0) := (zent_eq (M := zM) (mi := zm_26) rfl rfl).trans (ct_131_r a b)
set_option maxRecDepth 100000 in
theorem ct_132_r (a : zA) (b : zB) : zr zM zprm 26 31 (0, [.ref 166], [], zs_140, a, b) = some (none, zs_140, a, b, 0, 0, 0) := (zr_run (mi := zm_26) rfl 400 _).trans rfl
set_option maxRecDepth 100000 in
theorem ct_132 (a : zA) (b : zB) (h : ∀ q j, 166 ≤ q → a q j = 0) (hb : ∀ q j, 166 ≤ q → b q j = 0) : zent zM (zr zM zprm) 26 31 [.ref 166] zs_140 a b = some (none, zs_140, a, b, 0, 0, 0) := (zent_eq (M := zM) (mi := zm_26) rfl rfl).trans (ct_132_r a b)
set_option maxRecDepth 100000 in
theorem ct_133_r (a : zA) (b : zB) : zr zM zprm 26 31 (0, [.ref 167], [], zs_141, a, b) = some (none, zs_141, a, b, 0, 0, 0) := (zr_run (mi := zm_26) rfl 400 _).trans rfl
set_option maxRecDepth 100000 in
theorem ct_133 (a : zA) (b : zB) (h : ∀ q j, 167 ≤ q → a q j = 0) (hb : ∀ q j, 167 ≤ q → b q j = 0) : zent zM (zr zM zprm) 26 31 [.ref 167] zs_141 a b = some (none, zs_141, a, b, 0, 0, 0) := (zent_eq (M := zM) (mi := zm_26) rfl rfl).trans (ct_133_r a b)
set_option maxRecDepth 100000 in
theorem ct_134_r (a : zA) (b : zB) : zr zM zprm 26 31 (0, [.ref 168], [], zs_142, a, b) = some (none, zs_142, a, b, 0, 0, 0) := (zr_run (mi := zm_26) rfl 400 _).trans rfl
set_option maxRecDepth 100000 in
theorem ct_134 (a : zA) (b : zB) (h : ∀ q j, 168 ≤ q → a q j = 0) (hb : ∀ q j, 168 ≤ q → b q j = 0) : zent zM (zr zM zprm) 26 31 [.ref 168] zs_142 a b = some (none, zs_142, a, b, 0, 0, 0) := (zent_eq (M := zM) (mi := zm_26) rfl rfl).trans (ct_134_r a b)
set_option maxRecDepth 100000 in
theorem ct_135_r (a : zA) (b : zB) : zr zM zprm 26 31 (0, [.ref 169], [], zs_143, a, b) = some (none, zs_143, a, b, 0, 0, 0) := (zr_run (mi := zm_26) rfl 400 _).trans rfl
set_option maxRecDepth 100000 in
theorem ct_135 (a : zA) (b : zB) (h : ∀ q j, 169 ≤ q → a q j = 0) (hb : ∀ q j, 169 ≤ q → b q j = 0) : zent zM (zr zM zprm) 26 31 [.ref 169] zs_143 a b = some (none, zs_143, a, b, 0, 0, 0) := (zent_eq (M := zM) (mi := zm_26) rfl rfl).trans (ct_135_r a b)
set_option maxRecDepth 100000 in
theorem ct_136_r (a : zA) (b : zB) : zr zM zprm 26 31 (0, [.ref 170], [], zs_144, a, b) = some (none, zs_144, a, b, 0, 0, 0) := (zr_run (mi := zm_26) rfl 400 _).trans rfl
set_option maxRecDepth 100000 in
theorem ct_136 (a : zA) (b : zB) (h : ∀ q j, 170 ≤ q → a q j = 0) (hb : ∀ q j, 170 ≤ q → b q j = 0) : zent zM (zr zM zprm) 26 31 [.ref 170] zs_144 a b = some (none, zs_144, a, b, 0, 0, 0) := (zent_eq (M := zM) (mi := zm_26) rfl rfl).trans (ct_136_r a b)
set_option maxRecDepth 100000 in
theorem ct_9_s252 (a : zA) (b : zB) : zr zM zprm 37 31 (167, [.ref 35, .retAddr 0, .retAddr 0, .retAddr 0, .retAddr 0, .int 3], [], zs_17, a, b) = zRET none zs_17 a b := (zr_run (mi := zm_37) rfl 400 _).trans rfl
set_option maxRecDepth 100000 in
theorem ct_9_g252 (a : zA) (b : zB) (h : ∀ q j, 171 ≤ q → a q j = 0) (hb : ∀ q j, 171 ≤ q → b q j = 0) : zr zM zprm 37 31 (167, [.ref 35, .retAddr 0, .retAddr 0, .retAddr 0, .retAddr 0, .int 3], [], zs_17, a, b) = some (none, zs_17, a, b, 0, 0, 0) := by
  refine (ct_9_s252 a b).trans ?_
  all_goals rfl
set_option maxRecDepth 100000 in
theorem ct_9_s251 (a : zA) (b : zB) : zr zM zprm 37 31 (186, [.ref 35, .retAddr 0, .retAddr 0, .retAddr 0, .retAddr 0, .int 2], [.ref 170, .int 2, .ref 45], zs_144, a, b) = zr zM zprm 37 31 (167, [.ref 35, .retAddr 0, .retAddr 0, .retAddr 0, .retAddr 0, .int 3], [], zs_17, a, b) := (zr_run (mi := zm_37) rfl 400 _).trans rfl
set_option maxRecDepth 100000 in
theorem ct_9_g251 (a : zA) (b : zB) (h : ∀ q j, 171 ≤ q → a q j = 0) (hb : ∀ q j, 171 ≤ q → b q j = 0) : zr zM zprm 37 31 (186, [.ref 35, .retAddr 0, .retAddr 0, .retAddr 0, .retAddr 0, .int 2], [.ref 170, .int 2, .ref 45], zs_144, a, b) = some (none, zs_17, a, b, 0, 0, 0) := by
  refine (ct_9_s251 a b).trans ?_
  rw [ct_9_g252 a b (fun q j hq => h q j (by omega)) (fun q j hq => hb q j (by omega))]
  all_goals rfl
set_option maxRecDepth 100000 in
theorem ct_9_s250 (a : zA) (b : zB) : zr zM zprm 37 31 (167, [.ref 35, .retAddr 0, .retAddr 0, .retAddr 0, .retAddr 0, .int 2], [], zs_145, a, b) = zCNT 2 (zCA zM (zr zM zprm) 26 [.ref 170] zs_144 (zzA a 170) (zzB b 170) (fun sh a b => zr zM zprm 37 31 (186, [.ref 35, .retAddr 0, .retAddr 0, .retAddr 0, .retAddr 0, .int 2], [.ref 170, .int 2, .ref 45], sh, a, b))) := (zr_run (mi := zm_37) rfl 400 _).trans rfl
set_option maxRecDepth 100000 in
theorem ct_9_g250 (a : zA) (b : zB) (h : ∀ q j, 170 ≤ q → a q j = 0) (hb : ∀ q j, 170 ≤ q → b q j = 0) : zr zM zprm 37 31 (167, [.ref 35, .retAddr 0, .retAddr 0, .retAddr 0, .retAddr 0, .int 2], [], zs_145, a, b) = some (none, zs_17, a, b, 1, 0, 2) := by
  refine (ct_9_s250 a b).trans ?_
  rw [zzA_z h 170 (by decide), zzB_z hb 170 (by decide)]
  have h1 : ∀ q j, 170 ≤ q → a q j = 0 := fun q j hq => h q j (by omega)
  have hb1 : ∀ q j, 170 ≤ q → b q j = 0 := fun q j hq => hb q j (by omega)
  rw [zCA_ok (ct_136 a b h1 hb1) rfl, ct_9_g251 _ b (fun q j hq => h q j (by omega)) (fun q j hq => hb q j (by omega))]
  all_goals rfl
set_option maxRecDepth 100000 in
theorem ct_9_s249 (a : zA) (b : zB) : zr zM zprm 37 31 (186, [.ref 35, .retAddr 0, .retAddr 0, .retAddr 0, .retAddr 0, .int 1], [.ref 169, .int 1, .ref 45], zs_143, a, b) = zr zM zprm 37 31 (167, [.ref 35, .retAddr 0, .retAddr 0, .retAddr 0, .retAddr 0, .int 2], [], zs_145, a, b) := (zr_run (mi := zm_37) rfl 400 _).trans rfl
set_option maxRecDepth 100000 in
theorem ct_9_g249 (a : zA) (b : zB) (h : ∀ q j, 170 ≤ q → a q j = 0) (hb : ∀ q j, 170 ≤ q → b q j = 0) : zr zM zprm 37 31 (186, [.ref 35, .retAddr 0, .retAddr 0, .retAddr 0, .retAddr 0, .int 1], [.ref 169, .int 1, .ref 45], zs_143, a, b) = some (none, zs_17, a, b, 1, 0, 2) := by
  refine (ct_9_s249 a b).trans ?_
  rw [ct_9_g250 a b (fun q j hq => h q j (by omega)) (fun q j hq => hb q j (by omega))]
  all_goals rfl
set_option maxRecDepth 100000 in
theorem ct_9_s248 (a : zA) (b : zB) : zr zM zprm 37 31 (167, [.ref 35, .retAddr 0, .retAddr 0, .retAddr 0, .retAddr 0, .int 1], [], zs_146, a, b) = zCNT 2 (zCA zM (zr zM zprm) 26 [.ref 169] zs_143 (zzA a 169) (zzB b 169) (fun sh a b => zr zM zprm 37 31 (186, [.ref 35, .retAddr 0, .retAddr 0, .retAddr 0, .retAddr 0, .int 1], [.ref 169, .int 1, .ref 45], sh, a, b))) := (zr_run (mi := zm_37) rfl 400 _).trans rfl
set_option maxRecDepth 100000 in
theorem ct_9_g248 (a : zA) (b : zB) (h : ∀ q j, 169 ≤ q → a q j = 0) (hb : ∀ q j, 169 ≤ q → b q j = 0) : zr zM zprm 37 31 (167, [.ref 35, .retAddr 0, .retAddr 0, .retAddr 0, .retAddr 0, .int 1], [], zs_146, a, b) = some (none, zs_17, a, b, 2, 0, 4) := by
  refine (ct_9_s248 a b).trans ?_
  rw [zzA_z h 169 (by decide), zzB_z hb 169 (by decide)]
  have h1 : ∀ q j, 169 ≤ q → a q j = 0 := fun q j hq => h q j (by omega)
  have hb1 : ∀ q j, 169 ≤ q → b q j = 0 := fun q j hq => hb q j (by omega)
  rw [zCA_ok (ct_135 a b h1 hb1) rfl, ct_9_g249 _ b (fun q j hq => h q j (by omega)) (fun q j hq => hb q j (by omega))]
  all_goals rfl
set_option maxRecDepth 100000 in
theorem ct_9_s247 (a : zA) (b : zB) : zr zM zprm 37 31 (186, [.ref 35, .retAddr 0, .retAddr 0, .retAddr 0, .retAddr 0, .int 0], [.ref 168, .int 0, .ref 45], zs_142, a, b) = zr zM zprm 37 31 (167, [.ref 35, .retAddr 0, .retAddr 0, .retAddr 0, .retAddr 0, .int 1], [], zs_146, a, b) := (zr_run (mi := zm_37) rfl 400 _).trans rfl
set_option maxRecDepth 100000 in
theorem ct_9_g247 (a : zA) (b : zB) (h : ∀ q j, 169 ≤ q → a q j = 0) (hb : ∀ q j, 169 ≤ q → b q j = 0) : zr zM zprm 37 31 (186, [.ref 35, .retAddr 0, .retAddr 0, .retAddr 0, .retAddr 0, .int 0], [.ref 168, .int 0, .ref 45], zs_142, a, b) = some (none, zs_17, a, b, 2, 0, 4) := by
  refine (ct_9_s247 a b).trans ?_
  rw [ct_9_g248 a b (fun q j hq => h q j (by omega)) (fun q j hq => hb q j (by omega))]
  all_goals rfl
set_option maxRecDepth 100000 in
theorem ct_9_s246 (a : zA) (b : zB) : zr zM zprm 37 31 (167, [.ref 35, .retAddr 0, .retAddr 0, .retAddr 0, .retAddr 0, .int 0], [], zs_147, a, b) = zCNT 2 (zCA zM (zr zM zprm) 26 [.ref 168] zs_142 (zzA a 168) (zzB b 168) (fun sh a b => zr zM zprm 37 31 (186, [.ref 35, .retAddr 0, .retAddr 0, .retAddr 0, .retAddr 0, .int 0], [.ref 168, .int 0, .ref 45], sh, a, b))) := (zr_run (mi := zm_37) rfl 400 _).trans rfl
set_option maxRecDepth 100000 in
theorem ct_9_g246 (a : zA) (b : zB) (h : ∀ q j, 168 ≤ q → a q j = 0) (hb : ∀ q j, 168 ≤ q → b q j = 0) : zr zM zprm 37 31 (167, [.ref 35, .retAddr 0, .retAddr 0, .retAddr 0, .retAddr 0, .int 0], [], zs_147, a, b) = some (none, zs_17, a, b, 3, 0, 6) := by
  refine (ct_9_s246 a b).trans ?_
  rw [zzA_z h 168 (by decide), zzB_z hb 168 (by decide)]
  have h1 : ∀ q j, 168 ≤ q → a q j = 0 := fun q j hq => h q j (by omega)
  have hb1 : ∀ q j, 168 ≤ q → b q j = 0 := fun q j hq => hb q j (by omega)
  rw [zCA_ok (ct_134 a b h1 hb1) rfl, ct_9_g247 _ b (fun q j hq => h q j (by omega)) (fun q j hq => hb q j (by omega))]
  all_goals rfl
set_option maxRecDepth 100000 in
theorem ct_9_s245 (a : zA) (b : zB) : zr zM zprm 37 31 (137, [.ref 35, .retAddr 0, .retAddr 0, .retAddr 0, .retAddr 0, .int 120], [], zs_147, a, b) = zr zM zprm 37 31 (167, [.ref 35, .retAddr 0, .retAddr 0, .retAddr 0, .retAddr 0, .int 0], [], zs_147, a, b) := (zr_run (mi := zm_37) rfl 400 _).trans rfl
set_option maxRecDepth 100000 in
theorem ct_9_g245 (a : zA) (b : zB) (h : ∀ q j, 168 ≤ q → a q j = 0) (hb : ∀ q j, 168 ≤ q → b q j = 0) : zr zM zprm 37 31 (137, [.ref 35, .retAddr 0, .retAddr 0, .retAddr 0, .retAddr 0, .int 120], [], zs_147, a, b) = some (none, zs_17, a, b, 3, 0, 6) := by
  refine (ct_9_s245 a b).trans ?_
  rw [ct_9_g246 a b (fun q j hq => h q j (by omega)) (fun q j hq => hb q j (by omega))]
  all_goals rfl
set_option maxRecDepth 100000 in
theorem ct_9_s244 (a : zA) (b : zB) : zr zM zprm 37 31 (157, [.ref 35, .retAddr 0, .retAddr 0, .retAddr 0, .retAddr 0, .int 119], [.ref 167, .int 119, .ref 40], zs_141, a, b) = zr zM zprm 37 31 (137, [.ref 35, .retAddr 0, .retAddr 0, .retAddr 0, .retAddr 0, .int 120], [], zs_147, a, b) := (zr_run (mi := zm_37) rfl 400 _).trans rfl
set_option maxRecDepth 100000 in
theorem ct_9_g244 (a : zA) (b : zB) (h : ∀ q j, 168 ≤ q → a q j = 0) (hb : ∀ q j, 168 ≤ q → b q j = 0) : zr zM zprm 37 31 (157, [.ref 35, .retAddr 0, .retAddr 0, .retAddr 0, .retAddr 0, .int 119], [.ref 167, .int 119, .ref 40], zs_141, a, b) = some (none, zs_17, a, b, 3, 0, 6) := by
  refine (ct_9_s244 a b).trans ?_
  rw [ct_9_g245 a b (fun q j hq => h q j (by omega)) (fun q j hq => hb q j (by omega))]
  all_goals rfl
set_option maxRecDepth 100000 in
theorem ct_9_s243 (a : zA) (b : zB) : zr zM zprm 37 31 (137, [.ref 35, .retAddr 0, .retAddr 0, .retAddr 0, .retAddr 0, .int 119], [], zs_148, a, b) = zCNT 2 (zCA zM (zr zM zprm) 26 [.ref 167] zs_141 (zzA a 167) (zzB b 167) (fun sh a b => zr zM zprm 37 31 (157, [.ref 35, .retAddr 0, .retAddr 0, .retAddr 0, .retAddr 0, .int 119], [.ref 167, .int 119, .ref 40], sh, a, b))) := (zr_run (mi := zm_37) rfl 400 _).trans rfl
set_option maxRecDepth 100000 in
theorem ct_9_g243 (a : zA) (b : zB) (h : ∀ q j, 167 ≤ q → a q j = 0) (hb : ∀ q j, 167 ≤ q → b q j = 0) : zr zM zprm 37 31 (137, [.ref 35, .retAddr 0, .retAddr 0, .retAddr 0, .retAddr 0, .int 119], [], zs_148, a, b) = some (none, zs_17, a, b, 4, 0, 8) := by
  refine (ct_9_s243 a b).trans ?_
  rw [zzA_z h 167 (by decide), zzB_z hb 167 (by decide)]
  have h1 : ∀ q j, 167 ≤ q → a q j = 0 := fun q j hq => h q j (by omega)
  have hb1 : ∀ q j, 167 ≤ q → b q j = 0 := fun q j hq => hb q j (by omega)
  rw [zCA_ok (ct_133 a b h1 hb1) rfl, ct_9_g244 _ b (fun q j hq => h q j (by omega)) (fun q j hq => hb q j (by omega))]
  all_goals rfl
set_option maxRecDepth 100000 in
theorem ct_9_s242 (a : zA) (b : zB) : zr zM zprm 37 31 (157, [.ref 35, .retAddr 0, .retAddr 0, .retAddr 0, .retAddr 0, .int 118], [.ref 166, .int 118, .ref 40], zs_140, a, b) = zr zM zprm 37 31 (137, [.ref 35, .retAddr 0, .retAddr 0, .retAddr 0, .retAddr 0, .int 119], [], zs_148, a, b) := (zr_run (mi := zm_37) rfl 400 _).trans rfl
set_option maxRecDepth 100000 in
theorem ct_9_g242 (a : zA) (b : zB) (h : ∀ q j, 167 ≤ q → a q j = 0) (hb : ∀ q j, 167 ≤ q → b q j = 0) : zr zM zprm 37 31 (157, [.ref 35, .retAddr 0, .retAddr 0, .retAddr 0, .retAddr 0, .int 118], [.ref 166, .int 118, .ref 40], zs_140, a, b) = some (none, zs_17, a, b, 4, 0, 8) := by
  refine (ct_9_s242 a b).trans ?_
  rw [ct_9_g243 a b (fun q j hq => h q j (by omega)) (fun q j hq => hb q j (by omega))]
  all_goals rfl
set_option maxRecDepth 100000 in
theorem ct_9_s241 (a : zA) (b : zB) : zr zM zprm 37 31 (137, [.ref 35, .retAddr 0, .retAddr 0, .retAddr 0, .retAddr 0, .int 118], [], zs_149, a, b) = zCNT 2 (zCA zM (zr zM zprm) 26 [.ref 166] zs_140 (zzA a 166) (zzB b 166) (fun sh a b => zr zM zprm 37 31 (157, [.ref 35, .retAddr 0, .retAddr 0, .retAddr 0, .retAddr 0, .int 118], [.ref 166, .int 118, .ref 40], sh, a, b))) := (zr_run (mi := zm_37) rfl 400 _).trans rfl
set_option maxRecDepth 100000 in
theorem ct_9_g241 (a : zA) (b : zB) (h : ∀ q j, 166 ≤ q → a q j = 0) (hb : ∀ q j, 166 ≤ q → b q j = 0) : zr zM zprm 37 31 (137, [.ref 35, .retAddr 0, .retAddr 0, .retAddr 0, .retAddr 0, .int 118], [], zs_149, a, b) = some (none, zs_17, a, b, 5, 0, 10) := by
  refine (ct_9_s241 a b).trans ?_
  rw [zzA_z h 166 (by decide), zzB_z hb 166 (by decide)]
  have h1 : ∀ q j, 166 ≤ q → a q j = 0 := fun q j hq => h q j (by omega)
  have hb1 : ∀ q j, 166 ≤ q → b q j = 0 := fun q j hq => hb q j (by omega)
  rw [zCA_ok (ct_132 a b h1 hb1) rfl, ct_9_g242 _ b (fun q j hq => h q j (by omega)) (fun q j hq => hb q j (by omega))]
  all_goals rfl
set_option maxRecDepth 100000 in
theorem ct_9_s240 (a : zA) (b : zB) : zr zM zprm 37 31 (157, [.ref 35, .retAddr 0, .retAddr 0, .retAddr 0, .retAddr 0, .int 117], [.ref 165, .int 117, .ref 40], zs_139, a, b) = zr zM zprm 37 31 (137, [.ref 35, .retAddr 0, .retAddr 0, .retAddr 0, .retAddr 0, .int 118], [], zs_149, a, b) := (zr_run (mi := zm_37) rfl 400 _).trans rfl
set_option maxRecDepth 100000 in
theorem ct_9_g240 (a : zA) (b : zB) (h : ∀ q j, 166 ≤ q → a q j = 0) (hb : ∀ q j, 166 ≤ q → b q j = 0) : zr zM zprm 37 31 (157, [.ref 35, .retAddr 0, .retAddr 0, .retAddr 0, .retAddr 0, .int 117], [.ref 165, .int 117, .ref 40], zs_139, a, b) = some (none, zs_17, a, b, 5, 0, 10) := by
  refine (ct_9_s240 a b).trans ?_
  rw [ct_9_g241 a b (fun q j hq => h q j (by omega)) (fun q j hq => hb q j (by omega))]
  all_goals rfl
set_option maxRecDepth 100000 in
theorem ct_9_s239 (a : zA) (b : zB) : zr zM zprm 37 31 (137, [.ref 35, .retAddr 0, .retAddr 0, .retAddr 0, .retAddr 0, .int 117], [], zs_150, a, b) = zCNT 2 (zCA zM (zr zM zprm) 26 [.ref 165] zs_139 (zzA a 165) (zzB b 165) (fun sh a b => zr zM zprm 37 31 (157, [.ref 35, .retAddr 0, .retAddr 0, .retAddr 0, .retAddr 0, .int 117], [.ref 165, .int 117, .ref 40], sh, a, b))) := (zr_run (mi := zm_37) rfl 400 _).trans rfl
set_option maxRecDepth 100000 in
theorem ct_9_g239 (a : zA) (b : zB) (h : ∀ q j, 165 ≤ q → a q j = 0) (hb : ∀ q j, 165 ≤ q → b q j = 0) : zr zM zprm 37 31 (137, [.ref 35, .retAddr 0, .retAddr 0, .retAddr 0, .retAddr 0, .int 117], [], zs_150, a, b) = some (none, zs_17, a, b, 6, 0, 12) := by
  refine (ct_9_s239 a b).trans ?_
  rw [zzA_z h 165 (by decide), zzB_z hb 165 (by decide)]
  have h1 : ∀ q j, 165 ≤ q → a q j = 0 := fun q j hq => h q j (by omega)
  have hb1 : ∀ q j, 165 ≤ q → b q j = 0 := fun q j hq => hb q j (by omega)
  rw [zCA_ok (ct_131 a b h1 hb1) rfl, ct_9_g240 _ b (fun q j hq => h q j (by omega)) (fun q j hq => hb q j (by omega))]
  all_goals rfl
set_option maxRecDepth 100000 in
theorem ct_9_s238 (a : zA) (b : zB) : zr zM zprm 37 31 (157, [.ref 35, .retAddr 0, .retAddr 0, .retAddr 0, .retAddr 0, .int 116], [.ref 164, .int 116, .ref 40], zs_138, a, b) = zr zM zprm 37 31 (137, [.ref 35, .retAddr 0, .retAddr 0, .retAddr 0, .retAddr 0, .int 117], [], zs_150, a, b) := (zr_run (mi := zm_37) rfl 400 _).trans rfl
set_option maxRecDepth 100000 in
theorem ct_9_g238 (a : zA) (b : zB) (h : ∀ q j, 165 ≤ q → a q j = 0) (hb : ∀ q j, 165 ≤ q → b q j = 0) : zr zM zprm 37 31 (157, [.ref 35, .retAddr 0, .retAddr 0, .retAddr 0, .retAddr 0, .int 116], [.ref 164, .int 116, .ref 40], zs_138, a, b) = some (none, zs_17, a, b, 6, 0, 12) := by
  refine (ct_9_s238 a b).trans ?_
  rw [ct_9_g239 a b (fun q j hq => h q j (by omega)) (fun q j hq => hb q j (by omega))]
  all_goals rfl
set_option maxRecDepth 100000 in
theorem ct_9_s237 (a : zA) (b : zB) : zr zM zprm 37 31 (137, [.ref 35, .retAddr 0, .retAddr 0, .retAddr 0, .retAddr 0, .int 116], [], zs_151, a, b) = zCNT 2 (zCA zM (zr zM zprm) 26 [.ref 164] zs_138 (zzA a 164) (zzB b 164) (fun sh a b => zr zM zprm 37 31 (157, [.ref 35, .retAddr 0, .retAddr 0, .retAddr 0, .retAddr 0, .int 116], [.ref 164, .int 116, .ref 40], sh, a, b))) := (zr_run (mi := zm_37) rfl 400 _).trans rfl
set_option maxRecDepth 100000 in
theorem ct_9_g237 (a : zA) (b : zB) (h : ∀ q j, 164 ≤ q → a q j = 0) (hb : ∀ q j, 164 ≤ q → b q j = 0) : zr zM zprm 37 31 (137, [.ref 35, .retAddr 0, .retAddr 0, .retAddr 0, .retAddr 0, .int 116], [], zs_151, a, b) = some (none, zs_17, a, b, 7, 0, 14) := by
  refine (ct_9_s237 a b).trans ?_
  rw [zzA_z h 164 (by decide), zzB_z hb 164 (by decide)]
  have h1 : ∀ q j, 164 ≤ q → a q j = 0 := fun q j hq => h q j (by omega)
  have hb1 : ∀ q j, 164 ≤ q → b q j = 0 := fun q j hq => hb q j (by omega)
  rw [zCA_ok (ct_130 a b h1 hb1) rfl, ct_9_g238 _ b (fun q j hq => h q j (by omega)) (fun q j hq => hb q j (by omega))]
  all_goals rfl
set_option maxRecDepth 100000 in
theorem ct_9_s236 (a : zA) (b : zB) : zr zM zprm 37 31 (157, [.ref 35, .retAddr 0, .retAddr 0, .retAddr 0, .retAddr 0, .int 115], [.ref 163, .int 115, .ref 40], zs_137, a, b) = zr zM zprm 37 31 (137, [.ref 35, .retAddr 0, .retAddr 0, .retAddr 0, .retAddr 0, .int 116], [], zs_151, a, b) := (zr_run (mi := zm_37) rfl 400 _).trans rfl
set_option maxRecDepth 100000 in
theorem ct_9_g236 (a : zA) (b : zB) (h : ∀ q j, 164 ≤ q → a q j = 0) (hb : ∀ q j, 164 ≤ q → b q j = 0) : zr zM zprm 37 31 (157, [.ref 35, .retAddr 0, .retAddr 0, .retAddr 0, .retAddr 0, .int 115], [.ref 163, .int 115, .ref 40], zs_137, a, b) = some (none, zs_17, a, b, 7, 0, 14) := by
  refine (ct_9_s236 a b).trans ?_
  rw [ct_9_g237 a b (fun q j hq => h q j (by omega)) (fun q j hq => hb q j (by omega))]
  all_goals rfl
set_option maxRecDepth 100000 in
theorem ct_9_s235 (a : zA) (b : zB) : zr zM zprm 37 31 (137, [.ref 35, .retAddr 0, .retAddr 0, .retAddr 0, .retAddr 0, .int 115], [], zs_152, a, b) = zCNT 2 (zCA zM (zr zM zprm) 26 [.ref 163] zs_137 (zzA a 163) (zzB b 163) (fun sh a b => zr zM zprm 37 31 (157, [.ref 35, .retAddr 0, .retAddr 0, .retAddr 0, .retAddr 0, .int 115], [.ref 163, .int 115, .ref 40], sh, a, b))) := (zr_run (mi := zm_37) rfl 400 _).trans rfl
set_option maxRecDepth 100000 in
theorem ct_9_g235 (a : zA) (b : zB) (h : ∀ q j, 163 ≤ q → a q j = 0) (hb : ∀ q j, 163 ≤ q → b q j = 0) : zr zM zprm 37 31 (137, [.ref 35, .retAddr 0, .retAddr 0, .retAddr 0, .retAddr 0, .int 115], [], zs_152, a, b) = some (none, zs_17, a, b, 8, 0, 16) := by
  refine (ct_9_s235 a b).trans ?_
  rw [zzA_z h 163 (by decide), zzB_z hb 163 (by decide)]
  have h1 : ∀ q j, 163 ≤ q → a q j = 0 := fun q j hq => h q j (by omega)
  have hb1 : ∀ q j, 163 ≤ q → b q j = 0 := fun q j hq => hb q j (by omega)
  rw [zCA_ok (ct_129 a b h1 hb1) rfl, ct_9_g236 _ b (fun q j hq => h q j (by omega)) (fun q j hq => hb q j (by omega))]
  all_goals rfl
set_option maxRecDepth 100000 in
theorem ct_9_s234 (a : zA) (b : zB) : zr zM zprm 37 31 (157, [.ref 35, .retAddr 0, .retAddr 0, .retAddr 0, .retAddr 0, .int 114], [.ref 162, .int 114, .ref 40], zs_136, a, b) = zr zM zprm 37 31 (137, [.ref 35, .retAddr 0, .retAddr 0, .retAddr 0, .retAddr 0, .int 115], [], zs_152, a, b) := (zr_run (mi := zm_37) rfl 400 _).trans rfl
set_option maxRecDepth 100000 in
theorem ct_9_g234 (a : zA) (b : zB) (h : ∀ q j, 163 ≤ q → a q j = 0) (hb : ∀ q j, 163 ≤ q → b q j = 0) : zr zM zprm 37 31 (157, [.ref 35, .retAddr 0, .retAddr 0, .retAddr 0, .retAddr 0, .int 114], [.ref 162, .int 114, .ref 40], zs_136, a, b) = some (none, zs_17, a, b, 8, 0, 16) := by
  refine (ct_9_s234 a b).trans ?_
  rw [ct_9_g235 a b (fun q j hq => h q j (by omega)) (fun q j hq => hb q j (by omega))]
  all_goals rfl
set_option maxRecDepth 100000 in
theorem ct_9_s233 (a : zA) (b : zB) : zr zM zprm 37 31 (137, [.ref 35, .retAddr 0, .retAddr 0, .retAddr 0, .retAddr 0, .int 114], [], zs_153, a, b) = zCNT 2 (zCA zM (zr zM zprm) 26 [.ref 162] zs_136 (zzA a 162) (zzB b 162) (fun sh a b => zr zM zprm 37 31 (157, [.ref 35, .retAddr 0, .retAddr 0, .retAddr 0, .retAddr 0, .int 114], [.ref 162, .int 114, .ref 40], sh, a, b))) := (zr_run (mi := zm_37) rfl 400 _).trans rfl
set_option maxRecDepth 100000 in
theorem ct_9_g233 (a : zA) (b : zB) (h : ∀ q j, 162 ≤ q → a q j = 0) (hb : ∀ q j, 162 ≤ q → b q j = 0) : zr zM zprm 37 31 (137, [.ref 35, .retAddr 0, .retAddr 0, .retAddr 0, .retAddr 0, .int 114], [], zs_153, a, b) = some (none, zs_17, a, b, 9, 0, 18) := by
  refine (ct_9_s233 a b).trans ?_
  rw [zzA_z h 162 (by decide), zzB_z hb 162 (by decide)]
  have h1 : ∀ q j, 162 ≤ q → a q j = 0 := fun q j hq => h q j (by omega)
  have hb1 : ∀ q j, 162 ≤ q → b q j = 0 := fun q j hq => hb q j (by omega)
  rw [zCA_ok (ct_128 a b h1 hb1) rfl, ct_9_g234 _ b (fun q j hq => h q j (by omega)) (fun q j hq => hb q j (by omega))]
  all_goals rfl
set_option maxRecDepth 100000 in
theorem ct_9_s232 (a : zA) (b : zB) : zr zM zprm 37 31 (157, [.ref 35, .retAddr 0, .retAddr 0, .retAddr 0, .retAddr 0, .int 113], [.ref 161, .int 113, .ref 40], zs_135, a, b) = zr zM zprm 37 31 (137, [.ref 35, .retAddr 0, .retAddr 0, .retAddr 0, .retAddr 0, .int 114], [], zs_153, a, b) := (zr_run (mi := zm_37) rfl 400 _).trans rfl
set_option maxRecDepth 100000 in
theorem ct_9_g232 (a : zA) (b : zB) (h : ∀ q j, 162 ≤ q → a q j = 0) (hb : ∀ q j, 162 ≤ q → b q j = 0) : zr zM zprm 37 31 (157, [.ref 35, .retAddr 0, .retAddr 0, .retAddr 0, .retAddr 0, .int 113], [.ref 161, .int 113, .ref 40], zs_135, a, b) = some (none, zs_17, a, b, 9, 0, 18) := by
  refine (ct_9_s232 a b).trans ?_
  rw [ct_9_g233 a b (fun q j hq => h q j (by omega)) (fun q j hq => hb q j (by omega))]
  all_goals rfl
set_option maxRecDepth 100000 in
theorem ct_9_s231 (a : zA) (b : zB) : zr zM zprm 37 31 (137, [.ref 35, .retAddr 0, .retAddr 0, .retAddr 0, .retAddr 0, .int 113], [], zs_154, a, b) = zCNT 2 (zCA zM (zr zM zprm) 26 [.ref 161] zs_135 (zzA a 161) (zzB b 161) (fun sh a b => zr zM zprm 37 31 (157, [.ref 35, .retAddr 0, .retAddr 0, .retAddr 0, .retAddr 0, .int 113], [.ref 161, .int 113, .ref 40], sh, a, b))) := (zr_run (mi := zm_37) rfl 400 _).trans rfl
set_option maxRecDepth 100000 in
theorem ct_9_g231 (a : zA) (b : zB) (h : ∀ q j, 161 ≤ q → a q j = 0) (hb : ∀ q j, 161 ≤ q → b q j = 0) : zr zM zprm 37 31 (137, [.ref 35, .retAddr 0, .retAddr 0, .retAddr 0, .retAddr 0, .int 113], [], zs_154, a, b) = some (none, zs_17, a, b, 10, 0, 20) := by
  refine (ct_9_s231 a b).trans ?_
  rw [zzA_z h 161 (by decide), zzB_z hb 161 (by decide)]
  have h1 : ∀ q j, 161 ≤ q → a q j = 0 := fun q j hq => h q j (by omega)
  have hb1 : ∀ q j, 161 ≤ q → b q j = 0 := fun q j hq => hb q j (by omega)
  rw [zCA_ok (ct_127 a b h1 hb1) rfl, ct_9_g232 _ b (fun q j hq => h q j (by omega)) (fun q j hq => hb q j (by omega))]
  all_goals rfl
set_option maxRecDepth 100000 in
theorem ct_9_s230 (a : zA) (b : zB) : zr zM zprm 37 31 (157, [.ref 35, .retAddr 0, .retAddr 0, .retAddr 0, .retAddr 0, .int 112], [.ref 160, .int 112, .ref 40], zs_134, a, b) = zr zM zprm 37 31 (137, [.ref 35, .retAddr 0, .retAddr 0, .retAddr 0, .retAddr 0, .int 113], [], zs_154, a, b) := (zr_run (mi := zm_37) rfl 400 _).trans rfl
set_option maxRecDepth 100000 in
theorem ct_9_g230 (a : zA) (b : zB) (h : ∀ q j, 161 ≤ q → a q j = 0) (hb : ∀ q j, 161 ≤ q → b q j = 0) : zr zM zprm 37 31 (157, [.ref 35, .retAddr 0, .retAddr 0, .retAddr 0, .retAddr 0, .int 112], [.ref 160, .int 112, .ref 40], zs_134, a, b) = some (none, zs_17, a, b, 10, 0, 20) := by
  refine (ct_9_s230 a b).trans ?_
  rw [ct_9_g231 a b (fun q j hq => h q j (by omega)) (fun q j hq => hb q j (by omega))]
  all_goals rfl
set_option maxRecDepth 100000 in
theorem ct_9_s229 (a : zA) (b : zB) : zr zM zprm 37 31 (137, [.ref 35, .retAddr 0, .retAddr 0, .retAddr 0, .retAddr 0, .int 112], [], zs_155, a, b) = zCNT 2 (zCA zM (zr zM zprm) 26 [.ref 160] zs_134 (zzA a 160) (zzB b 160) (fun sh a b => zr zM zprm 37 31 (157, [.ref 35, .retAddr 0, .retAddr 0, .retAddr 0, .retAddr 0, .int 112], [.ref 160, .int 112, .ref 40], sh, a, b))) := (zr_run (mi := zm_37) rfl 400 _).trans rfl
set_option maxRecDepth 100000 in
theorem ct_9_g229 (a : zA) (b : zB) (h : ∀ q j, 160 ≤ q → a q j = 0) (hb : ∀ q j, 160 ≤ q → b q j = 0) : zr zM zprm 37 31 (137, [.ref 35, .retAddr 0, .retAddr 0, .retAddr 0, .retAddr 0, .int 112], [], zs_155, a, b) = some (none, zs_17, a, b, 11, 0, 22) := by
  refine (ct_9_s229 a b).trans ?_
  rw [zzA_z h 160 (by decide), zzB_z hb 160 (by decide)]
  have h1 : ∀ q j, 160 ≤ q → a q j = 0 := fun q j hq => h q j (by omega)
  have hb1 : ∀ q j, 160 ≤ q → b q j = 0 := fun q j hq => hb q j (by omega)
  rw [zCA_ok (ct_126 a b h1 hb1) rfl, ct_9_g230 _ b (fun q j hq => h q j (by omega)) (fun q j hq => hb q j (by omega))]
  all_goals rfl
set_option maxRecDepth 100000 in
theorem ct_9_s228 (a : zA) (b : zB) : zr zM zprm 37 31 (157, [.ref 35, .retAddr 0, .retAddr 0, .retAddr 0, .retAddr 0, .int 111], [.ref 159, .int 111, .ref 40], zs_133, a, b) = zr zM zprm 37 31 (137, [.ref 35, .retAddr 0, .retAddr 0, .retAddr 0, .retAddr 0, .int 112], [], zs_155, a, b) := (zr_run (mi := zm_37) rfl 400 _).trans rfl
set_option maxRecDepth 100000 in
theorem ct_9_g228 (a : zA) (b : zB) (h : ∀ q j, 160 ≤ q → a q j = 0) (hb : ∀ q j, 160 ≤ q → b q j = 0) : zr zM zprm 37 31 (157, [.ref 35, .retAddr 0, .retAddr 0, .retAddr 0, .retAddr 0, .int 111], [.ref 159, .int 111, .ref 40], zs_133, a, b) = some (none, zs_17, a, b, 11, 0, 22) := by
  refine (ct_9_s228 a b).trans ?_
  rw [ct_9_g229 a b (fun q j hq => h q j (by omega)) (fun q j hq => hb q j (by omega))]
  all_goals rfl
set_option maxRecDepth 100000 in
theorem ct_9_s227 (a : zA) (b : zB) : zr zM zprm 37 31 (137, [.ref 35, .retAddr 0, .retAddr 0, .retAddr 0, .retAddr 0, .int 111], [], zs_156, a, b) = zCNT 2 (zCA zM (zr zM zprm) 26 [.ref 159] zs_133 (zzA a 159) (zzB b 159) (fun sh a b => zr zM zprm 37 31 (157, [.ref 35, .retAddr 0, .retAddr 0, .retAddr 0, .retAddr 0, .int 111], [.ref 159, .int 111, .ref 40], sh, a, b))) := (zr_run (mi := zm_37) rfl 400 _).trans rfl
set_option maxRecDepth 100000 in
theorem ct_9_g227 (a : zA) (b : zB) (h : ∀ q j, 159 ≤ q → a q j = 0) (hb : ∀ q j, 159 ≤ q → b q j = 0) : zr zM zprm 37 31 (137, [.ref 35, .retAddr 0, .retAddr 0, .retAddr 0, .retAddr 0, .int 111], [], zs_156, a, b) = some (none, zs_17, a, b, 12, 0, 24) := by
  refine (ct_9_s227 a b).trans ?_
  rw [zzA_z h 159 (by decide), zzB_z hb 159 (by decide)]
  have h1 : ∀ q j, 159 ≤ q → a q j = 0 := fun q j hq => h q j (by omega)
  have hb1 : ∀ q j, 159 ≤ q → b q j = 0 := fun q j hq => hb q j (by omega)
  rw [zCA_ok (ct_125 a b h1 hb1) rfl, ct_9_g228 _ b (fun q j hq => h q j (by omega)) (fun q j hq => hb q j (by omega))]
  all_goals rfl
set_option maxRecDepth 100000 in
theorem ct_9_s226 (a : zA) (b : zB) : zr zM zprm 37 31 (157, [.ref 35, .retAddr 0, .retAddr 0, .retAddr 0, .retAddr 0, .int 110], [.ref 158, .int 110, .ref 40], zs_132, a, b) = zr zM zprm 37 31 (137, [.ref 35, .retAddr 0, .retAddr 0, .retAddr 0, .retAddr 0, .int 111], [], zs_156, a, b) := (zr_run (mi := zm_37) rfl 400 _).trans rfl
set_option maxRecDepth 100000 in
theorem ct_9_g226 (a : zA) (b : zB) (h : ∀ q j, 159 ≤ q → a q j = 0) (hb : ∀ q j, 159 ≤ q → b q j = 0) : zr zM zprm 37 31 (157, [.ref 35, .retAddr 0, .retAddr 0, .retAddr 0, .retAddr 0, .int 110], [.ref 158, .int 110, .ref 40], zs_132, a, b) = some (none, zs_17, a, b, 12, 0, 24) := by
  refine (ct_9_s226 a b).trans ?_
  rw [ct_9_g227 a b (fun q j hq => h q j (by omega)) (fun q j hq => hb q j (by omega))]
  all_goals rfl
set_option maxRecDepth 100000 in
theorem ct_9_s225 (a : zA) (b : zB) : zr zM zprm 37 31 (137, [.ref 35, .retAddr 0, .retAddr 0, .retAddr 0, .retAddr 0, .int 110], [], zs_157, a, b) = zCNT 2 (zCA zM (zr zM zprm) 26 [.ref 158] zs_132 (zzA a 158) (zzB b 158) (fun sh a b => zr zM zprm 37 31 (157, [.ref 35, .retAddr 0, .retAddr 0, .retAddr 0, .retAddr 0, .int 110], [.ref 158, .int 110, .ref 40], sh, a, b))) := (zr_run (mi := zm_37) rfl 400 _).trans rfl
set_option maxRecDepth 100000 in
theorem ct_9_g225 (a : zA) (b : zB) (h : ∀ q j, 158 ≤ q → a q j = 0) (hb : ∀ q j, 158 ≤ q → b q j = 0) : zr zM zprm 37 31 (137, [.ref 35, .retAddr 0, .retAddr 0, .retAddr 0, .retAddr 0, .int 110], [], zs_157, a, b) = some (none, zs_17, a, b, 13, 0, 26) := by
  refine (ct_9_s225 a b).trans ?_
  rw [zzA_z h 158 (by decide), zzB_z hb 158 (by decide)]
  have h1 : ∀ q j, 158 ≤ q → a q j = 0 := fun q j hq => h q j (by omega)
  have hb1 : ∀ q j, 158 ≤ q → b q j = 0 := fun q j hq => hb q j (by omega)
  rw [zCA_ok (ct_124 a b h1 hb1) rfl, ct_9_g226 _ b (fun q j hq => h q j (by omega)) (fun q j hq => hb q j (by omega))]
  all_goals rfl
set_option maxRecDepth 100000 in
theorem ct_9_s224 (a : zA) (b : zB) : zr zM zprm 37 31 (157, [.ref 35, .retAddr 0, .retAddr 0, .retAddr 0, .retAddr 0, .int 109], [.ref 157, .int 109, .ref 40], zs_131, a, b) = zr zM zprm 37 31 (137, [.ref 35, .retAddr 0, .retAddr 0, .retAddr 0, .retAddr 0, .int 110], [], zs_157, a, b) := (zr_run (mi := zm_37) rfl 400 _).trans rfl
set_option maxRecDepth 100000 in
theorem ct_9_g224 (a : zA) (b : zB) (h : ∀ q j, 158 ≤ q → a q j = 0) (hb : ∀ q j, 158 ≤ q → b q j = 0) : zr zM zprm 37 31 (157, [.ref 35, .retAddr 0, .retAddr 0, .retAddr 0, .retAddr 0, .int 109], [.ref 157, .int 109, .ref 40], zs_131, a, b) = some (none, zs_17, a, b, 13, 0, 26) := by
  refine (ct_9_s224 a b).trans ?_
  rw [ct_9_g225 a b (fun q j hq => h q j (by omega)) (fun q j hq => hb q j (by omega))]
  all_goals rfl
set_option maxRecDepth 100000 in
theorem ct_9_s223 (a : zA) (b : zB) : zr zM zprm 37 31 (137, [.ref 35, .retAddr 0, .retAddr 0, .retAddr 0, .retAddr 0, .int 109], [], zs_158, a, b) = zCNT 2 (zCA zM (zr zM zprm) 26 [.ref 157] zs_131 (zzA a 157) (zzB b 157) (fun sh a b => zr zM zprm 37 31 (157, [.ref 35, .retAddr 0, .retAddr 0, .retAddr 0, .retAddr 0, .int 109], [.ref 157, .int 109, .ref 40], sh, a, b))) := (zr_run (mi := zm_37) rfl 400 _).trans rfl
set_option maxRecDepth 100000 in
theorem ct_9_g223 (a : zA) (b : zB) (h : ∀ q j, 157 ≤ q → a q j = 0) (hb : ∀ q j, 157 ≤ q → b q j = 0) : zr zM zprm 37 31 (137, [.ref 35, .retAddr 0, .retAddr 0, .retAddr 0, .retAddr 0, .int 109], [], zs_158, a, b) = some (none, zs_17, a, b, 14, 0, 28) := by
  refine (ct_9_s223 a b).trans ?_
  rw [zzA_z h 157 (by decide), zzB_z hb 157 (by decide)]
  have h1 : ∀ q j, 157 ≤ q → a q j = 0 := fun q j hq => h q j (by omega)
  have hb1 : ∀ q j, 157 ≤ q → b q j = 0 := fun q j hq => hb q j (by omega)
  rw [zCA_ok (ct_123 a b h1 hb1) rfl, ct_9_g224 _ b (fun q j hq => h q j (by omega)) (fun q j hq => hb q j (by omega))]
  all_goals rfl
set_option maxRecDepth 100000 in
theorem ct_9_s222 (a : zA) (b : zB) : zr zM zprm 37 31 (157, [.ref 35, .retAddr 0, .retAddr 0, .retAddr 0, .retAddr 0, .int 108], [.ref 156, .int 108, .ref 40], zs_130, a, b) = zr zM zprm 37 31 (137, [.ref 35, .retAddr 0, .retAddr 0, .retAddr 0, .retAddr 0, .int 109], [], zs_158, a, b) := (zr_run (mi := zm_37) rfl 400 _).trans rfl
set_option maxRecDepth 100000 in
theorem ct_9_g222 (a : zA) (b : zB) (h : ∀ q j, 157 ≤ q → a q j = 0) (hb : ∀ q j, 157 ≤ q → b q j = 0) : zr zM zprm 37 31 (157, [.ref 35, .retAddr 0, .retAddr 0, .retAddr 0, .retAddr 0, .int 108], [.ref 156, .int 108, .ref 40], zs_130, a, b) = some (none, zs_17, a, b, 14, 0, 28) := by
  refine (ct_9_s222 a b).trans ?_
  rw [ct_9_g223 a b (fun q j hq => h q j (by omega)) (fun q j hq => hb q j (by omega))]
  all_goals rfl
set_option maxRecDepth 100000 in
theorem ct_9_s221 (a : zA) (b : zB) : zr zM zprm 37 31 (137, [.ref 35, .retAddr 0, .retAddr 0, .retAddr 0, .retAddr 0, .int 108], [], zs_159, a, b) = zCNT 2 (zCA zM (zr zM zprm) 26 [.ref 156] zs_130 (zzA a 156) (zzB b 156) (fun sh a b => zr zM zprm 37 31 (157, [.ref 35, .retAddr 0, .retAddr 0, .retAddr 0, .retAddr 0, .int 108], [.ref 156, .int 108, .ref 40], sh, a, b))) := (zr_run (mi := zm_37) rfl 400 _).trans rfl
set_option maxRecDepth 100000 in
theorem ct_9_g221 (a : zA) (b : zB) (h : ∀ q j, 156 ≤ q → a q j = 0) (hb : ∀ q j, 156 ≤ q → b q j = 0) : zr zM zprm 37 31 (137, [.ref 35, .retAddr 0, .retAddr 0, .retAddr 0, .retAddr 0, .int 108], [], zs_159, a, b) = some (none, zs_17, a, b, 15, 0, 30) := by
  refine (ct_9_s221 a b).trans ?_
  rw [zzA_z h 156 (by decide), zzB_z hb 156 (by decide)]
  have h1 : ∀ q j, 156 ≤ q → a q j = 0 := fun q j hq => h q j (by omega)
  have hb1 : ∀ q j, 156 ≤ q → b q j = 0 := fun q j hq => hb q j (by omega)
  rw [zCA_ok (ct_122 a b h1 hb1) rfl, ct_9_g222 _ b (fun q j hq => h q j (by omega)) (fun q j hq => hb q j (by omega))]
  all_goals rfl
set_option maxRecDepth 100000 in
theorem ct_9_s220 (a : zA) (b : zB) : zr zM zprm 37 31 (157, [.ref 35, .retAddr 0, .retAddr 0, .retAddr 0, .retAddr 0, .int 107], [.ref 155, .int 107, .ref 40], zs_129, a, b) = zr zM zprm 37 31 (137, [.ref 35, .retAddr 0, .retAddr 0, .retAddr 0, .retAddr 0, .int 108], [], zs_159, a, b) := (zr_run (mi := zm_37) rfl 400 _).trans rfl
set_option maxRecDepth 100000 in
theorem ct_9_g220 (a : zA) (b : zB) (h : ∀ q j, 156 ≤ q → a q j = 0) (hb : ∀ q j, 156 ≤ q → b q j = 0) : zr zM zprm 37 31 (157, [.ref 35, .retAddr 0, .retAddr 0, .retAddr 0, .retAddr 0, .int 107], [.ref 155, .int 107, .ref 40], zs_129, a, b) = some (none, zs_17, a, b, 15, 0, 30) := by
  refine (ct_9_s220 a b).trans ?_
  rw [ct_9_g221 a b (fun q j hq => h q j (by omega)) (fun q j hq => hb q j (by omega))]
  all_goals rfl
set_option maxRecDepth 100000 in
theorem ct_9_s219 (a : zA) (b : zB) : zr zM zprm 37 31 (137, [.ref 35, .retAddr 0, .retAddr 0, .retAddr 0, .retAddr 0, .int 107], [], zs_160, a, b) = zCNT 2 (zCA zM (zr zM zprm) 26 [.ref 155] zs_129 (zzA a 155) (zzB b 155) (fun sh a b => zr zM zprm 37 31 (157, [.ref 35, .retAddr 0, .retAddr 0, .retAddr 0, .retAddr 0, .int 107], [.ref 155, .int 107, .ref 40], sh, a, b))) := (zr_run (mi := zm_37) rfl 400 _).trans rfl
set_option maxRecDepth 100000 in
theorem ct_9_g219 (a : zA) (b : zB) (h : ∀ q j, 155 ≤ q → a q j = 0) (hb : ∀ q j, 155 ≤ q → b q j = 0) : zr zM zprm 37 31 (137, [.ref 35, .retAddr 0, .retAddr 0, .retAddr 0, .retAddr 0, .int 107], [], zs_160, a, b) = some (none, zs_17, a, b, 16, 0, 32) := by
  refine (ct_9_s219 a b).trans ?_
  rw [zzA_z h 155 (by decide), zzB_z hb 155 (by decide)]
  have h1 : ∀ q j, 155 ≤ q → a q j = 0 := fun q j hq => h q j (by omega)
  have hb1 : ∀ q j, 155 ≤ q → b q j = 0 := fun q j hq => hb q j (by omega)
  rw [zCA_ok (ct_121 a b h1 hb1) rfl, ct_9_g220 _ b (fun q j hq => h q j (by omega)) (fun q j hq => hb q j (by omega))]
  all_goals rfl
set_option maxRecDepth 100000 in
theorem ct_9_s218 (a : zA) (b : zB) : zr zM zprm 37 31 (157, [.ref 35, .retAddr 0, .retAddr 0, .retAddr 0, .retAddr 0, .int 106], [.ref 154, .int 106, .ref 40], zs_128, a, b) = zr zM zprm 37 31 (137, [.ref 35, .retAddr 0, .retAddr 0, .retAddr 0, .retAddr 0, .int 107], [], zs_160, a, b) := (zr_run (mi := zm_37) rfl 400 _).trans rfl
set_option maxRecDepth 100000 in
theorem ct_9_g218 (a : zA) (b : zB) (h : ∀ q j, 155 ≤ q → a q j = 0) (hb : ∀ q j, 155 ≤ q → b q j = 0) : zr zM zprm 37 31 (157, [.ref 35, .retAddr 0, .retAddr 0, .retAddr 0, .retAddr 0, .int 106], [.ref 154, .int 106, .ref 40], zs_128, a, b) = some (none, zs_17, a, b, 16, 0, 32) := by
  refine (ct_9_s218 a b).trans ?_
  rw [ct_9_g219 a b (fun q j hq => h q j (by omega)) (fun q j hq => hb q j (by omega))]
  all_goals rfl
set_option maxRecDepth 100000 in
theorem ct_9_s217 (a : zA) (b : zB) : zr zM zprm 37 31 (137, [.ref 35, .retAddr 0, .retAddr 0, .retAddr 0, .retAddr 0, .int 106], [], zs_161, a, b) = zCNT 2 (zCA zM (zr zM zprm) 26 [.ref 154] zs_128 (zzA a 154) (zzB b 154) (fun sh a b => zr zM zprm 37 31 (157, [.ref 35, .retAddr 0, .retAddr 0, .retAddr 0, .retAddr 0, .int 106], [.ref 154, .int 106, .ref 40], sh, a, b))) := (zr_run (mi := zm_37) rfl 400 _).trans rfl
set_option maxRecDepth 100000 in
theorem ct_9_g217 (a : zA) (b : zB) (h : ∀ q j, 154 ≤ q → a q j = 0) (hb : ∀ q j, 154 ≤ q → b q j = 0) : zr zM zprm 37 31 (137, [.ref 35, .retAddr 0, .retAddr 0, .retAddr 0, .retAddr 0, .int 106], [], zs_161, a, b) = some (none, zs_17, a, b, 17, 0, 34) := by
  refine (ct_9_s217 a b).trans ?_
  rw [zzA_z h 154 (by decide), zzB_z hb 154 (by decide)]
  have h1 : ∀ q j, 154 ≤ q → a q j = 0 := fun q j hq => h q j (by omega)
  have hb1 : ∀ q j, 154 ≤ q → b q j = 0 := fun q j hq => hb q j (by omega)
  rw [zCA_ok (ct_120 a b h1 hb1) rfl, ct_9_g218 _ b (fun q j hq => h q j (by omega)) (fun q j hq => hb q j (by omega))]
  all_goals rfl
set_option maxRecDepth 100000 in
theorem ct_9_s216 (a : zA) (b : zB) : zr zM zprm 37 31 (157, [.ref 35, .retAddr 0, .retAddr 0, .retAddr 0, .retAddr 0, .int 105], [.ref 153, .int 105, .ref 40], zs_127, a, b) = zr zM zprm 37 31 (137, [.ref 35, .retAddr 0, .retAddr 0, .retAddr 0, .retAddr 0, .int 106], [], zs_161, a, b) := (zr_run (mi := zm_37) rfl 400 _).trans rfl
set_option maxRecDepth 100000 in
theorem ct_9_g216 (a : zA) (b : zB) (h : ∀ q j, 154 ≤ q → a q j = 0) (hb : ∀ q j, 154 ≤ q → b q j = 0) : zr zM zprm 37 31 (157, [.ref 35, .retAddr 0, .retAddr 0, .retAddr 0, .retAddr 0, .int 105], [.ref 153, .int 105, .ref 40], zs_127, a, b) = some (none, zs_17, a, b, 17, 0, 34) := by
  refine (ct_9_s216 a b).trans ?_
  rw [ct_9_g217 a b (fun q j hq => h q j (by omega)) (fun q j hq => hb q j (by omega))]
  all_goals rfl
set_option maxRecDepth 100000 in
theorem ct_9_s215 (a : zA) (b : zB) : zr zM zprm 37 31 (137, [.ref 35, .retAddr 0, .retAddr 0, .retAddr 0, .retAddr 0, .int 105], [], zs_162, a, b) = zCNT 2 (zCA zM (zr zM zprm) 26 [.ref 153] zs_127 (zzA a 153) (zzB b 153) (fun sh a b => zr zM zprm 37 31 (157, [.ref 35, .retAddr 0, .retAddr 0, .retAddr 0, .retAddr 0, .int 105], [.ref 153, .int 105, .ref 40], sh, a, b))) := (zr_run (mi := zm_37) rfl 400 _).trans rfl
set_option maxRecDepth 100000 in
theorem ct_9_g215 (a : zA) (b : zB) (h : ∀ q j, 153 ≤ q → a q j = 0) (hb : ∀ q j, 153 ≤ q → b q j = 0) : zr zM zprm 37 31 (137, [.ref 35, .retAddr 0, .retAddr 0, .retAddr 0, .retAddr 0, .int 105], [], zs_162, a, b) = some (none, zs_17, a, b, 18, 0, 36) := by
  refine (ct_9_s215 a b).trans ?_
  rw [zzA_z h 153 (by decide), zzB_z hb 153 (by decide)]
  have h1 : ∀ q j, 153 ≤ q → a q j = 0 := fun q j hq => h q j (by omega)
  have hb1 : ∀ q j, 153 ≤ q → b q j = 0 := fun q j hq => hb q j (by omega)
  rw [zCA_ok (ct_119 a b h1 hb1) rfl, ct_9_g216 _ b (fun q j hq => h q j (by omega)) (fun q j hq => hb q j (by omega))]
  all_goals rfl
set_option maxRecDepth 100000 in
theorem ct_9_s214 (a : zA) (b : zB) : zr zM zprm 37 31 (157, [.ref 35, .retAddr 0, .retAddr 0, .retAddr 0, .retAddr 0, .int 104], [.ref 152, .int 104, .ref 40], zs_126, a, b) = zr zM zprm 37 31 (137, [.ref 35, .retAddr 0, .retAddr 0, .retAddr 0, .retAddr 0, .int 105], [], zs_162, a, b) := (zr_run (mi := zm_37) rfl 400 _).trans rfl
set_option maxRecDepth 100000 in
theorem ct_9_g214 (a : zA) (b : zB) (h : ∀ q j, 153 ≤ q → a q j = 0) (hb : ∀ q j, 153 ≤ q → b q j = 0) : zr zM zprm 37 31 (157, [.ref 35, .retAddr 0, .retAddr 0, .retAddr 0, .retAddr 0, .int 104], [.ref 152, .int 104, .ref 40], zs_126, a, b) = some (none, zs_17, a, b, 18, 0, 36) := by
  refine (ct_9_s214 a b).trans ?_
  rw [ct_9_g215 a b (fun q j hq => h q j (by omega)) (fun q j hq => hb q j (by omega))]
  all_goals rfl
set_option maxRecDepth 100000 in
theorem ct_9_s213 (a : zA) (b : zB) : zr zM zprm 37 31 (137, [.ref 35, .retAddr 0, .retAddr 0, .retAddr 0, .retAddr 0, .int 104], [], zs_163, a, b) = zCNT 2 (zCA zM (zr zM zprm) 26 [.ref 152] zs_126 (zzA a 152) (zzB b 152) (fun sh a b => zr zM zprm 37 31 (157, [.ref 35, .retAddr 0, .retAddr 0, .retAddr 0, .retAddr 0, .int 104], [.ref 152, .int 104, .ref 40], sh, a, b))) := (zr_run (mi := zm_37) rfl 400 _).trans rfl
set_option maxRecDepth 100000 in
theorem ct_9_g213 (a : zA) (b : zB) (h : ∀ q j, 152 ≤ q → a q j = 0) (hb : ∀ q j, 152 ≤ q → b q j = 0) : zr zM zprm 37 31 (137, [.ref 35, .retAddr 0, .retAddr 0, .retAddr 0, .retAddr 0, .int 104], [], zs_163, a, b) = some (none, zs_17, a, b, 19, 0, 38) := by
  refine (ct_9_s213 a b).trans ?_
  rw [zzA_z h 152 (by decide), zzB_z hb 152 (by decide)]
  have h1 : ∀ q j, 152 ≤ q → a q j = 0 := fun q j hq => h q j (by omega)
  have hb1 : ∀ q j, 152 ≤ q → b q j = 0 := fun q j hq => hb q j (by omega)
  rw [zCA_ok (ct_118 a b h1 hb1) rfl, ct_9_g214 _ b (fun q j hq => h q j (by omega)) (fun q j hq => hb q j (by omega))]
  all_goals rfl
set_option maxRecDepth 100000 in
theorem ct_9_s212 (a : zA) (b : zB) : zr zM zprm 37 31 (157, [.ref 35, .retAddr 0, .retAddr 0, .retAddr 0, .retAddr 0, .int 103], [.ref 151, .int 103, .ref 40], zs_125, a, b) = zr zM zprm 37 31 (137, [.ref 35, .retAddr 0, .retAddr 0, .retAddr 0, .retAddr 0, .int 104], [], zs_163, a, b) := (zr_run (mi := zm_37) rfl 400 _).trans rfl
set_option maxRecDepth 100000 in
theorem ct_9_g212 (a : zA) (b : zB) (h : ∀ q j, 152 ≤ q → a q j = 0) (hb : ∀ q j, 152 ≤ q → b q j = 0) : zr zM zprm 37 31 (157, [.ref 35, .retAddr 0, .retAddr 0, .retAddr 0, .retAddr 0, .int 103], [.ref 151, .int 103, .ref 40], zs_125, a, b) = some (none, zs_17, a, b, 19, 0, 38) := by
  refine (ct_9_s212 a b).trans ?_
  rw [ct_9_g213 a b (fun q j hq => h q j (by omega)) (fun q j hq => hb q j (by omega))]
  all_goals rfl
set_option maxRecDepth 100000 in
theorem ct_9_s211 (a : zA) (b : zB) : zr zM zprm 37 31 (137, [.ref 35, .retAddr 0, .retAddr 0, .retAddr 0, .retAddr 0, .int 103], [], zs_164, a, b) = zCNT 2 (zCA zM (zr zM zprm) 26 [.ref 151] zs_125 (zzA a 151) (zzB b 151) (fun sh a b => zr zM zprm 37 31 (157, [.ref 35, .retAddr 0, .retAddr 0, .retAddr 0, .retAddr 0, .int 103], [.ref 151, .int 103, .ref 40], sh, a, b))) := (zr_run (mi := zm_37) rfl 400 _).trans rfl
set_option maxRecDepth 100000 in
theorem ct_9_g211 (a : zA) (b : zB) (h : ∀ q j, 151 ≤ q → a q j = 0) (hb : ∀ q j, 151 ≤ q → b q j = 0) : zr zM zprm 37 31 (137, [.ref 35, .retAddr 0, .retAddr 0, .retAddr 0, .retAddr 0, .int 103], [], zs_164, a, b) = some (none, zs_17, a, b, 20, 0, 40) := by
  refine (ct_9_s211 a b).trans ?_
  rw [zzA_z h 151 (by decide), zzB_z hb 151 (by decide)]
  have h1 : ∀ q j, 151 ≤ q → a q j = 0 := fun q j hq => h q j (by omega)
  have hb1 : ∀ q j, 151 ≤ q → b q j = 0 := fun q j hq => hb q j (by omega)
  rw [zCA_ok (ct_117 a b h1 hb1) rfl, ct_9_g212 _ b (fun q j hq => h q j (by omega)) (fun q j hq => hb q j (by omega))]
  all_goals rfl
set_option maxRecDepth 100000 in
theorem ct_9_s210 (a : zA) (b : zB) : zr zM zprm 37 31 (157, [.ref 35, .retAddr 0, .retAddr 0, .retAddr 0, .retAddr 0, .int 102], [.ref 150, .int 102, .ref 40], zs_124, a, b) = zr zM zprm 37 31 (137, [.ref 35, .retAddr 0, .retAddr 0, .retAddr 0, .retAddr 0, .int 103], [], zs_164, a, b) := (zr_run (mi := zm_37) rfl 400 _).trans rfl
set_option maxRecDepth 100000 in
theorem ct_9_g210 (a : zA) (b : zB) (h : ∀ q j, 151 ≤ q → a q j = 0) (hb : ∀ q j, 151 ≤ q → b q j = 0) : zr zM zprm 37 31 (157, [.ref 35, .retAddr 0, .retAddr 0, .retAddr 0, .retAddr 0, .int 102], [.ref 150, .int 102, .ref 40], zs_124, a, b) = some (none, zs_17, a, b, 20, 0, 40) := by
  refine (ct_9_s210 a b).trans ?_
  rw [ct_9_g211 a b (fun q j hq => h q j (by omega)) (fun q j hq => hb q j (by omega))]
  all_goals rfl
set_option maxRecDepth 100000 in
theorem ct_9_s209 (a : zA) (b : zB) : zr zM zprm 37 31 (137, [.ref 35, .retAddr 0, .retAddr 0, .retAddr 0, .retAddr 0, .int 102], [], zs_165, a, b) = zCNT 2 (zCA zM (zr zM zprm) 26 [.ref 150] zs_124 (zzA a 150) (zzB b 150) (fun sh a b => zr zM zprm 37 31 (157, [.ref 35, .retAddr 0, .retAddr 0, .retAddr 0, .retAddr 0, .int 102], [.ref 150, .int 102, .ref 40], sh, a, b))) := (zr_run (mi := zm_37) rfl 400 _).trans rfl
set_option maxRecDepth 100000 in
theorem ct_9_g209 (a : zA) (b : zB) (h : ∀ q j, 150 ≤ q → a q j = 0) (hb : ∀ q j, 150 ≤ q → b q j = 0) : zr zM zprm 37 31 (137, [.ref 35, .retAddr 0, .retAddr 0, .retAddr 0, .retAddr 0, .int 102], [], zs_165, a, b) = some (none, zs_17, a, b, 21, 0, 42) := by
  refine (ct_9_s209 a b).trans ?_
  rw [zzA_z h 150 (by decide), zzB_z hb 150 (by decide)]
  have h1 : ∀ q j, 150 ≤ q → a q j = 0 := fun q j hq => h q j (by omega)
  have hb1 : ∀ q j, 150 ≤ q → b q j = 0 := fun q j hq => hb q j (by omega)
  rw [zCA_ok (ct_116 a b h1 hb1) rfl, ct_9_g210 _ b (fun q j hq => h q j (by omega)) (fun q j hq => hb q j (by omega))]
  all_goals rfl
set_option maxRecDepth 100000 in
theorem ct_9_s208 (a : zA) (b : zB) : zr zM zprm 37 31 (157, [.ref 35, .retAddr 0, .retAddr 0, .retAddr 0, .retAddr 0, .int 101], [.ref 149, .int 101, .ref 40], zs_123, a, b) = zr zM zprm 37 31 (137, [.ref 35, .retAddr 0, .retAddr 0, .retAddr 0, .retAddr 0, .int 102], [], zs_165, a, b) := (zr_run (mi := zm_37) rfl 400 _).trans rfl
set_option maxRecDepth 100000 in
theorem ct_9_g208 (a : zA) (b : zB) (h : ∀ q j, 150 ≤ q → a q j = 0) (hb : ∀ q j, 150 ≤ q → b q j = 0) : zr zM zprm 37 31 (157, [.ref 35, .retAddr 0, .retAddr 0, .retAddr 0, .retAddr 0, .int 101], [.ref 149, .int 101, .ref 40], zs_123, a, b) = some (none, zs_17, a, b, 21, 0, 42) := by
  refine (ct_9_s208 a b).trans ?_
  rw [ct_9_g209 a b (fun q j hq => h q j (by omega)) (fun q j hq => hb q j (by omega))]
  all_goals rfl
set_option maxRecDepth 100000 in
theorem ct_9_s207 (a : zA) (b : zB) : zr zM zprm 37 31 (137, [.ref 35, .retAddr 0, .retAddr 0, .retAddr 0, .retAddr 0, .int 101], [], zs_166, a, b) = zCNT 2 (zCA zM (zr zM zprm) 26 [.ref 149] zs_123 (zzA a 149) (zzB b 149) (fun sh a b => zr zM zprm 37 31 (157, [.ref 35, .retAddr 0, .retAddr 0, .retAddr 0, .retAddr 0, .int 101], [.ref 149, .int 101, .ref 40], sh, a, b))) := (zr_run (mi := zm_37) rfl 400 _).trans rfl
set_option maxRecDepth 100000 in
theorem ct_9_g207 (a : zA) (b : zB) (h : ∀ q j, 149 ≤ q → a q j = 0) (hb : ∀ q j, 149 ≤ q → b q j = 0) : zr zM zprm 37 31 (137, [.ref 35, .retAddr 0, .retAddr 0, .retAddr 0, .retAddr 0, .int 101], [], zs_166, a, b) = some (none, zs_17, a, b, 22, 0, 44) := by
  refine (ct_9_s207 a b).trans ?_
  rw [zzA_z h 149 (by decide), zzB_z hb 149 (by decide)]
  have h1 : ∀ q j, 149 ≤ q → a q j = 0 := fun q j hq => h q j (by omega)
  have hb1 : ∀ q j, 149 ≤ q → b q j = 0 := fun q j hq => hb q j (by omega)
  rw [zCA_ok (ct_115 a b h1 hb1) rfl, ct_9_g208 _ b (fun q j hq => h q j (by omega)) (fun q j hq => hb q j (by omega))]
  all_goals rfl
set_option maxRecDepth 100000 in
theorem ct_9_s206 (a : zA) (b : zB) : zr zM zprm 37 31 (157, [.ref 35, .retAddr 0, .retAddr 0, .retAddr 0, .retAddr 0, .int 100], [.ref 148, .int 100, .ref 40], zs_122, a, b) = zr zM zprm 37 31 (137, [.ref 35, .retAddr 0, .retAddr 0, .retAddr 0, .retAddr 0, .int 101], [], zs_166, a, b) := (zr_run (mi := zm_37) rfl 400 _).trans rfl
set_option maxRecDepth 100000 in
theorem ct_9_g206 (a : zA) (b : zB) (h : ∀ q j, 149 ≤ q → a q j = 0) (hb : ∀ q j, 149 ≤ q → b q j = 0) : zr zM zprm 37 31 (157, [.ref 35, .retAddr 0, .retAddr 0, .retAddr 0, .retAddr 0, .int 100], [.ref 148, .int 100, .ref 40], zs_122, a, b) = some (none, zs_17, a, b, 22, 0, 44) := by
  refine (ct_9_s206 a b).trans ?_
  rw [ct_9_g207 a b (fun q j hq => h q j (by omega)) (fun q j hq => hb q j (by omega))]
  all_goals rfl
set_option maxRecDepth 100000 in
theorem ct_9_s205 (a : zA) (b : zB) : zr zM zprm 37 31 (137, [.ref 35, .retAddr 0, .retAddr 0, .retAddr 0, .retAddr 0, .int 100], [], zs_167, a, b) = zCNT 2 (zCA zM (zr zM zprm) 26 [.ref 148] zs_122 (zzA a 148) (zzB b 148) (fun sh a b => zr zM zprm 37 31 (157, [.ref 35, .retAddr 0, .retAddr 0, .retAddr 0, .retAddr 0, .int 100], [.ref 148, .int 100, .ref 40], sh, a, b))) := (zr_run (mi := zm_37) rfl 400 _).trans rfl
set_option maxRecDepth 100000 in
theorem ct_9_g205 (a : zA) (b : zB) (h : ∀ q j, 148 ≤ q → a q j = 0) (hb : ∀ q j, 148 ≤ q → b q j = 0) : zr zM zprm 37 31 (137, [.ref 35, .retAddr 0, .retAddr 0, .retAddr 0, .retAddr 0, .int 100], [], zs_167, a, b) = some (none, zs_17, a, b, 23, 0, 46) := by
  refine (ct_9_s205 a b).trans ?_
  rw [zzA_z h 148 (by decide), zzB_z hb 148 (by decide)]
  have h1 : ∀ q j, 148 ≤ q → a q j = 0 := fun q j hq => h q j (by omega)
  have hb1 : ∀ q j, 148 ≤ q → b q j = 0 := fun q j hq => hb q j (by omega)
  rw [zCA_ok (ct_114 a b h1 hb1) rfl, ct_9_g206 _ b (fun q j hq => h q j (by omega)) (fun q j hq => hb q j (by omega))]
  all_goals rfl
set_option maxRecDepth 100000 in
theorem ct_9_s204 (a : zA) (b : zB) : zr zM zprm 37 31 (157, [.ref 35, .retAddr 0, .retAddr 0, .retAddr 0, .retAddr 0, .int 99], [.ref 147, .int 99, .ref 40], zs_121, a, b) = zr zM zprm 37 31 (137, [.ref 35, .retAddr 0, .retAddr 0, .retAddr 0, .retAddr 0, .int 100], [], zs_167, a, b) := (zr_run (mi := zm_37) rfl 400 _).trans rfl
set_option maxRecDepth 100000 in
theorem ct_9_g204 (a : zA) (b : zB) (h : ∀ q j, 148 ≤ q → a q j = 0) (hb : ∀ q j, 148 ≤ q → b q j = 0) : zr zM zprm 37 31 (157, [.ref 35, .retAddr 0, .retAddr 0, .retAddr 0, .retAddr 0, .int 99], [.ref 147, .int 99, .ref 40], zs_121, a, b) = some (none, zs_17, a, b, 23, 0, 46) := by
  refine (ct_9_s204 a b).trans ?_
  rw [ct_9_g205 a b (fun q j hq => h q j (by omega)) (fun q j hq => hb q j (by omega))]
  all_goals rfl
set_option maxRecDepth 100000 in
theorem ct_9_s203 (a : zA) (b : zB) : zr zM zprm 37 31 (137, [.ref 35, .retAddr 0, .retAddr 0, .retAddr 0, .retAddr 0, .int 99], [], zs_168, a, b) = zCNT 2 (zCA zM (zr zM zprm) 26 [.ref 147] zs_121 (zzA a 147) (zzB b 147) (fun sh a b => zr zM zprm 37 31 (157, [.ref 35, .retAddr 0, .retAddr 0, .retAddr 0, .retAddr 0, .int 99], [.ref 147, .int 99, .ref 40], sh, a, b))) := (zr_run (mi := zm_37) rfl 400 _).trans rfl
set_option maxRecDepth 100000 in
theorem ct_9_g203 (a : zA) (b : zB) (h : ∀ q j, 147 ≤ q → a q j = 0) (hb : ∀ q j, 147 ≤ q → b q j = 0) : zr zM zprm 37 31 (137, [.ref 35, .retAddr 0, .retAddr 0, .retAddr 0, .retAddr 0, .int 99], [], zs_168, a, b) = some (none, zs_17, a, b, 24, 0, 48) := by
  refine (ct_9_s203 a b).trans ?_
  rw [zzA_z h 147 (by decide), zzB_z hb 147 (by decide)]
  have h1 : ∀ q j, 147 ≤ q → a q j = 0 := fun q j hq => h q j (by omega)
  have hb1 : ∀ q j, 147 ≤ q → b q j = 0 := fun q j hq => hb q j (by omega)
  rw [zCA_ok (ct_113 a b h1 hb1) rfl, ct_9_g204 _ b (fun q j hq => h q j (by omega)) (fun q j hq => hb q j (by omega))]
  all_goals rfl
set_option maxRecDepth 100000 in
theorem ct_9_s202 (a : zA) (b : zB) : zr zM zprm 37 31 (157, [.ref 35, .retAddr 0, .retAddr 0, .retAddr 0, .retAddr 0, .int 98], [.ref 146, .int 98, .ref 40], zs_120, a, b) = zr zM zprm 37 31 (137, [.ref 35, .retAddr 0, .retAddr 0, .retAddr 0, .retAddr 0, .int 99], [], zs_168, a, b) := (zr_run (mi := zm_37) rfl 400 _).trans rfl
set_option maxRecDepth 100000 in
theorem ct_9_g202 (a : zA) (b : zB) (h : ∀ q j, 147 ≤ q → a q j = 0) (hb : ∀ q j, 147 ≤ q → b q j = 0) : zr zM zprm 37 31 (157, [.ref 35, .retAddr 0, .retAddr 0, .retAddr 0, .retAddr 0, .int 98], [.ref 146, .int 98, .ref 40], zs_120, a, b) = some (none, zs_17, a, b, 24, 0, 48) := by
  refine (ct_9_s202 a b).trans ?_
  rw [ct_9_g203 a b (fun q j hq => h q j (by omega)) (fun q j hq => hb q j (by omega))]
  all_goals rfl
set_option maxRecDepth 100000 in
theorem ct_9_s201 (a : zA) (b : zB) : zr zM zprm 37 31 (137, [.ref 35, .retAddr 0, .retAddr 0, .retAddr 0, .retAddr 0, .int 98], [], zs_169, a, b) = zCNT 2 (zCA zM (zr zM zprm) 26 [.ref 146] zs_120 (zzA a 146) (zzB b 146) (fun sh a b => zr zM zprm 37 31 (157, [.ref 35, .retAddr 0, .retAddr 0, .retAddr 0, .retAddr 0, .int 98], [.ref 146, .int 98, .ref 40], sh, a, b))) := (zr_run (mi := zm_37) rfl 400 _).trans rfl
set_option maxRecDepth 100000 in
theorem ct_9_g201 (a : zA) (b : zB) (h : ∀ q j, 146 ≤ q → a q j = 0) (hb : ∀ q j, 146 ≤ q → b q j = 0) : zr zM zprm 37 31 (137, [.ref 35, .retAddr 0, .retAddr 0, .retAddr 0, .retAddr 0, .int 98], [], zs_169, a, b) = some (none, zs_17, a, b, 25, 0, 50) := by
  refine (ct_9_s201 a b).trans ?_
  rw [zzA_z h 146 (by decide), zzB_z hb 146 (by decide)]
  have h1 : ∀ q j, 146 ≤ q → a q j = 0 := fun q j hq => h q j (by omega)
  have hb1 : ∀ q j, 146 ≤ q → b q j = 0 := fun q j hq => hb q j (by omega)
  rw [zCA_ok (ct_112 a b h1 hb1) rfl, ct_9_g202 _ b (fun q j hq => h q j (by omega)) (fun q j hq => hb q j (by omega))]
  all_goals rfl
set_option maxRecDepth 100000 in
theorem ct_9_s200 (a : zA) (b : zB) : zr zM zprm 37 31 (157, [.ref 35, .retAddr 0, .retAddr 0, .retAddr 0, .retAddr 0, .int 97], [.ref 145, .int 97, .ref 40], zs_119, a, b) = zr zM zprm 37 31 (137, [.ref 35, .retAddr 0, .retAddr 0, .retAddr 0, .retAddr 0, .int 98], [], zs_169, a, b) := (zr_run (mi := zm_37) rfl 400 _).trans rfl
set_option maxRecDepth 100000 in
theorem ct_9_g200 (a : zA) (b : zB) (h : ∀ q j, 146 ≤ q → a q j = 0) (hb : ∀ q j, 146 ≤ q → b q j = 0) : zr zM zprm 37 31 (157, [.ref 35, .retAddr 0, .retAddr 0, .retAddr 0, .retAddr 0, .int 97], [.ref 145, .int 97, .ref 40], zs_119, a, b) = some (none, zs_17, a, b, 25, 0, 50) := by
  refine (ct_9_s200 a b).trans ?_
  rw [ct_9_g201 a b (fun q j hq => h q j (by omega)) (fun q j hq => hb q j (by omega))]
  all_goals rfl
set_option maxRecDepth 100000 in
theorem ct_9_s199 (a : zA) (b : zB) : zr zM zprm 37 31 (137, [.ref 35, .retAddr 0, .retAddr 0, .retAddr 0, .retAddr 0, .int 97], [], zs_170, a, b) = zCNT 2 (zCA zM (zr zM zprm) 26 [.ref 145] zs_119 (zzA a 145) (zzB b 145) (fun sh a b => zr zM zprm 37 31 (157, [.ref 35, .retAddr 0, .retAddr 0, .retAddr 0, .retAddr 0, .int 97], [.ref 145, .int 97, .ref 40], sh, a, b))) := (zr_run (mi := zm_37) rfl 400 _).trans rfl
set_option maxRecDepth 100000 in
theorem ct_9_g199 (a : zA) (b : zB) (h : ∀ q j, 145 ≤ q → a q j = 0) (hb : ∀ q j, 145 ≤ q → b q j = 0) : zr zM zprm 37 31 (137, [.ref 35, .retAddr 0, .retAddr 0, .retAddr 0, .retAddr 0, .int 97], [], zs_170, a, b) = some (none, zs_17, a, b, 26, 0, 52) := by
  refine (ct_9_s199 a b).trans ?_
  rw [zzA_z h 145 (by decide), zzB_z hb 145 (by decide)]
  have h1 : ∀ q j, 145 ≤ q → a q j = 0 := fun q j hq => h q j (by omega)
  have hb1 : ∀ q j, 145 ≤ q → b q j = 0 := fun q j hq => hb q j (by omega)
  rw [zCA_ok (ct_111 a b h1 hb1) rfl, ct_9_g200 _ b (fun q j hq => h q j (by omega)) (fun q j hq => hb q j (by omega))]
  all_goals rfl
set_option maxRecDepth 100000 in
theorem ct_9_s198 (a : zA) (b : zB) : zr zM zprm 37 31 (157, [.ref 35, .retAddr 0, .retAddr 0, .retAddr 0, .retAddr 0, .int 96], [.ref 144, .int 96, .ref 40], zs_118, a, b) = zr zM zprm 37 31 (137, [.ref 35, .retAddr 0, .retAddr 0, .retAddr 0, .retAddr 0, .int 97], [], zs_170, a, b) := (zr_run (mi := zm_37) rfl 400 _).trans rfl
set_option maxRecDepth 100000 in
theorem ct_9_g198 (a : zA) (b : zB) (h : ∀ q j, 145 ≤ q → a q j = 0) (hb : ∀ q j, 145 ≤ q → b q j = 0) : zr zM zprm 37 31 (157, [.ref 35, .retAddr 0, .retAddr 0, .retAddr 0, .retAddr 0, .int 96], [.ref 144, .int 96, .ref 40], zs_118, a, b) = some (none, zs_17, a, b, 26, 0, 52) := by
  refine (ct_9_s198 a b).trans ?_
  rw [ct_9_g199 a b (fun q j hq => h q j (by omega)) (fun q j hq => hb q j (by omega))]
  all_goals rfl
set_option maxRecDepth 100000 in
theorem ct_9_s197 (a : zA) (b : zB) : zr zM zprm 37 31 (137, [.ref 35, .retAddr 0, .retAddr 0, .retAddr 0, .retAddr 0, .int 96], [], zs_171, a, b) = zCNT 2 (zCA zM (zr zM zprm) 26 [.ref 144] zs_118 (zzA a 144) (zzB b 144) (fun sh a b => zr zM zprm 37 31 (157, [.ref 35, .retAddr 0, .retAddr 0, .retAddr 0, .retAddr 0, .int 96], [.ref 144, .int 96, .ref 40], sh, a, b))) := (zr_run (mi := zm_37) rfl 400 _).trans rfl
set_option maxRecDepth 100000 in
theorem ct_9_g197 (a : zA) (b : zB) (h : ∀ q j, 144 ≤ q → a q j = 0) (hb : ∀ q j, 144 ≤ q → b q j = 0) : zr zM zprm 37 31 (137, [.ref 35, .retAddr 0, .retAddr 0, .retAddr 0, .retAddr 0, .int 96], [], zs_171, a, b) = some (none, zs_17, a, b, 27, 0, 54) := by
  refine (ct_9_s197 a b).trans ?_
  rw [zzA_z h 144 (by decide), zzB_z hb 144 (by decide)]
  have h1 : ∀ q j, 144 ≤ q → a q j = 0 := fun q j hq => h q j (by omega)
  have hb1 : ∀ q j, 144 ≤ q → b q j = 0 := fun q j hq => hb q j (by omega)
  rw [zCA_ok (ct_110 a b h1 hb1) rfl, ct_9_g198 _ b (fun q j hq => h q j (by omega)) (fun q j hq => hb q j (by omega))]
  all_goals rfl
set_option maxRecDepth 100000 in
theorem ct_9_s196 (a : zA) (b : zB) : zr zM zprm 37 31 (157, [.ref 35, .retAddr 0, .retAddr 0, .retAddr 0, .retAddr 0, .int 95], [.ref 143, .int 95, .ref 40], zs_117, a, b) = zr zM zprm 37 31 (137, [.ref 35, .retAddr 0, .retAddr 0, .retAddr 0, .retAddr 0, .int 96], [], zs_171, a, b) := (zr_run (mi := zm_37) rfl 400 _).trans rfl
set_option maxRecDepth 100000 in
theorem ct_9_g196 (a : zA) (b : zB) (h : ∀ q j, 144 ≤ q → a q j = 0) (hb : ∀ q j, 144 ≤ q → b q j = 0) : zr zM zprm 37 31 (157, [.ref 35, .retAddr 0, .retAddr 0, .retAddr 0, .retAddr 0, .int 95], [.ref 143, .int 95, .ref 40], zs_117, a, b) = some (none, zs_17, a, b, 27, 0, 54) := by
  refine (ct_9_s196 a b).trans ?_
  rw [ct_9_g197 a b (fun q j hq => h q j (by omega)) (fun q j hq => hb q j (by omega))]
  all_goals rfl
set_option maxRecDepth 100000 in
theorem ct_9_s195 (a : zA) (b : zB) : zr zM zprm 37 31 (137, [.ref 35, .retAddr 0, .retAddr 0, .retAddr 0, .retAddr 0, .int 95], [], zs_172, a, b) = zCNT 2 (zCA zM (zr zM zprm) 26 [.ref 143] zs_117 (zzA a 143) (zzB b 143) (fun sh a b => zr zM zprm 37 31 (157, [.ref 35, .retAddr 0, .retAddr 0, .retAddr 0, .retAddr 0, .int 95], [.ref 143, .int 95, .ref 40], sh, a, b))) := (zr_run (mi := zm_37) rfl 400 _).trans rfl
set_option maxRecDepth 100000 in
theorem ct_9_g195 (a : zA) (b : zB) (h : ∀ q j, 143 ≤ q → a q j = 0) (hb : ∀ q j, 143 ≤ q → b q j = 0) : zr zM zprm 37 31 (137, [.ref 35, .retAddr 0, .retAddr 0, .retAddr 0, .retAddr 0, .int 95], [], zs_172, a, b) = some (none, zs_17, a, b, 28, 0, 56) := by
  refine (ct_9_s195 a b).trans ?_
  rw [zzA_z h 143 (by decide), zzB_z hb 143 (by decide)]
  have h1 : ∀ q j, 143 ≤ q → a q j = 0 := fun q j hq => h q j (by omega)
  have hb1 : ∀ q j, 143 ≤ q → b q j = 0 := fun q j hq => hb q j (by omega)
  rw [zCA_ok (ct_109 a b h1 hb1) rfl, ct_9_g196 _ b (fun q j hq => h q j (by omega)) (fun q j hq => hb q j (by omega))]
  all_goals rfl
set_option maxRecDepth 100000 in
theorem ct_9_s194 (a : zA) (b : zB) : zr zM zprm 37 31 (157, [.ref 35, .retAddr 0, .retAddr 0, .retAddr 0, .retAddr 0, .int 94], [.ref 142, .int 94, .ref 40], zs_116, a, b) = zr zM zprm 37 31 (137, [.ref 35, .retAddr 0, .retAddr 0, .retAddr 0, .retAddr 0, .int 95], [], zs_172, a, b) := (zr_run (mi := zm_37) rfl 400 _).trans rfl
set_option maxRecDepth 100000 in
theorem ct_9_g194 (a : zA) (b : zB) (h : ∀ q j, 143 ≤ q → a q j = 0) (hb : ∀ q j, 143 ≤ q → b q j = 0) : zr zM zprm 37 31 (157, [.ref 35, .retAddr 0, .retAddr 0, .retAddr 0, .retAddr 0, .int 94], [.ref 142, .int 94, .ref 40], zs_116, a, b) = some (none, zs_17, a, b, 28, 0, 56) := by
  refine (ct_9_s194 a b).trans ?_
  rw [ct_9_g195 a b (fun q j hq => h q j (by omega)) (fun q j hq => hb q j (by omega))]
  all_goals rfl
set_option maxRecDepth 100000 in
theorem ct_9_s193 (a : zA) (b : zB) : zr zM zprm 37 31 (137, [.ref 35, .retAddr 0, .retAddr 0, .retAddr 0, .retAddr 0, .int 94], [], zs_173, a, b) = zCNT 2 (zCA zM (zr zM zprm) 26 [.ref 142] zs_116 (zzA a 142) (zzB b 142) (fun sh a b => zr zM zprm 37 31 (157, [.ref 35, .retAddr 0, .retAddr 0, .retAddr 0, .retAddr 0, .int 94], [.ref 142, .int 94, .ref 40], sh, a, b))) := (zr_run (mi := zm_37) rfl 400 _).trans rfl
set_option maxRecDepth 100000 in
theorem ct_9_g193 (a : zA) (b : zB) (h : ∀ q j, 142 ≤ q → a q j = 0) (hb : ∀ q j, 142 ≤ q → b q j = 0) : zr zM zprm 37 31 (137, [.ref 35, .retAddr 0, .retAddr 0, .retAddr 0, .retAddr 0, .int 94], [], zs_173, a, b) = some (none, zs_17, a, b, 29, 0, 58) := by
  refine (ct_9_s193 a b).trans ?_
  rw [zzA_z h 142 (by decide), zzB_z hb 142 (by decide)]
  have h1 : ∀ q j, 142 ≤ q → a q j = 0 := fun q j hq => h q j (by omega)
  have hb1 : ∀ q j, 142 ≤ q → b q j = 0 := fun q j hq => hb q j (by omega)
  rw [zCA_ok (ct_108 a b h1 hb1) rfl, ct_9_g194 _ b (fun q j hq => h q j (by omega)) (fun q j hq => hb q j (by omega))]
  all_goals rfl
set_option maxRecDepth 100000 in
theorem ct_9_s192 (a : zA) (b : zB) : zr zM zprm 37 31 (157, [.ref 35, .retAddr 0, .retAddr 0, .retAddr 0, .retAddr 0, .int 93], [.ref 141, .int 93, .ref 40], zs_115, a, b) = zr zM zprm 37 31 (137, [.ref 35, .retAddr 0, .retAddr 0, .retAddr 0, .retAddr 0, .int 94], [], zs_173, a, b) := (zr_run (mi := zm_37) rfl 400 _).trans rfl
set_option maxRecDepth 100000 in
theorem ct_9_g192 (a : zA) (b : zB) (h : ∀ q j, 142 ≤ q → a q j = 0) (hb : ∀ q j, 142 ≤ q → b q j = 0) : zr zM zprm 37 31 (157, [.ref 35, .retAddr 0, .retAddr 0, .retAddr 0, .retAddr 0, .int 93], [.ref 141, .int 93, .ref 40], zs_115, a, b) = some (none, zs_17, a, b, 29, 0, 58) := by
  refine (ct_9_s192 a b).trans ?_
  rw [ct_9_g193 a b (fun q j hq => h q j (by omega)) (fun q j hq => hb q j (by omega))]
  all_goals rfl
set_option maxRecDepth 100000 in
theorem ct_9_s191 (a : zA) (b : zB) : zr zM zprm 37 31 (137, [.ref 35, .retAddr 0, .retAddr 0, .retAddr 0, .retAddr 0, .int 93], [], zs_174, a, b) = zCNT 2 (zCA zM (zr zM zprm) 26 [.ref 141] zs_115 (zzA a 141) (zzB b 141) (fun sh a b => zr zM zprm 37 31 (157, [.ref 35, .retAddr 0, .retAddr 0, .retAddr 0, .retAddr 0, .int 93], [.ref 141, .int 93, .ref 40], sh, a, b))) := (zr_run (mi := zm_37) rfl 400 _).trans rfl
set_option maxRecDepth 100000 in
theorem ct_9_g191 (a : zA) (b : zB) (h : ∀ q j, 141 ≤ q → a q j = 0) (hb : ∀ q j, 141 ≤ q → b q j = 0) : zr zM zprm 37 31 (137, [.ref 35, .retAddr 0, .retAddr 0, .retAddr 0, .retAddr 0, .int 93], [], zs_174, a, b) = some (none, zs_17, a, b, 30, 0, 60) := by
  refine (ct_9_s191 a b).trans ?_
  rw [zzA_z h 141 (by decide), zzB_z hb 141 (by decide)]
  have h1 : ∀ q j, 141 ≤ q → a q j = 0 := fun q j hq => h q j (by omega)
  have hb1 : ∀ q j, 141 ≤ q → b q j = 0 := fun q j hq => hb q j (by omega)
  rw [zCA_ok (ct_107 a b h1 hb1) rfl, ct_9_g192 _ b (fun q j hq => h q j (by omega)) (fun q j hq => hb q j (by omega))]
  all_goals rfl
set_option maxRecDepth 100000 in
theorem ct_9_s190 (a : zA) (b : zB) : zr zM zprm 37 31 (157, [.ref 35, .retAddr 0, .retAddr 0, .retAddr 0, .retAddr 0, .int 92], [.ref 140, .int 92, .ref 40], zs_114, a, b) = zr zM zprm 37 31 (137, [.ref 35, .retAddr 0, .retAddr 0, .retAddr 0, .retAddr 0, .int 93], [], zs_174, a, b) := (zr_run (mi := zm_37) rfl 400 _).trans rfl
set_option maxRecDepth 100000 in
theorem ct_9_g190 (a : zA) (b : zB) (h : ∀ q j, 141 ≤ q → a q j = 0) (hb : ∀ q j, 141 ≤ q → b q j = 0) : zr zM zprm 37 31 (157, [.ref 35, .retAddr 0, .retAddr 0, .retAddr 0, .retAddr 0, .int 92], [.ref 140, .int 92, .ref 40], zs_114, a, b) = some (none, zs_17, a, b, 30, 0, 60) := by
  refine (ct_9_s190 a b).trans ?_
  rw [ct_9_g191 a b (fun q j hq => h q j (by omega)) (fun q j hq => hb q j (by omega))]
  all_goals rfl
set_option maxRecDepth 100000 in
theorem ct_9_s189 (a : zA) (b : zB) : zr zM zprm 37 31 (137, [.ref 35, .retAddr 0, .retAddr 0, .retAddr 0, .retAddr 0, .int 92], [], zs_175, a, b) = zCNT 2 (zCA zM (zr zM zprm) 26 [.ref 140] zs_114 (zzA a 140) (zzB b 140) (fun sh a b => zr zM zprm 37 31 (157, [.ref 35, .retAddr 0, .retAddr 0, .retAddr 0, .retAddr 0, .int 92], [.ref 140, .int 92, .ref 40], sh, a, b))) := (zr_run (mi := zm_37) rfl 400 _).trans rfl
set_option maxRecDepth 100000 in
theorem ct_9_g189 (a : zA) (b : zB) (h : ∀ q j, 140 ≤ q → a q j = 0) (hb : ∀ q j, 140 ≤ q → b q j = 0) : zr zM zprm 37 31 (137, [.ref 35, .retAddr 0, .retAddr 0, .retAddr 0, .retAddr 0, .int 92], [], zs_175, a, b) = some (none, zs_17, a, b, 31, 0, 62) := by
  refine (ct_9_s189 a b).trans ?_
  rw [zzA_z h 140 (by decide), zzB_z hb 140 (by decide)]
  have h1 : ∀ q j, 140 ≤ q → a q j = 0 := fun q j hq => h q j (by omega)
  have hb1 : ∀ q j, 140 ≤ q → b q j = 0 := fun q j hq => hb q j (by omega)
  rw [zCA_ok (ct_106 a b h1 hb1) rfl, ct_9_g190 _ b (fun q j hq => h q j (by omega)) (fun q j hq => hb q j (by omega))]
  all_goals rfl
set_option maxRecDepth 100000 in
theorem ct_9_s188 (a : zA) (b : zB) : zr zM zprm 37 31 (157, [.ref 35, .retAddr 0, .retAddr 0, .retAddr 0, .retAddr 0, .int 91], [.ref 139, .int 91, .ref 40], zs_113, a, b) = zr zM zprm 37 31 (137, [.ref 35, .retAddr 0, .retAddr 0, .retAddr 0, .retAddr 0, .int 92], [], zs_175, a, b) := (zr_run (mi := zm_37) rfl 400 _).trans rfl
set_option maxRecDepth 100000 in
theorem ct_9_g188 (a : zA) (b : zB) (h : ∀ q j, 140 ≤ q → a q j = 0) (hb : ∀ q j, 140 ≤ q → b q j = 0) : zr zM zprm 37 31 (157, [.ref 35, .retAddr 0, .retAddr 0, .retAddr 0, .retAddr 0, .int 91], [.ref 139, .int 91, .ref 40], zs_113, a, b) = some (none, zs_17, a, b, 31, 0, 62) := by
  refine (ct_9_s188 a b).trans ?_
  rw [ct_9_g189 a b (fun q j hq => h q j (by omega)) (fun q j hq => hb q j (by omega))]
  all_goals rfl
set_option maxRecDepth 100000 in
theorem ct_9_s187 (a : zA) (b : zB) : zr zM zprm 37 31 (137, [.ref 35, .retAddr 0, .retAddr 0, .retAddr 0, .retAddr 0, .int 91], [], zs_176, a, b) = zCNT 2 (zCA zM (zr zM zprm) 26 [.ref 139] zs_113 (zzA a 139) (zzB b 139) (fun sh a b => zr zM zprm 37 31 (157, [.ref 35, .retAddr 0, .retAddr 0, .retAddr 0, .retAddr 0, .int 91], [.ref 139, .int 91, .ref 40], sh, a, b))) := (zr_run (mi := zm_37) rfl 400 _).trans rfl
set_option maxRecDepth 100000 in
theorem ct_9_g187 (a : zA) (b : zB) (h : ∀ q j, 139 ≤ q → a q j = 0) (hb : ∀ q j, 139 ≤ q → b q j = 0) : zr zM zprm 37 31 (137, [.ref 35, .retAddr 0, .retAddr 0, .retAddr 0, .retAddr 0, .int 91], [], zs_176, a, b) = some (none, zs_17, a, b, 32, 0, 64) := by
  refine (ct_9_s187 a b).trans ?_
  rw [zzA_z h 139 (by decide), zzB_z hb 139 (by decide)]
  have h1 : ∀ q j, 139 ≤ q → a q j = 0 := fun q j hq => h q j (by omega)
  have hb1 : ∀ q j, 139 ≤ q → b q j = 0 := fun q j hq => hb q j (by omega)
  rw [zCA_ok (ct_105 a b h1 hb1) rfl, ct_9_g188 _ b (fun q j hq => h q j (by omega)) (fun q j hq => hb q j (by omega))]
  all_goals rfl
set_option maxRecDepth 100000 in
theorem ct_9_s186 (a : zA) (b : zB) : zr zM zprm 37 31 (157, [.ref 35, .retAddr 0, .retAddr 0, .retAddr 0, .retAddr 0, .int 90], [.ref 138, .int 90, .ref 40], zs_112, a, b) = zr zM zprm 37 31 (137, [.ref 35, .retAddr 0, .retAddr 0, .retAddr 0, .retAddr 0, .int 91], [], zs_176, a, b) := (zr_run (mi := zm_37) rfl 400 _).trans rfl
set_option maxRecDepth 100000 in
theorem ct_9_g186 (a : zA) (b : zB) (h : ∀ q j, 139 ≤ q → a q j = 0) (hb : ∀ q j, 139 ≤ q → b q j = 0) : zr zM zprm 37 31 (157, [.ref 35, .retAddr 0, .retAddr 0, .retAddr 0, .retAddr 0, .int 90], [.ref 138, .int 90, .ref 40], zs_112, a, b) = some (none, zs_17, a, b, 32, 0, 64) := by
  refine (ct_9_s186 a b).trans ?_
  rw [ct_9_g187 a b (fun q j hq => h q j (by omega)) (fun q j hq => hb q j (by omega))]
  all_goals rfl
set_option maxRecDepth 100000 in
theorem ct_9_s185 (a : zA) (b : zB) : zr zM zprm 37 31 (137, [.ref 35, .retAddr 0, .retAddr 0, .retAddr 0, .retAddr 0, .int 90], [], zs_177, a, b) = zCNT 2 (zCA zM (zr zM zprm) 26 [.ref 138] zs_112 (zzA a 138) (zzB b 138) (fun sh a b => zr zM zprm 37 31 (157, [.ref 35, .retAddr 0, .retAddr 0, .retAddr 0, .retAddr 0, .int 90], [.ref 138, .int 90, .ref 40], sh, a, b))) := (zr_run (mi := zm_37) rfl 400 _).trans rfl
set_option maxRecDepth 100000 in
theorem ct_9_g185 (a : zA) (b : zB) (h : ∀ q j, 138 ≤ q → a q j = 0) (hb : ∀ q j, 138 ≤ q → b q j = 0) : zr zM zprm 37 31 (137, [.ref 35, .retAddr 0, .retAddr 0, .retAddr 0, .retAddr 0, .int 90], [], zs_177, a, b) = some (none, zs_17, a, b, 33, 0, 66) := by
  refine (ct_9_s185 a b).trans ?_
  rw [zzA_z h 138 (by decide), zzB_z hb 138 (by decide)]
  have h1 : ∀ q j, 138 ≤ q → a q j = 0 := fun q j hq => h q j (by omega)
  have hb1 : ∀ q j, 138 ≤ q → b q j = 0 := fun q j hq => hb q j (by omega)
  rw [zCA_ok (ct_104 a b h1 hb1) rfl, ct_9_g186 _ b (fun q j hq => h q j (by omega)) (fun q j hq => hb q j (by omega))]
  all_goals rfl
set_option maxRecDepth 100000 in
theorem ct_9_s184 (a : zA) (b : zB) : zr zM zprm 37 31 (157, [.ref 35, .retAddr 0, .retAddr 0, .retAddr 0, .retAddr 0, .int 89], [.ref 137, .int 89, .ref 40], zs_111, a, b) = zr zM zprm 37 31 (137, [.ref 35, .retAddr 0, .retAddr 0, .retAddr 0, .retAddr 0, .int 90], [], zs_177, a, b) := (zr_run (mi := zm_37) rfl 400 _).trans rfl
set_option maxRecDepth 100000 in
theorem ct_9_g184 (a : zA) (b : zB) (h : ∀ q j, 138 ≤ q → a q j = 0) (hb : ∀ q j, 138 ≤ q → b q j = 0) : zr zM zprm 37 31 (157, [.ref 35, .retAddr 0, .retAddr 0, .retAddr 0, .retAddr 0, .int 89], [.ref 137, .int 89, .ref 40], zs_111, a, b) = some (none, zs_17, a, b, 33, 0, 66) := by
  refine (ct_9_s184 a b).trans ?_
  rw [ct_9_g185 a b (fun q j hq => h q j (by omega)) (fun q j hq => hb q j (by omega))]
  all_goals rfl
set_option maxRecDepth 100000 in
theorem ct_9_s183 (a : zA) (b : zB) : zr zM zprm 37 31 (137, [.ref 35, .retAddr 0, .retAddr 0, .retAddr 0, .retAddr 0, .int 89], [], zs_178, a, b) = zCNT 2 (zCA zM (zr zM zprm) 26 [.ref 137] zs_111 (zzA a 137) (zzB b 137) (fun sh a b => zr zM zprm 37 31 (157, [.ref 35, .retAddr 0, .retAddr 0, .retAddr 0, .retAddr 0, .int 89], [.ref 137, .int 89, .ref 40], sh, a, b))) := (zr_run (mi := zm_37) rfl 400 _).trans rfl
