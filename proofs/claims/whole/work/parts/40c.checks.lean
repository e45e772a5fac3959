/-! The tables keep to it: methods 60 to 129 -/
set_option maxRecDepth 100000 in
theorem zk_60 : zchk 60 zm_60 = true := by decide +kernel
set_option maxRecDepth 100000 in
theorem zk_61 : zchk 61 zm_61 = true := by decide +kernel
set_option maxRecDepth 100000 in
theorem zk_62 : zchk 62 zm_62 = true := by decide +kernel
set_option maxRecDepth 100000 in
theorem zk_63 : zchk 63 zm_63 = true := by decide +kernel
set_option maxRecDepth 100000 in
theorem zk_64 : zchk 64 zm_64 = true := by decide +kernel
set_option maxRecDepth 100000 in
theorem zk_65 : zchk 65 zm_65 = true := by decide +kernel
set_option maxRecDepth 100000 in
theorem zk_66 : zchk 66 zm_66 = true := by decide +kernel
set_option maxRecDepth 100000 in
theorem zk_67 : zchk 67 zm_67 = true := by decide +kernel
set_option maxRecDepth 100000 in
theorem zk_68 : zchk 68 zm_68 = true := by decide +kernel
set_option maxRecDepth 100000 in
theorem zk_69 : zchk 69 zm_69 = true := by decide +kernel
set_option maxRecDepth 100000 in
theorem zk_70 : zchk 70 zm_70 = true := by decide +kernel
set_option maxRecDepth 100000 in
theorem zk_71 : zchk 71 zm_71 = true := by decide +kernel
set_option maxRecDepth 100000 in
theorem zk_72 : zchk 72 zm_72 = true := by decide +kernel
set_option maxRecDepth 100000 in
theorem zk_73 : zchk 73 zm_73 = true := by decide +kernel
set_option maxRecDepth 100000 in
theorem zk_74 : zchk 74 zm_74 = true := by decide +kernel
set_option maxRecDepth 100000 in
theorem zk_75 : zchk 75 zm_75 = true := by decide +kernel
set_option maxRecDepth 100000 in
theorem zk_76 : zchk 76 zm_76 = true := by decide +kernel
set_option maxRecDepth 100000 in
theorem zk_77 : zchk 77 zm_77 = true := by decide +kernel
set_option maxRecDepth 100000 in
theorem zk_78 : zchk 78 zm_78 = true := by decide +kernel
set_option maxRecDepth 100000 in
theorem zk_79 : zchk 79 zm_79 = true := by decide +kernel
set_option maxRecDepth 100000 in
theorem zk_80 : zchk 80 zm_80 = true := by decide +kernel
set_option maxRecDepth 100000 in
theorem zk_81 : zchk 81 zm_81 = true := by decide +kernel
set_option maxRecDepth 100000 in
theorem zk_82 : zchk 82 zm_82 = true := by decide +kernel
set_option maxRecDepth 100000 in
theorem zk_83 : zchk 83 zm_83 = true := by decide +kernel
set_option maxRecDepth 100000 in
theorem zk_84 : zchk 84 zm_84 = true := by decide +kernel
set_option maxRecDepth 100000 in
theorem zk_85 : zchk 85 zm_85 = true := by decide +kernel
set_option maxRecDepth 100000 in
theorem zk_86 : zchk 86 zm_86 = true := by decide +kernel
set_option maxRecDepth 100000 in
theorem zk_87 : zchk 87 zm_87 = true := by decide +kernel
set_option maxRecDepth 100000 in
theorem zk_88 : zchk 88 zm_88 = true := by decide +kernel
set_option maxRecDepth 100000 in
theorem zk_89 : zchk 89 zm_89 = true := by decide +kernel
set_option maxRecDepth 100000 in
theorem zk_90 : zchk 90 zm_90 = true := by decide +kernel
set_option maxRecDepth 100000 in
theorem zk_91 : zchk 91 zm_91 = true := by decide +kernel
set_option maxRecDepth 100000 in
theorem zk_92 : zchk 92 zm_92 = true := by decide +kernel
set_option maxRecDepth 100000 in
theorem zk_93 : zchk 93 zm_93 = true := by decide +kernel
set_option maxRecDepth 100000 in
theorem zk_94 : zchk 94 zm_94 = true := by decide +kernel
set_option maxRecDepth 100000 in
theorem zk_95 : zchk 95 zm_95 = true := by decide +kernel
set_option maxRecDepth 100000 in
theorem zk_96 : zchk 96 zm_96 = true := by decide +kernel
set_option maxRecDepth 100000 in
theorem zk_97 : zchk 97 zm_97 = true := by decide +kernel
set_option maxRecDepth 100000 in
theorem zk_98 : zchk 98 zm_98 = true := by decide +kernel
set_option maxRecDepth 100000 in
theorem zk_99 : zchk 99 zm_99 = true := by decide +kernel
set_option maxRecDepth 100000 in
theorem zk_100 : zchk 100 zm_100 = true := by decide +kernel
set_option maxRecDepth 100000 in
theorem zk_101 : zchk 101 zm_101 = true := by decide +kernel
set_option maxRecDepth 100000 in
theorem zk_102 : zchk 102 zm_102 = true := by decide +kernel
set_option maxRecDepth 100000 in
theorem zk_103 : zchk 103 zm_103 = true := by decide +kernel
set_option maxRecDepth 100000 in
theorem zk_104 : zchk 104 zm_104 = true := by decide +kernel
set_option maxRecDepth 100000 in
theorem zk_105 : zchk 105 zm_105 = true := by decide +kernel
set_option maxRecDepth 100000 in
theorem zk_106 : zchk 106 zm_106 = true := by decide +kernel
set_option maxRecDepth 100000 in
theorem zk_107 : zchk 107 zm_107 = true := by decide +kernel
set_option maxRecDepth 100000 in
theorem zk_108 : zchk 108 zm_108 = true := by decide +kernel
set_option maxRecDepth 100000 in
theorem zk_109 : zchk 109 zm_109 = true := by decide +kernel
set_option maxRecDepth 100000 in
theorem zk_110 : zchk 110 zm_110 = true := by decide +kernel
set_option maxRecDepth 100000 in
theorem zk_111 : zchk 111 zm_111 = true := by decide +kernel
set_option maxRecDepth 100000 in
theorem zk_112 : zchk 112 zm_112 = true := by decide +kernel
set_option maxRecDepth 100000 in
theorem zk_113 : zchk 113 zm_113 = true := by decide +kernel
set_option maxRecDepth 100000 in
theorem zk_114 : zchk 114 zm_114 = true := by decide +kernel
set_option maxRecDepth 100000 in
theorem zk_115 : zchk 115 zm_115 = true := by decide +kernel
set_option maxRecDepth 100000 in
theorem zk_116 : zchk 116 zm_116 = true := by decide +kernel
set_option maxRecDepth 100000 in
theorem zk_117 : zchk 117 zm_117 = true := by decide +kernel
set_option maxRecDepth 100000 in
theorem zk_118 : zchk 118 zm_118 = true := by decide +kernel
set_option maxRecDepth 100000 in
theorem zk_119 : zchk 119 zm_119 = true := by decide +kernel
set_option maxRecDepth 100000 in
theorem zk_120 : zchk 120 zm_120 = true := by decide +kernel
set_option maxRecDepth 100000 in
theorem zk_121 : zchk 121 zm_121 = true := by decide +kernel
set_option maxRecDepth 100000 in
theorem zk_122 : zchk 122 zm_122 = true := by decide +kernel
set_option maxRecDepth 100000 in
theorem zk_123 : zchk 123 zm_123 = true := by decide +kernel
set_option maxRecDepth 100000 in
theorem zk_124 : zchk 124 zm_124 = true := by decide +kernel
set_option maxRecDepth 100000 in
theorem zk_125 : zchk 125 zm_125 = true := by decide +kernel
set_option maxRecDepth 100000 in
theorem zk_126 : zchk 126 zm_126 = true := by decide +kernel
set_option maxRecDepth 100000 in
theorem zk_127 : zchk 127 zm_127 = true := by decide +kernel
set_option maxRecDepth 100000 in
theorem zk_128 : zchk 128 zm_128 = true := by decide +kernel
set_option maxRecDepth 100000 in
theorem zk_129 : zchk 129 zm_129 = true := by decide +kernel
