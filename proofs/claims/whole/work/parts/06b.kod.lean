set_option maxRecDepth 100000 in
theorem km_75 : chM 75 = true := by decide +kernel
set_option maxRecDepth 100000 in
theorem km_76 : chM 76 = true := by decide +kernel
set_option maxRecDepth 100000 in
theorem km_77 : chM 77 = true := by decide +kernel
set_option maxRecDepth 100000 in
theorem km_78 : chM 78 = true := by decide +kernel
set_option maxRecDepth 100000 in
theorem km_79 : chM 79 = true := by decide +kernel
set_option maxRecDepth 100000 in
theorem km_80 : chM 80 = true := by decide +kernel
set_option maxRecDepth 100000 in
theorem km_81 : chM 81 = true := by decide +kernel
set_option maxRecDepth 100000 in
theorem km_82 : chM 82 = true := by decide +kernel
set_option maxRecDepth 100000 in
theorem km_83 : chM 83 = true := by decide +kernel
set_option maxRecDepth 100000 in
theorem km_84 : chM 84 = true := by decide +kernel
set_option maxRecDepth 100000 in
theorem km_85 : chM 85 = true := by decide +kernel
set_option maxRecDepth 100000 in
theorem km_86 : chM 86 = true := by decide +kernel
set_option maxRecDepth 100000 in
theorem km_87 : chM 87 = true := by decide +kernel
set_option maxRecDepth 100000 in
theorem km_88 : chM 88 = true := by decide +kernel
set_option maxRecDepth 100000 in
theorem km_89 : chM 89 = true := by decide +kernel
set_option maxRecDepth 100000 in
theorem km_90 : chM 90 = true := by decide +kernel
set_option maxRecDepth 100000 in
theorem km_91 : chM 91 = true := by decide +kernel
set_option maxRecDepth 100000 in
theorem km_92 : chM 92 = true := by decide +kernel
set_option maxRecDepth 100000 in
theorem km_93 : chM 93 = true := by decide +kernel
set_option maxRecDepth 100000 in
theorem km_94 : chM 94 = true := by decide +kernel
set_option maxRecDepth 100000 in
theorem km_95 : chM 95 = true := by decide +kernel
set_option maxRecDepth 100000 in
theorem km_96 : chM 96 = true := by decide +kernel
set_option maxRecDepth 100000 in
theorem km_97 : chM 97 = true := by decide +kernel
set_option maxRecDepth 100000 in
theorem km_98 : chM 98 = true := by decide +kernel
set_option maxRecDepth 100000 in
theorem km_99 : chM 99 = true := by decide +kernel
set_option maxRecDepth 100000 in
theorem km_100 : chM 100 = true := by decide +kernel
set_option maxRecDepth 100000 in
theorem km_101 : chM 101 = true := by decide +kernel
set_option maxRecDepth 100000 in
theorem km_102 : chM 102 = true := by decide +kernel
set_option maxRecDepth 100000 in
theorem km_103 : chM 103 = true := by decide +kernel
set_option maxRecDepth 100000 in
theorem km_104 : chM 104 = true := by decide +kernel
set_option maxRecDepth 100000 in
theorem km_105 : chM 105 = true := by decide +kernel
set_option maxRecDepth 100000 in
theorem km_106 : chM 106 = true := by decide +kernel
set_option maxRecDepth 100000 in
theorem km_107 : chM 107 = true := by decide +kernel
set_option maxRecDepth 100000 in
theorem km_108 : chM 108 = true := by decide +kernel
set_option maxRecDepth 100000 in
theorem km_109 : chM 109 = true := by decide +kernel
set_option maxRecDepth 100000 in
theorem km_110 : chM 110 = true := by decide +kernel
set_option maxRecDepth 100000 in
theorem km_111 : chM 111 = true := by decide +kernel
set_option maxRecDepth 100000 in
theorem km_112 : chM 112 = true := by decide +kernel
set_option maxRecDepth 100000 in
theorem km_113 : chM 113 = true := by decide +kernel
set_option maxRecDepth 100000 in
theorem km_114 : chM 114 = true := by decide +kernel
set_option maxRecDepth 100000 in
theorem km_115 : chM 115 = true := by decide +kernel
set_option maxRecDepth 100000 in
theorem km_116 : chM 116 = true := by decide +kernel
set_option maxRecDepth 100000 in
theorem km_117 : chM 117 = true := by decide +kernel
set_option maxRecDepth 100000 in
theorem km_118 : chM 118 = true := by decide +kernel
set_option maxRecDepth 100000 in
theorem km_119 : chM 119 = true := by decide +kernel
set_option maxRecDepth 100000 in
theorem km_120 : chM 120 = true := by decide +kernel
set_option maxRecDepth 100000 in
theorem km_121 : chM 121 = true := by decide +kernel
set_option maxRecDepth 100000 in
theorem km_122 : chM 122 = true := by decide +kernel
set_option maxRecDepth 100000 in
theorem km_123 : chM 123 = true := by decide +kernel
set_option maxRecDepth 100000 in
theorem km_124 : chM 124 = true := by decide +kernel
set_option maxRecDepth 100000 in
theorem km_125 : chM 125 = true := by decide +kernel
set_option maxRecDepth 100000 in
theorem km_126 : chM 126 = true := by decide +kernel
set_option maxRecDepth 100000 in
theorem km_127 : chM 127 = true := by decide +kernel
set_option maxRecDepth 100000 in
theorem km_128 : chM 128 = true := by decide +kernel
set_option maxRecDepth 100000 in
theorem km_129 : chM 129 = true := by decide +kernel
set_option maxRecDepth 100000 in
theorem km_130 : chM 130 = true := by decide +kernel
set_option maxRecDepth 100000 in
theorem km_131 : chM 131 = true := by decide +kernel
set_option maxRecDepth 100000 in
theorem km_132 : chM 132 = true := by decide +kernel
set_option maxRecDepth 100000 in
theorem km_133 : chM 133 = true := by decide +kernel
set_option maxRecDepth 100000 in
theorem km_134 : chM 134 = true := by decide +kernel
set_option maxRecDepth 100000 in
theorem km_135 : chM 135 = true := by decide +kernel
set_option maxRecDepth 100000 in
theorem km_136 : chM 136 = true := by decide +kernel
set_option maxRecDepth 100000 in
theorem km_137 : chM 137 = true := by decide +kernel
set_option maxRecDepth 100000 in
theorem km_138 : chM 138 = true := by decide +kernel
set_option maxRecDepth 100000 in
theorem km_139 : chM 139 = true := by decide +kernel
set_option maxRecDepth 100000 in
theorem km_140 : chM 140 = true := by decide +kernel
set_option maxRecDepth 100000 in
theorem km_141 : chM 141 = true := by decide +kernel
set_option maxRecDepth 100000 in
theorem km_142 : chM 142 = true := by decide +kernel
set_option maxRecDepth 100000 in
theorem km_143 : chM 143 = true := by decide +kernel
set_option maxRecDepth 100000 in
theorem km_144 : chM 144 = true := by decide +kernel
set_option maxRecDepth 100000 in
theorem km_145 : chM 145 = true := by decide +kernel
set_option maxRecDepth 100000 in
theorem km_146 : chM 146 = true := by decide +kernel
set_option maxRecDepth 100000 in
theorem km_147 : chM 147 = true := by decide +kernel
set_option maxRecDepth 100000 in
theorem km_148 : chM 148 = true := by decide +kernel
set_option maxRecDepth 100000 in
theorem km_149 : chM 149 = true := by decide +kernel
