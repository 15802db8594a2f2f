set_option maxRecDepth 100000 in
theorem wy_0 : WY 0 := ⟨rfl, rfl, rfl, fun h => absurd h (by decide)⟩
set_option maxRecDepth 100000 in
theorem wy_1 : WY 1 := ⟨rfl, rfl, rfl, fun h => rfl⟩
set_option maxRecDepth 100000 in
theorem wy_2 : WY 2 := ⟨rfl, rfl, rfl, fun h => rfl⟩
set_option maxRecDepth 100000 in
theorem wy_3 : WY 3 := ⟨rfl, rfl, rfl, fun h => rfl⟩
set_option maxRecDepth 100000 in
theorem wy_4 : WY 4 := ⟨rfl, rfl, rfl, fun h => rfl⟩
set_option maxRecDepth 100000 in
theorem wy_5 : WY 5 := ⟨rfl, rfl, rfl, fun h => absurd h (by decide)⟩
set_option maxRecDepth 100000 in
theorem wy_6 : WY 6 := ⟨rfl, rfl, rfl, fun h => rfl⟩
set_option maxRecDepth 100000 in
theorem wy_7 : WY 7 := ⟨rfl, rfl, rfl, fun h => rfl⟩
set_option maxRecDepth 100000 in
theorem wy_8 : WY 8 := ⟨rfl, rfl, rfl, fun h => rfl⟩
set_option maxRecDepth 100000 in
theorem wy_9 : WY 9 := ⟨rfl, rfl, rfl, fun h => rfl⟩
set_option maxRecDepth 100000 in
theorem wy_10 : WY 10 := ⟨rfl, rfl, rfl, fun h => rfl⟩
set_option maxRecDepth 100000 in
theorem wy_11 : WY 11 := ⟨rfl, rfl, rfl, fun h => absurd h (by decide)⟩
set_option maxRecDepth 100000 in
theorem wy_12 : WY 12 := ⟨rfl, rfl, rfl, fun h => rfl⟩
set_option maxRecDepth 100000 in
theorem wy_13 : WY 13 := ⟨rfl, rfl, rfl, fun h => rfl⟩
set_option maxRecDepth 100000 in
theorem wy_14 : WY 14 := ⟨rfl, rfl, rfl, fun h => rfl⟩
set_option maxRecDepth 100000 in
theorem wy_15 : WY 15 := ⟨rfl, rfl, rfl, fun h => absurd h (by decide)⟩
set_option maxRecDepth 100000 in
theorem wy_16 : WY 16 := ⟨rfl, rfl, rfl, fun h => rfl⟩
set_option maxRecDepth 100000 in
theorem wy_17 : WY 17 := ⟨rfl, rfl, rfl, fun h => absurd h (by decide)⟩
set_option maxRecDepth 100000 in
theorem wy_18 : WY 18 := ⟨rfl, rfl, rfl, fun h => rfl⟩
set_option maxRecDepth 100000 in
theorem wy_19 : WY 19 := ⟨rfl, rfl, rfl, fun h => rfl⟩
set_option maxRecDepth 100000 in
theorem wy_20 : WY 20 := ⟨rfl, rfl, rfl, fun h => rfl⟩
set_option maxRecDepth 100000 in
theorem wy_21 : WY 21 := ⟨rfl, rfl, rfl, fun h => rfl⟩
set_option maxRecDepth 100000 in
theorem wy_22 : WY 22 := ⟨rfl, rfl, rfl, fun h => absurd h (by decide)⟩
set_option maxRecDepth 100000 in
theorem wy_23 : WY 23 := ⟨rfl, rfl, rfl, fun h => rfl⟩
set_option maxRecDepth 100000 in
theorem wy_24 : WY 24 := ⟨rfl, rfl, rfl, fun h => rfl⟩
set_option maxRecDepth 100000 in
theorem wy_25 : WY 25 := ⟨rfl, rfl, rfl, fun h => rfl⟩
set_option maxRecDepth 100000 in
theorem wy_26 : WY 26 := ⟨rfl, rfl, rfl, fun h => rfl⟩
set_option maxRecDepth 100000 in
theorem wy_27 : WY 27 := ⟨rfl, rfl, rfl, fun h => rfl⟩
set_option maxRecDepth 100000 in
theorem wy_28 : WY 28 := ⟨rfl, rfl, rfl, fun h => rfl⟩
set_option maxRecDepth 100000 in
theorem wy_29 : WY 29 := ⟨rfl, rfl, rfl, fun h => absurd h (by decide)⟩
set_option maxRecDepth 100000 in
theorem wy_30 : WY 30 := ⟨rfl, rfl, rfl, fun h => rfl⟩
set_option maxRecDepth 100000 in
theorem wy_31 : WY 31 := ⟨rfl, rfl, rfl, fun h => rfl⟩
set_option maxRecDepth 100000 in
theorem wy_32 : WY 32 := ⟨rfl, rfl, rfl, fun h => rfl⟩
set_option maxRecDepth 100000 in
theorem wy_33 : WY 33 := ⟨rfl, rfl, rfl, fun h => rfl⟩
set_option maxRecDepth 100000 in
theorem wy_34 : WY 34 := ⟨rfl, rfl, rfl, fun h => rfl⟩
set_option maxRecDepth 100000 in
theorem wy_35 : WY 35 := ⟨rfl, rfl, rfl, fun h => rfl⟩
set_option maxRecDepth 100000 in
theorem wy_36 : WY 36 := ⟨rfl, rfl, rfl, fun h => rfl⟩
set_option maxRecDepth 100000 in
theorem wy_37 : WY 37 := ⟨rfl, rfl, rfl, fun h => rfl⟩
set_option maxRecDepth 100000 in
theorem wy_38 : WY 38 := ⟨rfl, rfl, rfl, fun h => rfl⟩
set_option maxRecDepth 100000 in
theorem wy_39 : WY 39 := ⟨rfl, rfl, rfl, fun h => rfl⟩
set_option maxRecDepth 100000 in
theorem wy_40 : WY 40 := ⟨rfl, rfl, rfl, fun h => rfl⟩
set_option maxRecDepth 100000 in
theorem wy_41 : WY 41 := ⟨rfl, rfl, rfl, fun h => rfl⟩
set_option maxRecDepth 100000 in
theorem wy_42 : WY 42 := ⟨rfl, rfl, rfl, fun h => rfl⟩
set_option maxRecDepth 100000 in
theorem wy_43 : WY 43 := ⟨rfl, rfl, rfl, fun h => rfl⟩
set_option maxRecDepth 100000 in
theorem wy_44 : WY 44 := ⟨rfl, rfl, rfl, fun h => rfl⟩
set_option maxRecDepth 100000 in
theorem wy_45 : WY 45 := ⟨rfl, rfl, rfl, fun h => rfl⟩
set_option maxRecDepth 100000 in
theorem wy_46 : WY 46 := ⟨rfl, rfl, rfl, fun h => rfl⟩
set_option maxRecDepth 100000 in
theorem wy_47 : WY 47 := ⟨rfl, rfl, rfl, fun h => rfl⟩
set_option maxRecDepth 100000 in
theorem wy_48 : WY 48 := ⟨rfl, rfl, rfl, fun h => rfl⟩
set_option maxRecDepth 100000 in
theorem wy_49 : WY 49 := ⟨rfl, rfl, rfl, fun h => rfl⟩
set_option maxRecDepth 100000 in
theorem wy_50 : WY 50 := ⟨rfl, rfl, rfl, fun h => rfl⟩
set_option maxRecDepth 100000 in
theorem wy_51 : WY 51 := ⟨rfl, rfl, rfl, fun h => rfl⟩
set_option maxRecDepth 100000 in
theorem wy_52 : WY 52 := ⟨rfl, rfl, rfl, fun h => rfl⟩
set_option maxRecDepth 100000 in
theorem wy_53 : WY 53 := ⟨rfl, rfl, rfl, fun h => rfl⟩
set_option maxRecDepth 100000 in
theorem wy_54 : WY 54 := ⟨rfl, rfl, rfl, fun h => absurd h (by decide)⟩
set_option maxRecDepth 100000 in
theorem wy_55 : WY 55 := ⟨rfl, rfl, rfl, fun h => rfl⟩
set_option maxRecDepth 100000 in
theorem wy_56 : WY 56 := ⟨rfl, rfl, rfl, fun h => rfl⟩
set_option maxRecDepth 100000 in
theorem wy_57 : WY 57 := ⟨rfl, rfl, rfl, fun h => rfl⟩
set_option maxRecDepth 100000 in
theorem wy_58 : WY 58 := ⟨rfl, rfl, rfl, fun h => rfl⟩
set_option maxRecDepth 100000 in
theorem wy_59 : WY 59 := ⟨rfl, rfl, rfl, fun h => rfl⟩
set_option maxRecDepth 100000 in
theorem wy_60 : WY 60 := ⟨rfl, rfl, rfl, fun h => rfl⟩
set_option maxRecDepth 100000 in
theorem wy_61 : WY 61 := ⟨rfl, rfl, rfl, fun h => rfl⟩
set_option maxRecDepth 100000 in
theorem wy_62 : WY 62 := ⟨rfl, rfl, rfl, fun h => rfl⟩
set_option maxRecDepth 100000 in
theorem wy_63 : WY 63 := ⟨rfl, rfl, rfl, fun h => rfl⟩
set_option maxRecDepth 100000 in
theorem wy_64 : WY 64 := ⟨rfl, rfl, rfl, fun h => rfl⟩
set_option maxRecDepth 100000 in
theorem wy_65 : WY 65 := ⟨rfl, rfl, rfl, fun h => rfl⟩
set_option maxRecDepth 100000 in
theorem wy_66 : WY 66 := ⟨rfl, rfl, rfl, fun h => rfl⟩
set_option maxRecDepth 100000 in
theorem wy_67 : WY 67 := ⟨rfl, rfl, rfl, fun h => rfl⟩
set_option maxRecDepth 100000 in
theorem wy_68 : WY 68 := ⟨rfl, rfl, rfl, fun h => rfl⟩
set_option maxRecDepth 100000 in
theorem wy_69 : WY 69 := ⟨rfl, rfl, rfl, fun h => rfl⟩
set_option maxRecDepth 100000 in
theorem wy_70 : WY 70 := ⟨rfl, rfl, rfl, fun h => rfl⟩
set_option maxRecDepth 100000 in
theorem wy_71 : WY 71 := ⟨rfl, rfl, rfl, fun h => rfl⟩
set_option maxRecDepth 100000 in
theorem wy_72 : WY 72 := ⟨rfl, rfl, rfl, fun h => rfl⟩
set_option maxRecDepth 100000 in
theorem wy_73 : WY 73 := ⟨rfl, rfl, rfl, fun h => rfl⟩
set_option maxRecDepth 100000 in
theorem wy_74 : WY 74 := ⟨rfl, rfl, rfl, fun h => rfl⟩
set_option maxRecDepth 100000 in
theorem wy_75 : WY 75 := ⟨rfl, rfl, rfl, fun h => rfl⟩
set_option maxRecDepth 100000 in
theorem wy_76 : WY 76 := ⟨rfl, rfl, rfl, fun h => rfl⟩
set_option maxRecDepth 100000 in
theorem wy_77 : WY 77 := ⟨rfl, rfl, rfl, fun h => rfl⟩
set_option maxRecDepth 100000 in
theorem wy_78 : WY 78 := ⟨rfl, rfl, rfl, fun h => rfl⟩
set_option maxRecDepth 100000 in
theorem wy_79 : WY 79 := ⟨rfl, rfl, rfl, fun h => rfl⟩
set_option maxRecDepth 100000 in
theorem wy_80 : WY 80 := ⟨rfl, rfl, rfl, fun h => absurd h (by decide)⟩
set_option maxRecDepth 100000 in
theorem wy_81 : WY 81 := ⟨rfl, rfl, rfl, fun h => absurd h (by decide)⟩
set_option maxRecDepth 100000 in
theorem wy_82 : WY 82 := ⟨rfl, rfl, rfl, fun h => rfl⟩
set_option maxRecDepth 100000 in
theorem wy_83 : WY 83 := ⟨rfl, rfl, rfl, fun h => rfl⟩
set_option maxRecDepth 100000 in
theorem wy_84 : WY 84 := ⟨rfl, rfl, rfl, fun h => rfl⟩
set_option maxRecDepth 100000 in
theorem wy_85 : WY 85 := ⟨rfl, rfl, rfl, fun h => rfl⟩
set_option maxRecDepth 100000 in
theorem wy_86 : WY 86 := ⟨rfl, rfl, rfl, fun h => rfl⟩
set_option maxRecDepth 100000 in
theorem wy_87 : WY 87 := ⟨rfl, rfl, rfl, fun h => rfl⟩
set_option maxRecDepth 100000 in
theorem wy_88 : WY 88 := ⟨rfl, rfl, rfl, fun h => rfl⟩
set_option maxRecDepth 100000 in
theorem wy_89 : WY 89 := ⟨rfl, rfl, rfl, fun h => rfl⟩
set_option maxRecDepth 100000 in
theorem wy_90 : WY 90 := ⟨rfl, rfl, rfl, fun h => rfl⟩
set_option maxRecDepth 100000 in
theorem wy_91 : WY 91 := ⟨rfl, rfl, rfl, fun h => rfl⟩
set_option maxRecDepth 100000 in
theorem wy_92 : WY 92 := ⟨rfl, rfl, rfl, fun h => rfl⟩
set_option maxRecDepth 100000 in
theorem wy_93 : WY 93 := ⟨rfl, rfl, rfl, fun h => rfl⟩
set_option maxRecDepth 100000 in
theorem wy_94 : WY 94 := ⟨rfl, rfl, rfl, fun h => rfl⟩
set_option maxRecDepth 100000 in
theorem wy_95 : WY 95 := ⟨rfl, rfl, rfl, fun h => rfl⟩
set_option maxRecDepth 100000 in
theorem wy_96 : WY 96 := ⟨rfl, rfl, rfl, fun h => rfl⟩
set_option maxRecDepth 100000 in
theorem wy_97 : WY 97 := ⟨rfl, rfl, rfl, fun h => rfl⟩
set_option maxRecDepth 100000 in
theorem wy_98 : WY 98 := ⟨rfl, rfl, rfl, fun h => rfl⟩
set_option maxRecDepth 100000 in
theorem wy_99 : WY 99 := ⟨rfl, rfl, rfl, fun h => rfl⟩
set_option maxRecDepth 100000 in
theorem wy_100 : WY 100 := ⟨rfl, rfl, rfl, fun h => rfl⟩
set_option maxRecDepth 100000 in
theorem wy_101 : WY 101 := ⟨rfl, rfl, rfl, fun h => absurd h (by decide)⟩
set_option maxRecDepth 100000 in
theorem wy_102 : WY 102 := ⟨rfl, rfl, rfl, fun h => absurd h (by decide)⟩
set_option maxRecDepth 100000 in
theorem wy_103 : WY 103 := ⟨rfl, rfl, rfl, fun h => absurd h (by decide)⟩
set_option maxRecDepth 100000 in
theorem wy_104 : WY 104 := ⟨rfl, rfl, rfl, fun h => absurd h (by decide)⟩
set_option maxRecDepth 100000 in
theorem wy_105 : WY 105 := ⟨rfl, rfl, rfl, fun h => absurd h (by decide)⟩
set_option maxRecDepth 100000 in
theorem wy_106 : WY 106 := ⟨rfl, rfl, rfl, fun h => rfl⟩
set_option maxRecDepth 100000 in
theorem wy_107 : WY 107 := ⟨rfl, rfl, rfl, fun h => rfl⟩
set_option maxRecDepth 100000 in
theorem wy_108 : WY 108 := ⟨rfl, rfl, rfl, fun h => rfl⟩
set_option maxRecDepth 100000 in
theorem wy_109 : WY 109 := ⟨rfl, rfl, rfl, fun h => rfl⟩
set_option maxRecDepth 100000 in
theorem wy_110 : WY 110 := ⟨rfl, rfl, rfl, fun h => rfl⟩
set_option maxRecDepth 100000 in
theorem wy_111 : WY 111 := ⟨rfl, rfl, rfl, fun h => rfl⟩
set_option maxRecDepth 100000 in
theorem wy_112 : WY 112 := ⟨rfl, rfl, rfl, fun h => rfl⟩
set_option maxRecDepth 100000 in
theorem wy_113 : WY 113 := ⟨rfl, rfl, rfl, fun h => rfl⟩
set_option maxRecDepth 100000 in
theorem wy_114 : WY 114 := ⟨rfl, rfl, rfl, fun h => rfl⟩
set_option maxRecDepth 100000 in
theorem wy_115 : WY 115 := ⟨rfl, rfl, rfl, fun h => rfl⟩
set_option maxRecDepth 100000 in
theorem wy_116 : WY 116 := ⟨rfl, rfl, rfl, fun h => rfl⟩
set_option maxRecDepth 100000 in
theorem wy_117 : WY 117 := ⟨rfl, rfl, rfl, fun h => rfl⟩
set_option maxRecDepth 100000 in
theorem wy_118 : WY 118 := ⟨rfl, rfl, rfl, fun h => rfl⟩
set_option maxRecDepth 100000 in
theorem wy_119 : WY 119 := ⟨rfl, rfl, rfl, fun h => rfl⟩
set_option maxRecDepth 100000 in
theorem wy_120 : WY 120 := ⟨rfl, rfl, rfl, fun h => rfl⟩
set_option maxRecDepth 100000 in
theorem wy_121 : WY 121 := ⟨rfl, rfl, rfl, fun h => rfl⟩
set_option maxRecDepth 100000 in
theorem wy_122 : WY 122 := ⟨rfl, rfl, rfl, fun h => rfl⟩
set_option maxRecDepth 100000 in
theorem wy_123 : WY 123 := ⟨rfl, rfl, rfl, fun h => rfl⟩
set_option maxRecDepth 100000 in
theorem wy_124 : WY 124 := ⟨rfl, rfl, rfl, fun h => rfl⟩
set_option maxRecDepth 100000 in
theorem wy_125 : WY 125 := ⟨rfl, rfl, rfl, fun h => rfl⟩
set_option maxRecDepth 100000 in
theorem wy_126 : WY 126 := ⟨rfl, rfl, rfl, fun h => rfl⟩
set_option maxRecDepth 100000 in
theorem wy_127 : WY 127 := ⟨rfl, rfl, rfl, fun h => rfl⟩
set_option maxRecDepth 100000 in
theorem wy_128 : WY 128 := ⟨rfl, rfl, rfl, fun h => rfl⟩
set_option maxRecDepth 100000 in
theorem wy_129 : WY 129 := ⟨rfl, rfl, rfl, fun h => rfl⟩
set_option maxRecDepth 100000 in
theorem wy_130 : WY 130 := ⟨rfl, rfl, rfl, fun h => rfl⟩
set_option maxRecDepth 100000 in
theorem wy_131 : WY 131 := ⟨rfl, rfl, rfl, fun h => rfl⟩
set_option maxRecDepth 100000 in
theorem wy_132 : WY 132 := ⟨rfl, rfl, rfl, fun h => rfl⟩
set_option maxRecDepth 100000 in
theorem wy_133 : WY 133 := ⟨rfl, rfl, rfl, fun h => rfl⟩
set_option maxRecDepth 100000 in
theorem wy_134 : WY 134 := ⟨rfl, rfl, rfl, fun h => rfl⟩
set_option maxRecDepth 100000 in
theorem wy_135 : WY 135 := ⟨rfl, rfl, rfl, fun h => rfl⟩
set_option maxRecDepth 100000 in
theorem wy_136 : WY 136 := ⟨rfl, rfl, rfl, fun h => rfl⟩
set_option maxRecDepth 100000 in
theorem wy_137 : WY 137 := ⟨rfl, rfl, rfl, fun h => rfl⟩
set_option maxRecDepth 100000 in
theorem wy_138 : WY 138 := ⟨rfl, rfl, rfl, fun h => rfl⟩
set_option maxRecDepth 100000 in
theorem wy_139 : WY 139 := ⟨rfl, rfl, rfl, fun h => rfl⟩
set_option maxRecDepth 100000 in
theorem wy_140 : WY 140 := ⟨rfl, rfl, rfl, fun h => rfl⟩
set_option maxRecDepth 100000 in
theorem wy_141 : WY 141 := ⟨rfl, rfl, rfl, fun h => rfl⟩
set_option maxRecDepth 100000 in
theorem wy_142 : WY 142 := ⟨rfl, rfl, rfl, fun h => rfl⟩
set_option maxRecDepth 100000 in
theorem wy_143 : WY 143 := ⟨rfl, rfl, rfl, fun h => rfl⟩
set_option maxRecDepth 100000 in
theorem wy_144 : WY 144 := ⟨rfl, rfl, rfl, fun h => rfl⟩
set_option maxRecDepth 100000 in
theorem wy_145 : WY 145 := ⟨rfl, rfl, rfl, fun h => rfl⟩
set_option maxRecDepth 100000 in
theorem wy_146 : WY 146 := ⟨rfl, rfl, rfl, fun h => rfl⟩
set_option maxRecDepth 100000 in
theorem wy_147 : WY 147 := ⟨rfl, rfl, rfl, fun h => rfl⟩
set_option maxRecDepth 100000 in
theorem wy_148 : WY 148 := ⟨rfl, rfl, rfl, fun h => rfl⟩
set_option maxRecDepth 100000 in
theorem wy_149 : WY 149 := ⟨rfl, rfl, rfl, fun h => rfl⟩
set_option maxRecDepth 100000 in
theorem wy_150 : WY 150 := ⟨rfl, rfl, rfl, fun h => rfl⟩
set_option maxRecDepth 100000 in
theorem wy_151 : WY 151 := ⟨rfl, rfl, rfl, fun h => rfl⟩
set_option maxRecDepth 100000 in
theorem wy_152 : WY 152 := ⟨rfl, rfl, rfl, fun h => rfl⟩
set_option maxRecDepth 100000 in
theorem wy_153 : WY 153 := ⟨rfl, rfl, rfl, fun h => rfl⟩
set_option maxRecDepth 100000 in
theorem wy_154 : WY 154 := ⟨rfl, rfl, rfl, fun h => rfl⟩
set_option maxRecDepth 100000 in
theorem wy_155 : WY 155 := ⟨rfl, rfl, rfl, fun h => rfl⟩
set_option maxRecDepth 100000 in
theorem wy_156 : WY 156 := ⟨rfl, rfl, rfl, fun h => rfl⟩
set_option maxRecDepth 100000 in
theorem wy_157 : WY 157 := ⟨rfl, rfl, rfl, fun h => rfl⟩
set_option maxRecDepth 100000 in
theorem wy_158 : WY 158 := ⟨rfl, rfl, rfl, fun h => rfl⟩
set_option maxRecDepth 100000 in
theorem wy_159 : WY 159 := ⟨rfl, rfl, rfl, fun h => rfl⟩
set_option maxRecDepth 100000 in
theorem wy_160 : WY 160 := ⟨rfl, rfl, rfl, fun h => rfl⟩
set_option maxRecDepth 100000 in
theorem wy_161 : WY 161 := ⟨rfl, rfl, rfl, fun h => rfl⟩
set_option maxRecDepth 100000 in
theorem wy_162 : WY 162 := ⟨rfl, rfl, rfl, fun h => rfl⟩
set_option maxRecDepth 100000 in
theorem wy_163 : WY 163 := ⟨rfl, rfl, rfl, fun h => rfl⟩
set_option maxRecDepth 100000 in
theorem wy_164 : WY 164 := ⟨rfl, rfl, rfl, fun h => rfl⟩
set_option maxRecDepth 100000 in
theorem wy_165 : WY 165 := ⟨rfl, rfl, rfl, fun h => rfl⟩
set_option maxRecDepth 100000 in
theorem wy_166 : WY 166 := ⟨rfl, rfl, rfl, fun h => rfl⟩
set_option maxRecDepth 100000 in
theorem wy_167 : WY 167 := ⟨rfl, rfl, rfl, fun h => rfl⟩
set_option maxRecDepth 100000 in
theorem wy_168 : WY 168 := ⟨rfl, rfl, rfl, fun h => rfl⟩
set_option maxRecDepth 100000 in
theorem wy_169 : WY 169 := ⟨rfl, rfl, rfl, fun h => rfl⟩
set_option maxRecDepth 100000 in
theorem wy_170 : WY 170 := ⟨rfl, rfl, rfl, fun h => rfl⟩
set_option maxRecDepth 100000 in
theorem wy_171 : WY 171 := ⟨rfl, rfl, rfl, fun h => rfl⟩
set_option maxRecDepth 100000 in
theorem wy_172 : WY 172 := ⟨rfl, rfl, rfl, fun h => rfl⟩
set_option maxRecDepth 100000 in
theorem wy_173 : WY 173 := ⟨rfl, rfl, rfl, fun h => rfl⟩
set_option maxRecDepth 100000 in
theorem wy_174 : WY 174 := ⟨rfl, rfl, rfl, fun h => rfl⟩
set_option maxRecDepth 100000 in
theorem wy_175 : WY 175 := ⟨rfl, rfl, rfl, fun h => rfl⟩
set_option maxRecDepth 100000 in
theorem wy_176 : WY 176 := ⟨rfl, rfl, rfl, fun h => rfl⟩
set_option maxRecDepth 100000 in
theorem wy_177 : WY 177 := ⟨rfl, rfl, rfl, fun h => rfl⟩
set_option maxRecDepth 100000 in
theorem wy_178 : WY 178 := ⟨rfl, rfl, rfl, fun h => rfl⟩
set_option maxRecDepth 100000 in
theorem wy_179 : WY 179 := ⟨rfl, rfl, rfl, fun h => rfl⟩
set_option maxRecDepth 100000 in
theorem wy_180 : WY 180 := ⟨rfl, rfl, rfl, fun h => rfl⟩
set_option maxRecDepth 100000 in
theorem wy_181 : WY 181 := ⟨rfl, rfl, rfl, fun h => rfl⟩
set_option maxRecDepth 100000 in
theorem wy_182 : WY 182 := ⟨rfl, rfl, rfl, fun h => rfl⟩
set_option maxRecDepth 100000 in
theorem wy_183 : WY 183 := ⟨rfl, rfl, rfl, fun h => rfl⟩
set_option maxRecDepth 100000 in
theorem wy_184 : WY 184 := ⟨rfl, rfl, rfl, fun h => rfl⟩
set_option maxRecDepth 100000 in
theorem wy_185 : WY 185 := ⟨rfl, rfl, rfl, fun h => rfl⟩
set_option maxRecDepth 100000 in
theorem wy_186 : WY 186 := ⟨rfl, rfl, rfl, fun h => rfl⟩
set_option maxRecDepth 100000 in
theorem wy_187 : WY 187 := ⟨rfl, rfl, rfl, fun h => rfl⟩
set_option maxRecDepth 100000 in
theorem wy_188 : WY 188 := ⟨rfl, rfl, rfl, fun h => rfl⟩
set_option maxRecDepth 100000 in
theorem wy_189 : WY 189 := ⟨rfl, rfl, rfl, fun h => rfl⟩
set_option maxRecDepth 100000 in
theorem wy_190 : WY 190 := ⟨rfl, rfl, rfl, fun h => rfl⟩
set_option maxRecDepth 100000 in
theorem wy_191 : WY 191 := ⟨rfl, rfl, rfl, fun h => rfl⟩
set_option maxRecDepth 100000 in
theorem wy_192 : WY 192 := ⟨rfl, rfl, rfl, fun h => rfl⟩
set_option maxRecDepth 100000 in
theorem wy_193 : WY 193 := ⟨rfl, rfl, rfl, fun h => rfl⟩
set_option maxRecDepth 100000 in
theorem wy_194 : WY 194 := ⟨rfl, rfl, rfl, fun h => rfl⟩
set_option maxRecDepth 100000 in
theorem wy_195 : WY 195 := ⟨rfl, rfl, rfl, fun h => rfl⟩
set_option maxRecDepth 100000 in
theorem wy_196 : WY 196 := ⟨rfl, rfl, rfl, fun h => rfl⟩
set_option maxRecDepth 100000 in
theorem wy_197 : WY 197 := ⟨rfl, rfl, rfl, fun h => rfl⟩
set_option maxRecDepth 100000 in
theorem wy_198 : WY 198 := ⟨rfl, rfl, rfl, fun h => rfl⟩
set_option maxRecDepth 100000 in
theorem wy_199 : WY 199 := ⟨rfl, rfl, rfl, fun h => rfl⟩
set_option maxRecDepth 100000 in
theorem wy_200 : WY 200 := ⟨rfl, rfl, rfl, fun h => rfl⟩
set_option maxRecDepth 100000 in
theorem wy_201 : WY 201 := ⟨rfl, rfl, rfl, fun h => rfl⟩
set_option maxRecDepth 100000 in
theorem wy_202 : WY 202 := ⟨rfl, rfl, rfl, fun h => rfl⟩
set_option maxRecDepth 100000 in
theorem wy_203 : WY 203 := ⟨rfl, rfl, rfl, fun h => rfl⟩
set_option maxRecDepth 100000 in
theorem wy_204 : WY 204 := ⟨rfl, rfl, rfl, fun h => rfl⟩
set_option maxRecDepth 100000 in
theorem wy_205 : WY 205 := ⟨rfl, rfl, rfl, fun h => rfl⟩
set_option maxRecDepth 100000 in
theorem wy_207 : WY 207 := ⟨rfl, rfl, rfl, fun h => rfl⟩
set_option maxRecDepth 100000 in
theorem wy_208 : WY 208 := ⟨rfl, rfl, rfl, fun h => rfl⟩
set_option maxRecDepth 100000 in
theorem wy_209 : WY 209 := ⟨rfl, rfl, rfl, fun h => rfl⟩
set_option maxRecDepth 100000 in
theorem wy_210 : WY 210 := ⟨rfl, rfl, rfl, fun h => rfl⟩
set_option maxRecDepth 100000 in
theorem wy_211 : WY 211 := ⟨rfl, rfl, rfl, fun h => rfl⟩
set_option maxRecDepth 100000 in
theorem wy_212 : WY 212 := ⟨rfl, rfl, rfl, fun h => rfl⟩
set_option maxRecDepth 100000 in
theorem wy_213 : WY 213 := ⟨rfl, rfl, rfl, fun h => absurd h (by decide)⟩
set_option maxRecDepth 100000 in
theorem wy_214 : WY 214 := ⟨rfl, rfl, rfl, fun h => absurd h (by decide)⟩
set_option maxRecDepth 100000 in
theorem wy_215 : WY 215 := ⟨rfl, rfl, rfl, fun h => absurd h (by decide)⟩
set_option maxRecDepth 100000 in
theorem wy_216 : WY 216 := ⟨rfl, rfl, rfl, fun h => absurd h (by decide)⟩
set_option maxRecDepth 100000 in
theorem wy_217 : WY 217 := ⟨rfl, rfl, rfl, fun h => absurd h (by decide)⟩
set_option maxRecDepth 100000 in
theorem wy_218 : WY 218 := ⟨rfl, rfl, rfl, fun h => absurd h (by decide)⟩
set_option maxRecDepth 100000 in
theorem wy_219 : WY 219 := ⟨rfl, rfl, rfl, fun h => absurd h (by decide)⟩
set_option maxRecDepth 100000 in
theorem wy_220 : WY 220 := ⟨rfl, rfl, rfl, fun h => absurd h (by decide)⟩
set_option maxRecDepth 100000 in
theorem wy_221 : WY 221 := ⟨rfl, rfl, rfl, fun h => absurd h (by decide)⟩
set_option maxRecDepth 100000 in
theorem wy_222 : WY 222 := ⟨rfl, rfl, rfl, fun h => absurd h (by decide)⟩
set_option maxRecDepth 100000 in
theorem wy_223 : WY 223 := ⟨rfl, rfl, rfl, fun h => absurd h (by decide)⟩
set_option maxRecDepth 100000 in
theorem wy_224 : WY 224 := ⟨rfl, rfl, rfl, fun h => absurd h (by decide)⟩
set_option maxRecDepth 100000 in
theorem wy_225 : WY 225 := ⟨rfl, rfl, rfl, fun h => absurd h (by decide)⟩
theorem wy_all : ∀ m, m < 226 → m ≠ 206 → WY m := fun m h h6 => match m, h, h6 with
  | 0, _, _ => wy_0
  | 1, _, _ => wy_1
  | 2, _, _ => wy_2
  | 3, _, _ => wy_3
  | 4, _, _ => wy_4
  | 5, _, _ => wy_5
  | 6, _, _ => wy_6
  | 7, _, _ => wy_7
  | 8, _, _ => wy_8
  | 9, _, _ => wy_9
  | 10, _, _ => wy_10
  | 11, _, _ => wy_11
  | 12, _, _ => wy_12
  | 13, _, _ => wy_13
  | 14, _, _ => wy_14
  | 15, _, _ => wy_15
  | 16, _, _ => wy_16
  | 17, _, _ => wy_17
  | 18, _, _ => wy_18
  | 19, _, _ => wy_19
  | 20, _, _ => wy_20
  | 21, _, _ => wy_21
  | 22, _, _ => wy_22
  | 23, _, _ => wy_23
  | 24, _, _ => wy_24
  | 25, _, _ => wy_25
  | 26, _, _ => wy_26
  | 27, _, _ => wy_27
  | 28, _, _ => wy_28
  | 29, _, _ => wy_29
  | 30, _, _ => wy_30
  | 31, _, _ => wy_31
  | 32, _, _ => wy_32
  | 33, _, _ => wy_33
  | 34, _, _ => wy_34
  | 35, _, _ => wy_35
  | 36, _, _ => wy_36
  | 37, _, _ => wy_37
  | 38, _, _ => wy_38
  | 39, _, _ => wy_39
  | 40, _, _ => wy_40
  | 41, _, _ => wy_41
  | 42, _, _ => wy_42
  | 43, _, _ => wy_43
  | 44, _, _ => wy_44
  | 45, _, _ => wy_45
  | 46, _, _ => wy_46
  | 47, _, _ => wy_47
  | 48, _, _ => wy_48
  | 49, _, _ => wy_49
  | 50, _, _ => wy_50
  | 51, _, _ => wy_51
  | 52, _, _ => wy_52
  | 53, _, _ => wy_53
  | 54, _, _ => wy_54
  | 55, _, _ => wy_55
  | 56, _, _ => wy_56
  | 57, _, _ => wy_57
  | 58, _, _ => wy_58
  | 59, _, _ => wy_59
  | 60, _, _ => wy_60
  | 61, _, _ => wy_61
  | 62, _, _ => wy_62
  | 63, _, _ => wy_63
  | 64, _, _ => wy_64
  | 65, _, _ => wy_65
  | 66, _, _ => wy_66
  | 67, _, _ => wy_67
  | 68, _, _ => wy_68
  | 69, _, _ => wy_69
  | 70, _, _ => wy_70
  | 71, _, _ => wy_71
  | 72, _, _ => wy_72
  | 73, _, _ => wy_73
  | 74, _, _ => wy_74
  | 75, _, _ => wy_75
  | 76, _, _ => wy_76
  | 77, _, _ => wy_77
  | 78, _, _ => wy_78
  | 79, _, _ => wy_79
  | 80, _, _ => wy_80
  | 81, _, _ => wy_81
  | 82, _, _ => wy_82
  | 83, _, _ => wy_83
  | 84, _, _ => wy_84
  | 85, _, _ => wy_85
  | 86, _, _ => wy_86
  | 87, _, _ => wy_87
  | 88, _, _ => wy_88
  | 89, _, _ => wy_89
  | 90, _, _ => wy_90
  | 91, _, _ => wy_91
  | 92, _, _ => wy_92
  | 93, _, _ => wy_93
  | 94, _, _ => wy_94
  | 95, _, _ => wy_95
  | 96, _, _ => wy_96
  | 97, _, _ => wy_97
  | 98, _, _ => wy_98
  | 99, _, _ => wy_99
  | 100, _, _ => wy_100
  | 101, _, _ => wy_101
  | 102, _, _ => wy_102
  | 103, _, _ => wy_103
  | 104, _, _ => wy_104
  | 105, _, _ => wy_105
  | 106, _, _ => wy_106
  | 107, _, _ => wy_107
  | 108, _, _ => wy_108
  | 109, _, _ => wy_109
  | 110, _, _ => wy_110
  | 111, _, _ => wy_111
  | 112, _, _ => wy_112
  | 113, _, _ => wy_113
  | 114, _, _ => wy_114
  | 115, _, _ => wy_115
  | 116, _, _ => wy_116
  | 117, _, _ => wy_117
  | 118, _, _ => wy_118
  | 119, _, _ => wy_119
  | 120, _, _ => wy_120
  | 121, _, _ => wy_121
  | 122, _, _ => wy_122
  | 123, _, _ => wy_123
  | 124, _, _ => wy_124
  | 125, _, _ => wy_125
  | 126, _, _ => wy_126
  | 127, _, _ => wy_127
  | 128, _, _ => wy_128
  | 129, _, _ => wy_129
  | 130, _, _ => wy_130
  | 131, _, _ => wy_131
  | 132, _, _ => wy_132
  | 133, _, _ => wy_133
  | 134, _, _ => wy_134
  | 135, _, _ => wy_135
  | 136, _, _ => wy_136
  | 137, _, _ => wy_137
  | 138, _, _ => wy_138
  | 139, _, _ => wy_139
  | 140, _, _ => wy_140
  | 141, _, _ => wy_141
  | 142, _, _ => wy_142
  | 143, _, _ => wy_143
  | 144, _, _ => wy_144
  | 145, _, _ => wy_145
  | 146, _, _ => wy_146
  | 147, _, _ => wy_147
  | 148, _, _ => wy_148
  | 149, _, _ => wy_149
  | 150, _, _ => wy_150
  | 151, _, _ => wy_151
  | 152, _, _ => wy_152
  | 153, _, _ => wy_153
  | 154, _, _ => wy_154
  | 155, _, _ => wy_155
  | 156, _, _ => wy_156
  | 157, _, _ => wy_157
  | 158, _, _ => wy_158
  | 159, _, _ => wy_159
  | 160, _, _ => wy_160
  | 161, _, _ => wy_161
  | 162, _, _ => wy_162
  | 163, _, _ => wy_163
  | 164, _, _ => wy_164
  | 165, _, _ => wy_165
  | 166, _, _ => wy_166
  | 167, _, _ => wy_167
  | 168, _, _ => wy_168
  | 169, _, _ => wy_169
  | 170, _, _ => wy_170
  | 171, _, _ => wy_171
  | 172, _, _ => wy_172
  | 173, _, _ => wy_173
  | 174, _, _ => wy_174
  | 175, _, _ => wy_175
  | 176, _, _ => wy_176
  | 177, _, _ => wy_177
  | 178, _, _ => wy_178
  | 179, _, _ => wy_179
  | 180, _, _ => wy_180
  | 181, _, _ => wy_181
  | 182, _, _ => wy_182
  | 183, _, _ => wy_183
  | 184, _, _ => wy_184
  | 185, _, _ => wy_185
  | 186, _, _ => wy_186
  | 187, _, _ => wy_187
  | 188, _, _ => wy_188
  | 189, _, _ => wy_189
  | 190, _, _ => wy_190
  | 191, _, _ => wy_191
  | 192, _, _ => wy_192
  | 193, _, _ => wy_193
  | 194, _, _ => wy_194
  | 195, _, _ => wy_195
  | 196, _, _ => wy_196
  | 197, _, _ => wy_197
  | 198, _, _ => wy_198
  | 199, _, _ => wy_199
  | 200, _, _ => wy_200
  | 201, _, _ => wy_201
  | 202, _, _ => wy_202
  | 203, _, _ => wy_203
  | 204, _, _ => wy_204
  | 205, _, _ => wy_205
  | 206, _, h6 => absurd rfl h6
  | 207, _, _ => wy_207
  | 208, _, _ => wy_208
  | 209, _, _ => wy_209
  | 210, _, _ => wy_210
  | 211, _, _ => wy_211
  | 212, _, _ => wy_212
  | 213, _, _ => wy_213
  | 214, _, _ => wy_214
  | 215, _, _ => wy_215
  | 216, _, _ => wy_216
  | 217, _, _ => wy_217
  | 218, _, _ => wy_218
  | 219, _, _ => wy_219
  | 220, _, _ => wy_220
  | 221, _, _ => wy_221
  | 222, _, _ => wy_222
  | 223, _, _ => wy_223
  | 224, _, _ => wy_224
  | 225, _, _ => wy_225
  | n + 226, h, _ => absurd h (by omega)
