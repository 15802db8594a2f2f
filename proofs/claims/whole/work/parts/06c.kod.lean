theorem blt_f {a b : Nat} (h : b ≤ a) : Nat.blt a b = false := Bool.eq_false_iff.mpr fun z => by
  rw [Nat.blt_eq] at z
  omega
def chR (m lo n : Nat) : Bool := (List.range n).all fun k => match kode m (lo + k) with | none => true | some e => chE m (lo + k) e
set_option maxRecDepth 100000 in
theorem kl_0 : chR 206 0 40 = true := by decide +kernel
set_option maxRecDepth 100000 in
theorem kl_40 : chR 206 40 40 = true := by decide +kernel
set_option maxRecDepth 100000 in
theorem kl_80 : chR 206 80 40 = true := by decide +kernel
set_option maxRecDepth 100000 in
theorem kl_120 : chR 206 120 40 = true := by decide +kernel
set_option maxRecDepth 100000 in
theorem kl_160 : chR 206 160 40 = true := by decide +kernel
set_option maxRecDepth 100000 in
theorem kl_200 : chR 206 200 40 = true := by decide +kernel
set_option maxRecDepth 100000 in
theorem kl_240 : chR 206 240 40 = true := by decide +kernel
set_option maxRecDepth 100000 in
theorem kl_280 : chR 206 280 40 = true := by decide +kernel
set_option maxRecDepth 100000 in
theorem kl_320 : chR 206 320 40 = true := by decide +kernel
set_option maxRecDepth 100000 in
theorem kl_360 : chR 206 360 40 = true := by decide +kernel
set_option maxRecDepth 100000 in
theorem kl_400 : chR 206 400 40 = true := by decide +kernel
set_option maxRecDepth 100000 in
theorem kl_440 : chR 206 440 40 = true := by decide +kernel
set_option maxRecDepth 100000 in
theorem kl_480 : chR 206 480 40 = true := by decide +kernel
set_option maxRecDepth 100000 in
theorem kl_520 : chR 206 520 40 = true := by decide +kernel
set_option maxRecDepth 100000 in
theorem kl_560 : chR 206 560 40 = true := by decide +kernel
set_option maxRecDepth 100000 in
theorem kl_600 : chR 206 600 40 = true := by decide +kernel
set_option maxRecDepth 100000 in
theorem kl_640 : chR 206 640 40 = true := by decide +kernel
set_option maxRecDepth 100000 in
theorem kl_680 : chR 206 680 40 = true := by decide +kernel
set_option maxRecDepth 100000 in
theorem kl_720 : chR 206 720 40 = true := by decide +kernel
set_option maxRecDepth 100000 in
theorem kl_760 : chR 206 760 40 = true := by decide +kernel
set_option maxRecDepth 100000 in
theorem kl_800 : chR 206 800 40 = true := by decide +kernel
set_option maxRecDepth 100000 in
theorem kl_840 : chR 206 840 40 = true := by decide +kernel
set_option maxRecDepth 100000 in
theorem kl_880 : chR 206 880 40 = true := by decide +kernel
set_option maxRecDepth 100000 in
theorem kl_920 : chR 206 920 40 = true := by decide +kernel
set_option maxRecDepth 100000 in
theorem kl_960 : chR 206 960 40 = true := by decide +kernel
set_option maxRecDepth 100000 in
theorem kl_1000 : chR 206 1000 40 = true := by decide +kernel
set_option maxRecDepth 100000 in
theorem kl_1040 : chR 206 1040 40 = true := by decide +kernel
set_option maxRecDepth 100000 in
theorem kl_1080 : chR 206 1080 40 = true := by decide +kernel
set_option maxRecDepth 100000 in
theorem kl_1120 : chR 206 1120 40 = true := by decide +kernel
set_option maxRecDepth 100000 in
theorem kl_1160 : chR 206 1160 40 = true := by decide +kernel
set_option maxRecDepth 100000 in
theorem kl_1200 : chR 206 1200 40 = true := by decide +kernel
set_option maxRecDepth 100000 in
theorem kl_1240 : chR 206 1240 40 = true := by decide +kernel
set_option maxRecDepth 100000 in
theorem kl_1280 : chR 206 1280 40 = true := by decide +kernel
set_option maxRecDepth 100000 in
theorem kl_1320 : chR 206 1320 40 = true := by decide +kernel
set_option maxRecDepth 100000 in
theorem kl_1360 : chR 206 1360 40 = true := by decide +kernel
set_option maxRecDepth 100000 in
theorem kl_1400 : chR 206 1400 40 = true := by decide +kernel
set_option maxRecDepth 100000 in
theorem kl_1440 : chR 206 1440 40 = true := by decide +kernel
set_option maxRecDepth 100000 in
theorem kl_1480 : chR 206 1480 568 = true := by decide +kernel
theorem chR_at {m lo n pc : Nat} {e : CE} (h : chR m lo n = true) (h1 : lo ≤ pc) (h2 : pc < lo + n) (hk : kode m pc = some e) : chE m pc e = true := by
  have h3 := List.all_eq_true.mp h (pc - lo) (List.mem_range.mpr (by omega))
  rw [show lo + (pc - lo) = pc by omega, hk] at h3
  exact h3
theorem km_206 : chM 206 = true := by
  refine List.all_eq_true.mpr fun pc hpc => ?_
  have hpc := List.mem_range.mp hpc
  cases hk : kode 206 pc with
  | none => rfl
  | some e =>
    show chE 206 pc e = true
    rcases Nat.lt_or_ge pc 40 with q | q
    · exact chR_at kl_0 (by omega) (by omega) hk
    rcases Nat.lt_or_ge pc 80 with q | q
    · exact chR_at kl_40 (by omega) (by omega) hk
    rcases Nat.lt_or_ge pc 120 with q | q
    · exact chR_at kl_80 (by omega) (by omega) hk
    rcases Nat.lt_or_ge pc 160 with q | q
    · exact chR_at kl_120 (by omega) (by omega) hk
    rcases Nat.lt_or_ge pc 200 with q | q
    · exact chR_at kl_160 (by omega) (by omega) hk
    rcases Nat.lt_or_ge pc 240 with q | q
    · exact chR_at kl_200 (by omega) (by omega) hk
    rcases Nat.lt_or_ge pc 280 with q | q
    · exact chR_at kl_240 (by omega) (by omega) hk
    rcases Nat.lt_or_ge pc 320 with q | q
    · exact chR_at kl_280 (by omega) (by omega) hk
    rcases Nat.lt_or_ge pc 360 with q | q
    · exact chR_at kl_320 (by omega) (by omega) hk
    rcases Nat.lt_or_ge pc 400 with q | q
    · exact chR_at kl_360 (by omega) (by omega) hk
    rcases Nat.lt_or_ge pc 440 with q | q
    · exact chR_at kl_400 (by omega) (by omega) hk
    rcases Nat.lt_or_ge pc 480 with q | q
    · exact chR_at kl_440 (by omega) (by omega) hk
    rcases Nat.lt_or_ge pc 520 with q | q
    · exact chR_at kl_480 (by omega) (by omega) hk
    rcases Nat.lt_or_ge pc 560 with q | q
    · exact chR_at kl_520 (by omega) (by omega) hk
    rcases Nat.lt_or_ge pc 600 with q | q
    · exact chR_at kl_560 (by omega) (by omega) hk
    rcases Nat.lt_or_ge pc 640 with q | q
    · exact chR_at kl_600 (by omega) (by omega) hk
    rcases Nat.lt_or_ge pc 680 with q | q
    · exact chR_at kl_640 (by omega) (by omega) hk
    rcases Nat.lt_or_ge pc 720 with q | q
    · exact chR_at kl_680 (by omega) (by omega) hk
    rcases Nat.lt_or_ge pc 760 with q | q
    · exact chR_at kl_720 (by omega) (by omega) hk
    rcases Nat.lt_or_ge pc 800 with q | q
    · exact chR_at kl_760 (by omega) (by omega) hk
    rcases Nat.lt_or_ge pc 840 with q | q
    · exact chR_at kl_800 (by omega) (by omega) hk
    rcases Nat.lt_or_ge pc 880 with q | q
    · exact chR_at kl_840 (by omega) (by omega) hk
    rcases Nat.lt_or_ge pc 920 with q | q
    · exact chR_at kl_880 (by omega) (by omega) hk
    rcases Nat.lt_or_ge pc 960 with q | q
    · exact chR_at kl_920 (by omega) (by omega) hk
    rcases Nat.lt_or_ge pc 1000 with q | q
    · exact chR_at kl_960 (by omega) (by omega) hk
    rcases Nat.lt_or_ge pc 1040 with q | q
    · exact chR_at kl_1000 (by omega) (by omega) hk
    rcases Nat.lt_or_ge pc 1080 with q | q
    · exact chR_at kl_1040 (by omega) (by omega) hk
    rcases Nat.lt_or_ge pc 1120 with q | q
    · exact chR_at kl_1080 (by omega) (by omega) hk
    rcases Nat.lt_or_ge pc 1160 with q | q
    · exact chR_at kl_1120 (by omega) (by omega) hk
    rcases Nat.lt_or_ge pc 1200 with q | q
    · exact chR_at kl_1160 (by omega) (by omega) hk
    rcases Nat.lt_or_ge pc 1240 with q | q
    · exact chR_at kl_1200 (by omega) (by omega) hk
    rcases Nat.lt_or_ge pc 1280 with q | q
    · exact chR_at kl_1240 (by omega) (by omega) hk
    rcases Nat.lt_or_ge pc 1320 with q | q
    · exact chR_at kl_1280 (by omega) (by omega) hk
    rcases Nat.lt_or_ge pc 1360 with q | q
    · exact chR_at kl_1320 (by omega) (by omega) hk
    rcases Nat.lt_or_ge pc 1400 with q | q
    · exact chR_at kl_1360 (by omega) (by omega) hk
    rcases Nat.lt_or_ge pc 1440 with q | q
    · exact chR_at kl_1400 (by omega) (by omega) hk
    rcases Nat.lt_or_ge pc 1480 with q | q
    · exact chR_at kl_1440 (by omega) (by omega) hk
    exact chR_at kl_1480 (by omega) (by omega) hk
set_option maxRecDepth 100000 in
theorem km_150 : chM 150 = true := by decide +kernel
set_option maxRecDepth 100000 in
theorem km_151 : chM 151 = true := by decide +kernel
set_option maxRecDepth 100000 in
theorem km_152 : chM 152 = true := by decide +kernel
set_option maxRecDepth 100000 in
theorem km_153 : chM 153 = true := by decide +kernel
set_option maxRecDepth 100000 in
theorem km_154 : chM 154 = true := by decide +kernel
set_option maxRecDepth 100000 in
theorem km_155 : chM 155 = true := by decide +kernel
set_option maxRecDepth 100000 in
theorem km_156 : chM 156 = true := by decide +kernel
set_option maxRecDepth 100000 in
theorem km_157 : chM 157 = true := by decide +kernel
set_option maxRecDepth 100000 in
theorem km_158 : chM 158 = true := by decide +kernel
set_option maxRecDepth 100000 in
theorem km_159 : chM 159 = true := by decide +kernel
set_option maxRecDepth 100000 in
theorem km_160 : chM 160 = true := by decide +kernel
set_option maxRecDepth 100000 in
theorem km_161 : chM 161 = true := by decide +kernel
set_option maxRecDepth 100000 in
theorem km_162 : chM 162 = true := by decide +kernel
set_option maxRecDepth 100000 in
theorem km_163 : chM 163 = true := by decide +kernel
set_option maxRecDepth 100000 in
theorem km_164 : chM 164 = true := by decide +kernel
set_option maxRecDepth 100000 in
theorem km_165 : chM 165 = true := by decide +kernel
set_option maxRecDepth 100000 in
theorem km_166 : chM 166 = true := by decide +kernel
set_option maxRecDepth 100000 in
theorem km_167 : chM 167 = true := by decide +kernel
set_option maxRecDepth 100000 in
theorem km_168 : chM 168 = true := by decide +kernel
set_option maxRecDepth 100000 in
theorem km_169 : chM 169 = true := by decide +kernel
set_option maxRecDepth 100000 in
theorem km_170 : chM 170 = true := by decide +kernel
set_option maxRecDepth 100000 in
theorem km_171 : chM 171 = true := by decide +kernel
set_option maxRecDepth 100000 in
theorem km_172 : chM 172 = true := by decide +kernel
set_option maxRecDepth 100000 in
theorem km_173 : chM 173 = true := by decide +kernel
set_option maxRecDepth 100000 in
theorem km_174 : chM 174 = true := by decide +kernel
set_option maxRecDepth 100000 in
theorem km_175 : chM 175 = true := by decide +kernel
set_option maxRecDepth 100000 in
theorem km_176 : chM 176 = true := by decide +kernel
set_option maxRecDepth 100000 in
theorem km_177 : chM 177 = true := by decide +kernel
set_option maxRecDepth 100000 in
theorem km_178 : chM 178 = true := by decide +kernel
set_option maxRecDepth 100000 in
theorem km_179 : chM 179 = true := by decide +kernel
set_option maxRecDepth 100000 in
theorem km_180 : chM 180 = true := by decide +kernel
set_option maxRecDepth 100000 in
theorem km_181 : chM 181 = true := by decide +kernel
set_option maxRecDepth 100000 in
theorem km_182 : chM 182 = true := by decide +kernel
set_option maxRecDepth 100000 in
theorem km_183 : chM 183 = true := by decide +kernel
set_option maxRecDepth 100000 in
theorem km_184 : chM 184 = true := by decide +kernel
set_option maxRecDepth 100000 in
theorem km_185 : chM 185 = true := by decide +kernel
set_option maxRecDepth 100000 in
theorem km_186 : chM 186 = true := by decide +kernel
set_option maxRecDepth 100000 in
theorem km_187 : chM 187 = true := by decide +kernel
set_option maxRecDepth 100000 in
theorem km_188 : chM 188 = true := by decide +kernel
set_option maxRecDepth 100000 in
theorem km_189 : chM 189 = true := by decide +kernel
set_option maxRecDepth 100000 in
theorem km_190 : chM 190 = true := by decide +kernel
set_option maxRecDepth 100000 in
theorem km_191 : chM 191 = true := by decide +kernel
set_option maxRecDepth 100000 in
theorem km_192 : chM 192 = true := by decide +kernel
set_option maxRecDepth 100000 in
theorem km_193 : chM 193 = true := by decide +kernel
set_option maxRecDepth 100000 in
theorem km_194 : chM 194 = true := by decide +kernel
set_option maxRecDepth 100000 in
theorem km_195 : chM 195 = true := by decide +kernel
set_option maxRecDepth 100000 in
theorem km_196 : chM 196 = true := by decide +kernel
set_option maxRecDepth 100000 in
theorem km_197 : chM 197 = true := by decide +kernel
set_option maxRecDepth 100000 in
theorem km_198 : chM 198 = true := by decide +kernel
set_option maxRecDepth 100000 in
theorem km_199 : chM 199 = true := by decide +kernel
set_option maxRecDepth 100000 in
theorem km_200 : chM 200 = true := by decide +kernel
set_option maxRecDepth 100000 in
theorem km_201 : chM 201 = true := by decide +kernel
set_option maxRecDepth 100000 in
theorem km_202 : chM 202 = true := by decide +kernel
set_option maxRecDepth 100000 in
theorem km_203 : chM 203 = true := by decide +kernel
set_option maxRecDepth 100000 in
theorem km_204 : chM 204 = true := by decide +kernel
set_option maxRecDepth 100000 in
theorem km_205 : chM 205 = true := by decide +kernel
set_option maxRecDepth 100000 in
theorem km_207 : chM 207 = true := by decide +kernel
set_option maxRecDepth 100000 in
theorem km_208 : chM 208 = true := by decide +kernel
set_option maxRecDepth 100000 in
theorem km_209 : chM 209 = true := by decide +kernel
set_option maxRecDepth 100000 in
theorem km_210 : chM 210 = true := by decide +kernel
set_option maxRecDepth 100000 in
theorem km_211 : chM 211 = true := by decide +kernel
set_option maxRecDepth 100000 in
theorem km_212 : chM 212 = true := by decide +kernel
set_option maxRecDepth 100000 in
theorem km_213 : chM 213 = true := by decide +kernel
set_option maxRecDepth 100000 in
theorem km_214 : chM 214 = true := by decide +kernel
set_option maxRecDepth 100000 in
theorem km_215 : chM 215 = true := by decide +kernel
set_option maxRecDepth 100000 in
theorem km_216 : chM 216 = true := by decide +kernel
set_option maxRecDepth 100000 in
theorem km_217 : chM 217 = true := by decide +kernel
set_option maxRecDepth 100000 in
theorem km_218 : chM 218 = true := by decide +kernel
set_option maxRecDepth 100000 in
theorem km_219 : chM 219 = true := by decide +kernel
set_option maxRecDepth 100000 in
theorem km_220 : chM 220 = true := by decide +kernel
set_option maxRecDepth 100000 in
theorem km_221 : chM 221 = true := by decide +kernel
set_option maxRecDepth 100000 in
theorem km_222 : chM 222 = true := by decide +kernel
set_option maxRecDepth 100000 in
theorem km_223 : chM 223 = true := by decide +kernel
set_option maxRecDepth 100000 in
theorem km_224 : chM 224 = true := by decide +kernel
set_option maxRecDepth 100000 in
theorem km_225 : chM 225 = true := by decide +kernel
theorem km_all : ∀ m, m < 226 → chM m = true := fun m h => match m, h with
  | 0, _ => km_0
  | 1, _ => km_1
  | 2, _ => km_2
  | 3, _ => km_3
  | 4, _ => km_4
  | 5, _ => km_5
  | 6, _ => km_6
  | 7, _ => km_7
  | 8, _ => km_8
  | 9, _ => km_9
  | 10, _ => km_10
  | 11, _ => km_11
  | 12, _ => km_12
  | 13, _ => km_13
  | 14, _ => km_14
  | 15, _ => km_15
  | 16, _ => km_16
  | 17, _ => km_17
  | 18, _ => km_18
  | 19, _ => km_19
  | 20, _ => km_20
  | 21, _ => km_21
  | 22, _ => km_22
  | 23, _ => km_23
  | 24, _ => km_24
  | 25, _ => km_25
  | 26, _ => km_26
  | 27, _ => km_27
  | 28, _ => km_28
  | 29, _ => km_29
  | 30, _ => km_30
  | 31, _ => km_31
  | 32, _ => km_32
  | 33, _ => km_33
  | 34, _ => km_34
  | 35, _ => km_35
  | 36, _ => km_36
  | 37, _ => km_37
  | 38, _ => km_38
  | 39, _ => km_39
  | 40, _ => km_40
  | 41, _ => km_41
  | 42, _ => km_42
  | 43, _ => km_43
  | 44, _ => km_44
  | 45, _ => km_45
  | 46, _ => km_46
  | 47, _ => km_47
  | 48, _ => km_48
  | 49, _ => km_49
  | 50, _ => km_50
  | 51, _ => km_51
  | 52, _ => km_52
  | 53, _ => km_53
  | 54, _ => km_54
  | 55, _ => km_55
  | 56, _ => km_56
  | 57, _ => km_57
  | 58, _ => km_58
  | 59, _ => km_59
  | 60, _ => km_60
  | 61, _ => km_61
  | 62, _ => km_62
  | 63, _ => km_63
  | 64, _ => km_64
  | 65, _ => km_65
  | 66, _ => km_66
  | 67, _ => km_67
  | 68, _ => km_68
  | 69, _ => km_69
  | 70, _ => km_70
  | 71, _ => km_71
  | 72, _ => km_72
  | 73, _ => km_73
  | 74, _ => km_74
  | 75, _ => km_75
  | 76, _ => km_76
  | 77, _ => km_77
  | 78, _ => km_78
  | 79, _ => km_79
  | 80, _ => km_80
  | 81, _ => km_81
  | 82, _ => km_82
  | 83, _ => km_83
  | 84, _ => km_84
  | 85, _ => km_85
  | 86, _ => km_86
  | 87, _ => km_87
  | 88, _ => km_88
  | 89, _ => km_89
  | 90, _ => km_90
  | 91, _ => km_91
  | 92, _ => km_92
  | 93, _ => km_93
  | 94, _ => km_94
  | 95, _ => km_95
  | 96, _ => km_96
  | 97, _ => km_97
  | 98, _ => km_98
  | 99, _ => km_99
  | 100, _ => km_100
  | 101, _ => km_101
  | 102, _ => km_102
  | 103, _ => km_103
  | 104, _ => km_104
  | 105, _ => km_105
  | 106, _ => km_106
  | 107, _ => km_107
  | 108, _ => km_108
  | 109, _ => km_109
  | 110, _ => km_110
  | 111, _ => km_111
  | 112, _ => km_112
  | 113, _ => km_113
  | 114, _ => km_114
  | 115, _ => km_115
  | 116, _ => km_116
  | 117, _ => km_117
  | 118, _ => km_118
  | 119, _ => km_119
  | 120, _ => km_120
  | 121, _ => km_121
  | 122, _ => km_122
  | 123, _ => km_123
  | 124, _ => km_124
  | 125, _ => km_125
  | 126, _ => km_126
  | 127, _ => km_127
  | 128, _ => km_128
  | 129, _ => km_129
  | 130, _ => km_130
  | 131, _ => km_131
  | 132, _ => km_132
  | 133, _ => km_133
  | 134, _ => km_134
  | 135, _ => km_135
  | 136, _ => km_136
  | 137, _ => km_137
  | 138, _ => km_138
  | 139, _ => km_139
  | 140, _ => km_140
  | 141, _ => km_141
  | 142, _ => km_142
  | 143, _ => km_143
  | 144, _ => km_144
  | 145, _ => km_145
  | 146, _ => km_146
  | 147, _ => km_147
  | 148, _ => km_148
  | 149, _ => km_149
  | 150, _ => km_150
  | 151, _ => km_151
  | 152, _ => km_152
  | 153, _ => km_153
  | 154, _ => km_154
  | 155, _ => km_155
  | 156, _ => km_156
  | 157, _ => km_157
  | 158, _ => km_158
  | 159, _ => km_159
  | 160, _ => km_160
  | 161, _ => km_161
  | 162, _ => km_162
  | 163, _ => km_163
  | 164, _ => km_164
  | 165, _ => km_165
  | 166, _ => km_166
  | 167, _ => km_167
  | 168, _ => km_168
  | 169, _ => km_169
  | 170, _ => km_170
  | 171, _ => km_171
  | 172, _ => km_172
  | 173, _ => km_173
  | 174, _ => km_174
  | 175, _ => km_175
  | 176, _ => km_176
  | 177, _ => km_177
  | 178, _ => km_178
  | 179, _ => km_179
  | 180, _ => km_180
  | 181, _ => km_181
  | 182, _ => km_182
  | 183, _ => km_183
  | 184, _ => km_184
  | 185, _ => km_185
  | 186, _ => km_186
  | 187, _ => km_187
  | 188, _ => km_188
  | 189, _ => km_189
  | 190, _ => km_190
  | 191, _ => km_191
  | 192, _ => km_192
  | 193, _ => km_193
  | 194, _ => km_194
  | 195, _ => km_195
  | 196, _ => km_196
  | 197, _ => km_197
  | 198, _ => km_198
  | 199, _ => km_199
  | 200, _ => km_200
  | 201, _ => km_201
  | 202, _ => km_202
  | 203, _ => km_203
  | 204, _ => km_204
  | 205, _ => km_205
  | 206, _ => km_206
  | 207, _ => km_207
  | 208, _ => km_208
  | 209, _ => km_209
  | 210, _ => km_210
  | 211, _ => km_211
  | 212, _ => km_212
  | 213, _ => km_213
  | 214, _ => km_214
  | 215, _ => km_215
  | 216, _ => km_216
  | 217, _ => km_217
  | 218, _ => km_218
  | 219, _ => km_219
  | 220, _ => km_220
  | 221, _ => km_221
  | 222, _ => km_222
  | 223, _ => km_223
  | 224, _ => km_224
  | 225, _ => km_225
  | n + 226, h => absurd h (by omega)
theorem kode_chk {m pc : Nat} {e : CE} (h : kode m pc = some e) : m < 226 ∧ pc < 2048 ∧ chE m pc e = true := by
  have hpc : pc < 2048 := by
    rcases Nat.lt_or_ge pc 2048 with q | q
    · exact q
    · have : Nat.blt pc 2048 = false := blt_f q
      unfold kode at h
      rw [this] at h
      cases h
  have hm : m < 226 := by
    rcases Nat.lt_or_ge m 226 with q | q
    · exact q
    · have : Nat.blt m 226 = false := blt_f q
      unfold kode at h
      rw [this] at h
      cases hb : Nat.blt pc 2048 <;> rw [hb] at h <;> cases h
  have h1 := List.all_eq_true.mp (km_all m hm) pc (List.mem_range.mpr hpc)
  rw [h] at h1
  exact ⟨hm, hpc, h1⟩
