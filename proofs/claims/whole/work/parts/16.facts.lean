-- facts that the conditions use
theorem ko_0 : mm_o 0 = 0 := rfl
theorem ko_1 : mm_o 1 = 0 := rfl
theorem ko_2 : mm_o 2 = 0 := rfl
theorem ko_3 : mm_o 3 = 0 := rfl
theorem ko_4 : mm_o 4 = 0 := rfl
theorem ko_5 : mm_o 5 = 0 := rfl
theorem ko_6 : mm_o 6 = 0 := rfl
theorem ko_7 : mm_o 7 = 0 := rfl
theorem ko_8 : mm_o 8 = 0 := rfl
theorem ko_9 : mm_o 9 = 0 := rfl
theorem ko_10 : mm_o 10 = 0 := rfl
theorem ko_11 : mm_o 11 = 0 := rfl
theorem ko_12 : mm_o 12 = 0 := rfl
theorem ko_13 : mm_o 13 = 0 := rfl
theorem ko_14 : mm_o 14 = 0 := rfl
theorem ko_15 : mm_o 15 = 1 := rfl
theorem ko_16 : mm_o 16 = 1 := rfl
theorem ko_17 : mm_o 17 = 1 := rfl
theorem ko_18 : mm_o 18 = 1 := rfl
theorem ko_19 : mm_o 19 = 1 := rfl
theorem ko_20 : mm_o 20 = 1 := rfl
theorem ko_21 : mm_o 21 = 1 := rfl
theorem ko_22 : mm_o 22 = 1 := rfl
theorem ko_23 : mm_o 23 = 1 := rfl
theorem ko_24 : mm_o 24 = 1 := rfl
theorem ko_25 : mm_o 25 = 1 := rfl
theorem ko_26 : mm_o 26 = 1 := rfl
theorem ko_27 : mm_o 27 = 1 := rfl
theorem ko_28 : mm_o 28 = 1 := rfl
theorem ko_29 : mm_o 29 = 2 := rfl
theorem ko_30 : mm_o 30 = 2 := rfl
theorem ko_31 : mm_o 31 = 2 := rfl
theorem ko_32 : mm_o 32 = 2 := rfl
theorem ko_33 : mm_o 33 = 2 := rfl
theorem ko_34 : mm_o 34 = 2 := rfl
theorem ko_35 : mm_o 35 = 3 := rfl
theorem ko_36 : mm_o 36 = 3 := rfl
theorem ko_37 : mm_o 37 = 3 := rfl
theorem ko_38 : mm_o 38 = 3 := rfl
theorem ko_39 : mm_o 39 = 3 := rfl
theorem ko_40 : mm_o 40 = 3 := rfl
theorem ko_41 : mm_o 41 = 3 := rfl
theorem ko_42 : mm_o 42 = 4 := rfl
theorem ko_43 : mm_o 43 = 4 := rfl
theorem ko_44 : mm_o 44 = 4 := rfl
theorem ko_45 : mm_o 45 = 4 := rfl
theorem ko_46 : mm_o 46 = 4 := rfl
theorem ko_47 : mm_o 47 = 5 := rfl
theorem ko_48 : mm_o 48 = 5 := rfl
theorem ko_49 : mm_o 49 = 5 := rfl
theorem ko_50 : mm_o 50 = 5 := rfl
theorem ko_51 : mm_o 51 = 5 := rfl
theorem ko_52 : mm_o 52 = 5 := rfl
theorem ko_53 : mm_o 53 = 5 := rfl
theorem ko_54 : mm_o 54 = 5 := rfl
theorem ko_55 : mm_o 55 = 5 := rfl
theorem ko_56 : mm_o 56 = 5 := rfl
theorem ko_57 : mm_o 57 = 5 := rfl
theorem ko_58 : mm_o 58 = 5 := rfl
theorem ko_59 : mm_o 59 = 6 := rfl
theorem ko_60 : mm_o 60 = 6 := rfl
theorem ko_61 : mm_o 61 = 6 := rfl
theorem ko_62 : mm_o 62 = 6 := rfl
theorem ko_63 : mm_o 63 = 6 := rfl
theorem ko_64 : mm_o 64 = 6 := rfl
theorem ko_65 : mm_o 65 = 6 := rfl
theorem ko_66 : mm_o 66 = 6 := rfl
theorem ko_67 : mm_o 67 = 6 := rfl
theorem ko_68 : mm_o 68 = 6 := rfl
theorem ko_69 : mm_o 69 = 6 := rfl
theorem ko_70 : mm_o 70 = 6 := rfl
theorem ko_71 : mm_o 71 = 7 := rfl
theorem ko_72 : mm_o 72 = 7 := rfl
theorem ko_73 : mm_o 73 = 7 := rfl
theorem ko_74 : mm_o 74 = 7 := rfl
theorem ko_75 : mm_o 75 = 7 := rfl
theorem ko_76 : mm_o 76 = 7 := rfl
theorem ko_77 : mm_o 77 = 7 := rfl
theorem ko_78 : mm_o 78 = 7 := rfl
theorem ko_79 : mm_o 79 = 8 := rfl
theorem ko_80 : mm_o 80 = 8 := rfl
theorem ko_81 : mm_o 81 = 8 := rfl
theorem ko_82 : mm_o 82 = 8 := rfl
theorem ko_83 : mm_o 83 = 8 := rfl
theorem ko_84 : mm_o 84 = 8 := rfl
theorem ko_85 : mm_o 85 = 8 := rfl
theorem ko_86 : mm_o 86 = 8 := rfl
theorem ko_87 : mm_o 87 = 8 := rfl
theorem ko_88 : mm_o 88 = 9 := rfl
theorem ko_89 : mm_o 89 = 9 := rfl
theorem ko_90 : mm_o 90 = 9 := rfl
theorem ko_91 : mm_o 91 = 9 := rfl
theorem ko_92 : mm_o 92 = 9 := rfl
theorem ko_93 : mm_o 93 = 9 := rfl
theorem ko_94 : mm_o 94 = 9 := rfl
theorem ko_95 : mm_o 95 = 9 := rfl
theorem ko_96 : mm_o 96 = 9 := rfl
theorem ko_97 : mm_o 97 = 9 := rfl
theorem ko_98 : mm_o 98 = 10 := rfl
theorem ko_99 : mm_o 99 = 10 := rfl
theorem ko_100 : mm_o 100 = 10 := rfl
theorem ko_101 : mm_o 101 = 10 := rfl
theorem ko_102 : mm_o 102 = 10 := rfl
theorem ko_103 : mm_o 103 = 10 := rfl
theorem ko_104 : mm_o 104 = 10 := rfl
theorem ko_105 : mm_o 105 = 10 := rfl
theorem ko_106 : mm_o 106 = 10 := rfl
theorem ko_107 : mm_o 107 = 10 := rfl
theorem ko_108 : mm_o 108 = 10 := rfl
theorem ko_109 : mm_o 109 = 10 := rfl
theorem ko_110 : mm_o 110 = 10 := rfl
theorem ko_111 : mm_o 111 = 10 := rfl
theorem ko_112 : mm_o 112 = 10 := rfl
theorem ko_113 : mm_o 113 = 10 := rfl
theorem ko_114 : mm_o 114 = 10 := rfl
theorem ko_115 : mm_o 115 = 10 := rfl
theorem ko_116 : mm_o 116 = 10 := rfl
theorem ko_117 : mm_o 117 = 10 := rfl
theorem ko_118 : mm_o 118 = 10 := rfl
theorem ko_119 : mm_o 119 = 10 := rfl
theorem ko_120 : mm_o 120 = 10 := rfl
theorem ko_121 : mm_o 121 = 10 := rfl
theorem ko_122 : mm_o 122 = 10 := rfl
theorem ko_123 : mm_o 123 = 10 := rfl
theorem ko_124 : mm_o 124 = 10 := rfl
theorem ko_125 : mm_o 125 = 10 := rfl
theorem ko_126 : mm_o 126 = 10 := rfl
theorem ko_127 : mm_o 127 = 10 := rfl
theorem ko_128 : mm_o 128 = 10 := rfl
theorem ko_129 : mm_o 129 = 10 := rfl
theorem ko_130 : mm_o 130 = 10 := rfl
theorem ko_131 : mm_o 131 = 10 := rfl
theorem ko_132 : mm_o 132 = 10 := rfl
theorem ko_133 : mm_o 133 = 10 := rfl
theorem ko_134 : mm_o 134 = 10 := rfl
theorem ko_135 : mm_o 135 = 10 := rfl
theorem ko_136 : mm_o 136 = 10 := rfl
theorem ko_137 : mm_o 137 = 10 := rfl
theorem ko_138 : mm_o 138 = 10 := rfl
theorem ko_139 : mm_o 139 = 10 := rfl
theorem ko_140 : mm_o 140 = 10 := rfl
theorem ko_141 : mm_o 141 = 10 := rfl
theorem ko_142 : mm_o 142 = 10 := rfl
theorem ko_143 : mm_o 143 = 10 := rfl
theorem ko_144 : mm_o 144 = 10 := rfl
theorem ko_145 : mm_o 145 = 10 := rfl
theorem ko_146 : mm_o 146 = 10 := rfl
theorem ko_147 : mm_o 147 = 10 := rfl
theorem ko_148 : mm_o 148 = 10 := rfl
theorem ko_149 : mm_o 149 = 10 := rfl
theorem ko_150 : mm_o 150 = 10 := rfl
theorem ko_151 : mm_o 151 = 11 := rfl
theorem ko_152 : mm_o 152 = 11 := rfl
theorem ko_153 : mm_o 153 = 11 := rfl
theorem ko_154 : mm_o 154 = 11 := rfl
theorem ko_155 : mm_o 155 = 11 := rfl
theorem ko_156 : mm_o 156 = 11 := rfl
theorem ko_157 : mm_o 157 = 11 := rfl
theorem ko_158 : mm_o 158 = 11 := rfl
theorem ko_159 : mm_o 159 = 11 := rfl
theorem ko_160 : mm_o 160 = 11 := rfl
theorem ko_161 : mm_o 161 = 11 := rfl
theorem ko_162 : mm_o 162 = 11 := rfl
theorem ko_163 : mm_o 163 = 11 := rfl
theorem ko_164 : mm_o 164 = 11 := rfl
theorem ko_165 : mm_o 165 = 11 := rfl
theorem ko_166 : mm_o 166 = 11 := rfl
theorem ko_167 : mm_o 167 = 11 := rfl
theorem ko_168 : mm_o 168 = 11 := rfl
theorem ko_169 : mm_o 169 = 11 := rfl
theorem ko_170 : mm_o 170 = 11 := rfl
theorem ko_171 : mm_o 171 = 11 := rfl
theorem ko_172 : mm_o 172 = 11 := rfl
theorem ko_173 : mm_o 173 = 11 := rfl
theorem ko_174 : mm_o 174 = 11 := rfl
theorem ko_175 : mm_o 175 = 11 := rfl
theorem ko_176 : mm_o 176 = 11 := rfl
theorem ko_177 : mm_o 177 = 11 := rfl
theorem ko_178 : mm_o 178 = 11 := rfl
theorem ko_179 : mm_o 179 = 11 := rfl
theorem ko_180 : mm_o 180 = 11 := rfl
theorem ko_181 : mm_o 181 = 11 := rfl
theorem ko_182 : mm_o 182 = 11 := rfl
theorem ko_183 : mm_o 183 = 11 := rfl
theorem ko_184 : mm_o 184 = 11 := rfl
theorem ko_185 : mm_o 185 = 11 := rfl
theorem ko_186 : mm_o 186 = 11 := rfl
theorem ko_187 : mm_o 187 = 11 := rfl
theorem ko_188 : mm_o 188 = 11 := rfl
theorem ko_189 : mm_o 189 = 11 := rfl
theorem ko_190 : mm_o 190 = 11 := rfl
theorem ko_191 : mm_o 191 = 11 := rfl
theorem ko_192 : mm_o 192 = 11 := rfl
theorem ko_193 : mm_o 193 = 11 := rfl
theorem ko_194 : mm_o 194 = 11 := rfl
theorem ko_195 : mm_o 195 = 11 := rfl
theorem ko_196 : mm_o 196 = 11 := rfl
theorem ko_197 : mm_o 197 = 11 := rfl
theorem ko_198 : mm_o 198 = 11 := rfl
theorem ko_199 : mm_o 199 = 11 := rfl
theorem ko_200 : mm_o 200 = 11 := rfl
theorem ko_201 : mm_o 201 = 11 := rfl
theorem ko_202 : mm_o 202 = 11 := rfl
theorem ko_203 : mm_o 203 = 11 := rfl
theorem ko_204 : mm_o 204 = 11 := rfl
theorem ko_205 : mm_o 205 = 11 := rfl
theorem ko_206 : mm_o 206 = 11 := rfl
theorem ko_207 : mm_o 207 = 11 := rfl
theorem ko_208 : mm_o 208 = 11 := rfl
theorem ko_209 : mm_o 209 = 11 := rfl
theorem ko_210 : mm_o 210 = 11 := rfl
theorem ko_211 : mm_o 211 = 11 := rfl
theorem ko_212 : mm_o 212 = 11 := rfl
theorem ko_213 : mm_o 213 = 11 := rfl
theorem ko_214 : mm_o 214 = 11 := rfl
theorem ko_215 : mm_o 215 = 11 := rfl
theorem ko_216 : mm_o 216 = 11 := rfl
theorem ko_217 : mm_o 217 = 11 := rfl
theorem ko_218 : mm_o 218 = 11 := rfl
theorem ko_219 : mm_o 219 = 11 := rfl
theorem ko_220 : mm_o 220 = 11 := rfl
theorem ko_221 : mm_o 221 = 11 := rfl
theorem ko_222 : mm_o 222 = 11 := rfl
theorem ko_223 : mm_o 223 = 11 := rfl
theorem ko_224 : mm_o 224 = 11 := rfl
theorem ko_225 : mm_o 225 = 11 := rfl
theorem ko_226 : mm_o 226 = 11 := rfl
theorem ko_227 : mm_o 227 = 12 := rfl
theorem ko_228 : mm_o 228 = 13 := rfl
theorem ko_229 : mm_o 229 = 13 := rfl
theorem ko_230 : mm_o 230 = 14 := rfl
theorem ko_231 : mm_o 231 = 14 := rfl
theorem ko_232 : mm_o 232 = 15 := rfl
theorem lf_0_9 : mm_lf 0 9 = some (0, 0) := by decide +kernel
theorem lf_0_15 : mm_lf 0 15 = some (0, 1) := by decide +kernel
theorem lf_0_18 : mm_lf 0 18 = some (0, 2) := by decide +kernel
theorem lf_1_9 : mm_lf 1 9 = some (1, 0) := by decide +kernel
theorem lf_1_15 : mm_lf 1 15 = some (1, 1) := by decide +kernel
theorem lf_1_18 : mm_lf 1 18 = some (1, 2) := by decide +kernel
theorem lf_1_21 : mm_lf 1 21 = some (1, 3) := by decide +kernel
theorem lf_1_24 : mm_lf 1 24 = some (1, 4) := by decide +kernel
theorem lf_1_27 : mm_lf 1 27 = some (1, 5) := by decide +kernel
theorem lf_1_42 : mm_lf 1 42 = some (1, 6) := by decide +kernel
theorem lf_1_46 : mm_lf 1 46 = some (1, 7) := by decide +kernel
theorem lf_1_78 : mm_lf 1 78 = some (1, 8) := by decide +kernel
theorem lf_1_81 : mm_lf 1 81 = some (1, 9) := by decide +kernel
theorem lf_1_84 : mm_lf 1 84 = some (1, 11) := by decide +kernel
theorem lf_1_106 : mm_lf 1 106 = some (1, 10) := by decide +kernel
theorem lf_2_9 : mm_lf 2 9 = some (2, 0) := by decide +kernel
theorem lf_2_15 : mm_lf 2 15 = some (2, 1) := by decide +kernel
theorem lf_2_24 : mm_lf 2 24 = some (2, 2) := by decide +kernel
theorem lf_2_36 : mm_lf 2 36 = some (6, 1) := by decide +kernel
theorem lf_3_9 : mm_lf 3 9 = some (3, 0) := by decide +kernel
theorem lf_3_15 : mm_lf 3 15 = some (3, 1) := by decide +kernel
theorem lf_3_19 : mm_lf 3 19 = some (3, 2) := by decide +kernel
theorem lf_3_23 : mm_lf 3 23 = some (3, 3) := by decide +kernel
theorem lf_3_26 : mm_lf 3 26 = some (3, 4) := by decide +kernel
theorem lf_4_9 : mm_lf 4 9 = some (4, 0) := by decide +kernel
theorem lf_5_9 : mm_lf 5 9 = some (5, 0) := by decide +kernel
theorem lf_5_15 : mm_lf 5 15 = some (5, 1) := by decide +kernel
theorem lf_5_18 : mm_lf 5 18 = some (5, 2) := by decide +kernel
theorem lf_5_47 : mm_lf 5 47 = some (6, 1) := by decide +kernel
theorem lf_6_9 : mm_lf 6 9 = some (6, 0) := by decide +kernel
theorem lf_6_15 : mm_lf 6 15 = some (6, 1) := by decide +kernel
theorem lf_6_18 : mm_lf 6 18 = some (6, 2) := by decide +kernel
theorem lf_6_24 : mm_lf 6 24 = some (6, 3) := by decide +kernel
theorem lf_6_30 : mm_lf 6 30 = some (6, 4) := by decide +kernel
theorem lf_6_35 : mm_lf 6 35 = some (6, 5) := by decide +kernel
theorem lf_7_9 : mm_lf 7 9 = some (7, 0) := by decide +kernel
theorem lf_7_15 : mm_lf 7 15 = some (7, 1) := by decide +kernel
theorem lf_7_18 : mm_lf 7 18 = some (7, 2) := by decide +kernel
theorem lf_8_9 : mm_lf 8 9 = some (8, 0) := by decide +kernel
theorem lf_8_15 : mm_lf 8 15 = some (8, 1) := by decide +kernel
theorem lf_9_9 : mm_lf 9 9 = some (9, 2) := by decide +kernel
theorem lf_9_15 : mm_lf 9 15 = some (9, 0) := by decide +kernel
theorem lf_9_19 : mm_lf 9 19 = some (9, 1) := by decide +kernel
theorem lf_10_12 : mm_lf 10 12 = some (10, 0) := by decide +kernel
theorem lf_10_18 : mm_lf 10 18 = some (10, 1) := by decide +kernel
theorem lf_10_21 : mm_lf 10 21 = some (10, 2) := by decide +kernel
theorem lf_10_28 : mm_lf 10 28 = some (10, 3) := by decide +kernel
theorem lf_10_34 : mm_lf 10 34 = some (10, 4) := by decide +kernel
theorem lf_10_42 : mm_lf 10 42 = some (10, 5) := by decide +kernel
theorem lf_10_49 : mm_lf 10 49 = some (10, 6) := by decide +kernel
theorem lf_10_56 : mm_lf 10 56 = some (10, 7) := by decide +kernel
theorem lf_10_63 : mm_lf 10 63 = some (10, 8) := by decide +kernel
theorem lf_10_70 : mm_lf 10 70 = some (10, 9) := by decide +kernel
theorem lf_10_77 : mm_lf 10 77 = some (10, 10) := by decide +kernel
theorem lf_10_81 : mm_lf 10 81 = some (10, 11) := by decide +kernel
theorem lf_10_84 : mm_lf 10 84 = some (6, 0) := by decide +kernel
theorem lf_10_106 : mm_lf 10 106 = some (6, 1) := by decide +kernel
theorem lf_10_123 : mm_lf 10 123 = some (9, 0) := by decide +kernel
theorem lf_10_126 : mm_lf 10 126 = some (9, 1) := by decide +kernel
theorem lf_10_129 : mm_lf 10 129 = some (6, 3) := by decide +kernel
theorem lf_10_200 : mm_lf 10 200 = some (1, 9) := by decide +kernel
theorem lf_10_203 : mm_lf 10 203 = some (1, 11) := by decide +kernel
theorem lf_10_209 : mm_lf 10 209 = some (1, 10) := by decide +kernel
theorem lf_10_219 : mm_lf 10 219 = some (0, 1) := by decide +kernel
theorem lf_10_227 : mm_lf 10 227 = some (0, 0) := by decide +kernel
theorem lf_10_269 : mm_lf 10 269 = some (6, 2) := by decide +kernel
theorem lf_10_291 : mm_lf 10 291 = some (3, 3) := by decide +kernel
theorem lf_10_294 : mm_lf 10 294 = some (3, 4) := by decide +kernel
theorem lf_10_300 : mm_lf 10 300 = some (8, 0) := by decide +kernel
theorem lf_10_313 : mm_lf 10 313 = some (7, 0) := by decide +kernel
theorem lf_10_316 : mm_lf 10 316 = some (7, 1) := by decide +kernel
theorem lf_11_11 : mm_lf 11 11 = some (11, 0) := by decide +kernel
theorem lf_11_15 : mm_lf 11 15 = some (11, 1) := by decide +kernel
theorem lf_11_20 : mm_lf 11 20 = some (11, 2) := by decide +kernel
theorem lf_11_23 : mm_lf 11 23 = some (11, 3) := by decide +kernel
theorem lf_11_26 : mm_lf 11 26 = some (11, 5) := by decide +kernel
theorem lf_11_29 : mm_lf 11 29 = some (11, 6) := by decide +kernel
theorem lf_11_32 : mm_lf 11 32 = some (11, 7) := by decide +kernel
theorem lf_11_35 : mm_lf 11 35 = some (11, 8) := by decide +kernel
theorem lf_11_38 : mm_lf 11 38 = some (11, 9) := by decide +kernel
theorem lf_11_43 : mm_lf 11 43 = some (11, 10) := by decide +kernel
theorem lf_11_46 : mm_lf 11 46 = some (11, 11) := by decide +kernel
theorem lf_11_49 : mm_lf 11 49 = some (11, 12) := by decide +kernel
theorem lf_11_53 : mm_lf 11 53 = some (11, 13) := by decide +kernel
theorem lf_11_56 : mm_lf 11 56 = some (11, 14) := by decide +kernel
theorem lf_11_59 : mm_lf 11 59 = some (11, 15) := by decide +kernel
theorem lf_11_62 : mm_lf 11 62 = some (11, 21) := by decide +kernel
theorem lf_11_65 : mm_lf 11 65 = some (11, 22) := by decide +kernel
theorem lf_11_70 : mm_lf 11 70 = some (11, 23) := by decide +kernel
theorem lf_11_73 : mm_lf 11 73 = some (11, 24) := by decide +kernel
theorem lf_11_202 : mm_lf 11 202 = some (11, 16) := by decide +kernel
theorem lf_11_206 : mm_lf 11 206 = some (11, 17) := by decide +kernel
theorem lf_11_212 : mm_lf 11 212 = some (11, 18) := by decide +kernel
theorem lf_11_215 : mm_lf 11 215 = some (11, 19) := by decide +kernel
theorem lf_11_218 : mm_lf 11 218 = some (11, 20) := by decide +kernel
theorem lf_11_260 : mm_lf 11 260 = some (11, 4) := by decide +kernel
theorem lm_0_22 : mm_lm 0 22 = some (5, 0) := by decide +kernel
theorem lm_0_26 : mm_lm 0 26 = some (1, 0) := by decide +kernel
theorem lm_0_30 : mm_lm 0 30 = some (53, 0) := by decide +kernel
theorem lm_0_36 : mm_lm 0 36 = some (227, 1) := by decide +kernel
theorem lm_0_41 : mm_lm 0 41 = some (6, 0) := by decide +kernel
theorem lm_0_45 : mm_lm 0 45 = some (95, 0) := by decide +kernel
theorem lm_0_50 : mm_lm 0 50 = some (11, 0) := by decide +kernel
theorem lm_0_53 : mm_lm 0 53 = some (12, 0) := by decide +kernel
theorem lm_1_30 : mm_lm 1 30 = some (51, 0) := by decide +kernel
theorem lm_1_36 : mm_lm 1 36 = some (0, 7) := by decide +kernel
theorem lm_1_49 : mm_lm 1 49 = some (231, 1) := by decide +kernel
theorem lm_1_55 : mm_lm 1 55 = some (57, 0) := by decide +kernel
theorem lm_1_58 : mm_lm 1 58 = some (55, 0) := by decide +kernel
theorem lm_1_62 : mm_lm 1 62 = some (17, 0) := by decide +kernel
theorem lm_1_66 : mm_lm 1 66 = some (227, 1) := by decide +kernel
theorem lm_1_71 : mm_lm 1 71 = some (53, 0) := by decide +kernel
theorem lm_1_74 : mm_lm 1 74 = some (18, 0) := by decide +kernel
theorem lm_1_87 : mm_lm 1 87 = some (19, 0) := by decide +kernel
theorem lm_1_90 : mm_lm 1 90 = some (21, 0) := by decide +kernel
theorem lm_1_93 : mm_lm 1 93 = some (24, 0) := by decide +kernel
theorem lm_1_97 : mm_lm 1 97 = some (22, 0) := by decide +kernel
theorem lm_1_101 : mm_lm 1 101 = some (23, 0) := by decide +kernel
theorem lm_1_109 : mm_lm 1 109 = some (27, 0) := by decide +kernel
theorem lm_1_112 : mm_lm 1 112 = some (28, 0) := by decide +kernel
theorem lm_2_18 : mm_lm 2 18 = some (231, 1) := by decide +kernel
theorem lm_2_28 : mm_lm 2 28 = some (31, 1) := by decide +kernel
theorem lm_2_32 : mm_lm 2 32 = some (33, 0) := by decide +kernel
theorem lm_2_41 : mm_lm 2 41 = some (66, 0) := by decide +kernel
theorem lm_2_45 : mm_lm 2 45 = some (32, 1) := by decide +kernel
theorem lm_2_49 : mm_lm 2 49 = some (94, 0) := by decide +kernel
theorem lm_2_56 : mm_lm 2 56 = some (34, 0) := by decide +kernel
theorem lm_3_29 : mm_lm 3 29 = some (51, 0) := by decide +kernel
theorem lm_3_35 : mm_lm 3 35 = some (37, 0) := by decide +kernel
theorem lm_3_39 : mm_lm 3 39 = some (39, 0) := by decide +kernel
theorem lm_3_43 : mm_lm 3 43 = some (41, 0) := by decide +kernel
theorem lm_3_47 : mm_lm 3 47 = some (38, 0) := by decide +kernel
theorem lm_3_56 : mm_lm 3 56 = some (231, 1) := by decide +kernel
theorem lm_3_62 : mm_lm 3 62 = some (53, 0) := by decide +kernel
theorem lm_3_65 : mm_lm 3 65 = some (227, 1) := by decide +kernel
theorem lm_3_68 : mm_lm 3 68 = some (40, 0) := by decide +kernel
theorem lm_4_15 : mm_lm 4 15 = some (45, 0) := by decide +kernel
theorem lm_4_19 : mm_lm 4 19 = some (46, 0) := by decide +kernel
theorem lm_4_23 : mm_lm 4 23 = some (5, 0) := by decide +kernel
theorem lm_5_21 : mm_lm 5 21 = some (231, 1) := by decide +kernel
theorem lm_5_27 : mm_lm 5 27 = some (65, 0) := by decide +kernel
theorem lm_5_33 : mm_lm 5 33 = some (227, 1) := by decide +kernel
theorem lm_5_39 : mm_lm 5 39 = some (49, 0) := by decide +kernel
theorem lm_5_43 : mm_lm 5 43 = some (50, 0) := by decide +kernel
theorem lm_5_51 : mm_lm 5 51 = some (66, 0) := by decide +kernel
theorem lm_5_55 : mm_lm 5 55 = some (95, 0) := by decide +kernel
theorem lm_5_60 : mm_lm 5 60 = some (51, 0) := by decide +kernel
theorem lm_5_63 : mm_lm 5 63 = some (53, 0) := by decide +kernel
theorem lm_5_66 : mm_lm 5 66 = some (54, 0) := by decide +kernel
theorem lm_5_70 : mm_lm 5 70 = some (58, 0) := by decide +kernel
theorem lm_6_39 : mm_lm 6 39 = some (1, 0) := by decide +kernel
theorem lm_6_43 : mm_lm 6 43 = some (2, 0) := by decide +kernel
theorem lm_6_47 : mm_lm 6 47 = some (66, 0) := by decide +kernel
theorem lm_6_51 : mm_lm 6 51 = some (89, 0) := by decide +kernel
theorem lm_6_54 : mm_lm 6 54 = some (69, 0) := by decide +kernel
theorem lm_6_58 : mm_lm 6 58 = some (65, 0) := by decide +kernel
theorem lm_7_22 : mm_lm 7 22 = some (0, 7) := by decide +kernel
theorem lm_7_28 : mm_lm 7 28 = some (0, 6) := by decide +kernel
theorem lm_7_31 : mm_lm 7 31 = some (230, 1) := by decide +kernel
theorem lm_7_37 : mm_lm 7 37 = some (73, 0) := by decide +kernel
theorem lm_7_43 : mm_lm 7 43 = some (76, 0) := by decide +kernel
theorem lm_7_47 : mm_lm 7 47 = some (77, 0) := by decide +kernel
theorem lm_7_51 : mm_lm 7 51 = some (0, 4) := by decide +kernel
theorem lm_8_19 : mm_lm 8 19 = some (81, 0) := by decide +kernel
theorem lm_8_23 : mm_lm 8 23 = some (82, 0) := by decide +kernel
theorem lm_8_26 : mm_lm 8 26 = some (87, 1) := by decide +kernel
theorem lm_8_29 : mm_lm 8 29 = some (83, 0) := by decide +kernel
theorem lm_8_33 : mm_lm 8 33 = some (86, 1) := by decide +kernel
theorem lm_9_22 : mm_lm 9 22 = some (0, 4) := by decide +kernel
theorem lm_9_28 : mm_lm 9 28 = some (91, 0) := by decide +kernel
theorem lm_9_32 : mm_lm 9 32 = some (150, 3) := by decide +kernel
theorem lm_9_35 : mm_lm 9 35 = some (92, 1) := by decide +kernel
theorem lm_9_39 : mm_lm 9 39 = some (97, 0) := by decide +kernel
theorem lm_9_43 : mm_lm 9 43 = some (94, 0) := by decide +kernel
theorem lm_10_88 : mm_lm 10 88 = some (60, 0) := by decide +kernel
theorem lm_10_92 : mm_lm 10 92 = some (142, 1) := by decide +kernel
theorem lm_10_96 : mm_lm 10 96 = some (67, 0) := by decide +kernel
theorem lm_10_100 : mm_lm 10 100 = some (90, 0) := by decide +kernel
theorem lm_10_109 : mm_lm 10 109 = some (143, 1) := by decide +kernel
theorem lm_10_112 : mm_lm 10 112 = some (93, 0) := by decide +kernel
theorem lm_10_116 : mm_lm 10 116 = some (66, 0) := by decide +kernel
theorem lm_10_120 : mm_lm 10 120 = some (68, 0) := by decide +kernel
theorem lm_10_132 : mm_lm 10 132 = some (9, 0) := by decide +kernel
theorem lm_10_136 : mm_lm 10 136 = some (96, 0) := by decide +kernel
theorem lm_10_140 : mm_lm 10 140 = some (62, 0) := by decide +kernel
theorem lm_10_144 : mm_lm 10 144 = some (94, 0) := by decide +kernel
theorem lm_10_148 : mm_lm 10 148 = some (64, 0) := by decide +kernel
theorem lm_10_151 : mm_lm 10 151 = some (95, 0) := by decide +kernel
theorem lm_10_154 : mm_lm 10 154 = some (30, 0) := by decide +kernel
theorem lm_10_158 : mm_lm 10 158 = some (63, 0) := by decide +kernel
theorem lm_10_161 : mm_lm 10 161 = some (48, 0) := by decide +kernel
theorem lm_10_165 : mm_lm 10 165 = some (51, 0) := by decide +kernel
theorem lm_10_168 : mm_lm 10 168 = some (52, 0) := by decide +kernel
theorem lm_10_171 : mm_lm 10 171 = some (55, 0) := by decide +kernel
theorem lm_10_175 : mm_lm 10 175 = some (57, 0) := by decide +kernel
theorem lm_10_179 : mm_lm 10 179 = some (56, 0) := by decide +kernel
theorem lm_10_182 : mm_lm 10 182 = some (53, 0) := by decide +kernel
theorem lm_10_185 : mm_lm 10 185 = some (139, 0) := by decide +kernel
theorem lm_10_188 : mm_lm 10 188 = some (58, 0) := by decide +kernel
theorem lm_10_191 : mm_lm 10 191 = some (140, 1) := by decide +kernel
theorem lm_10_194 : mm_lm 10 194 = some (144, 0) := by decide +kernel
theorem lm_10_197 : mm_lm 10 197 = some (20, 0) := by decide +kernel
theorem lm_10_206 : mm_lm 10 206 = some (26, 0) := by decide +kernel
theorem lm_10_212 : mm_lm 10 212 = some (141, 1) := by decide +kernel
theorem lm_10_215 : mm_lm 10 215 = some (3, 0) := by decide +kernel
theorem lm_10_222 : mm_lm 10 222 = some (227, 1) := by decide +kernel
theorem lm_10_230 : mm_lm 10 230 = some (5, 0) := by decide +kernel
theorem lm_10_233 : mm_lm 10 233 = some (6, 0) := by decide +kernel
theorem lm_10_237 : mm_lm 10 237 = some (7, 0) := by decide +kernel
theorem lm_10_239 : mm_lm 10 239 = some (65, 0) := by decide +kernel
theorem lm_10_242 : mm_lm 10 242 = some (13, 0) := by decide +kernel
theorem lm_10_245 : mm_lm 10 245 = some (8, 0) := by decide +kernel
theorem lm_10_248 : mm_lm 10 248 = some (12, 0) := by decide +kernel
theorem lm_10_251 : mm_lm 10 251 = some (10, 0) := by decide +kernel
theorem lm_10_254 : mm_lm 10 254 = some (14, 0) := by decide +kernel
theorem lm_10_257 : mm_lm 10 257 = some (4, 0) := by decide +kernel
theorem lm_10_261 : mm_lm 10 261 = some (70, 0) := by decide +kernel
theorem lm_10_265 : mm_lm 10 265 = some (2, 0) := by decide +kernel
theorem lm_10_272 : mm_lm 10 272 = some (69, 0) := by decide +kernel
theorem lm_10_276 : mm_lm 10 276 = some (43, 0) := by decide +kernel
theorem lm_10_280 : mm_lm 10 280 = some (44, 0) := by decide +kernel
theorem lm_10_284 : mm_lm 10 284 = some (145, 0) := by decide +kernel
theorem lm_10_287 : mm_lm 10 287 = some (36, 0) := by decide +kernel
theorem lm_10_297 : mm_lm 10 297 = some (80, 0) := by decide +kernel
theorem lm_10_303 : mm_lm 10 303 = some (85, 0) := by decide +kernel
theorem lm_10_306 : mm_lm 10 306 = some (146, 0) := by decide +kernel
theorem lm_10_309 : mm_lm 10 309 = some (149, 0) := by decide +kernel
theorem lm_10_317 : mm_lm 10 317 = some (74, 0) := by decide +kernel
theorem lm_10_321 : mm_lm 10 321 = some (61, 0) := by decide +kernel
theorem lm_10_323 : mm_lm 10 323 = some (72, 0) := by decide +kernel
theorem lm_10_326 : mm_lm 10 326 = some (75, 0) := by decide +kernel
theorem lm_10_331 : mm_lm 10 331 = some (77, 0) := by decide +kernel
theorem lm_10_334 : mm_lm 10 334 = some (78, 0) := by decide +kernel
theorem lm_10_338 : mm_lm 10 338 = some (16, 0) := by decide +kernel
theorem lm_10_341 : mm_lm 10 341 = some (25, 0) := by decide +kernel
theorem lm_10_344 : mm_lm 10 344 = some (83, 0) := by decide +kernel
theorem lm_10_347 : mm_lm 10 347 = some (147, 0) := by decide +kernel
theorem lm_10_350 : mm_lm 10 350 = some (84, 0) := by decide +kernel
theorem lm_10_353 : mm_lm 10 353 = some (81, 0) := by decide +kernel
theorem lm_10_356 : mm_lm 10 356 = some (99, 0) := by decide +kernel
theorem lm_10_359 : mm_lm 10 359 = some (100, 0) := by decide +kernel
theorem lm_10_362 : mm_lm 10 362 = some (101, 0) := by decide +kernel
theorem lm_10_365 : mm_lm 10 365 = some (115, 0) := by decide +kernel
theorem lm_10_368 : mm_lm 10 368 = some (148, 0) := by decide +kernel
theorem lm_10_371 : mm_lm 10 371 = some (82, 0) := by decide +kernel
theorem lm_10_374 : mm_lm 10 374 = some (116, 0) := by decide +kernel
theorem lm_11_77 : mm_lm 11 77 = some (153, 0) := by decide +kernel
theorem lm_11_81 : mm_lm 11 81 = some (155, 0) := by decide +kernel
theorem lm_11_85 : mm_lm 11 85 = some (152, 1) := by decide +kernel
theorem lm_11_93 : mm_lm 11 93 = some (160, 1) := by decide +kernel
theorem lm_11_101 : mm_lm 11 101 = some (161, 0) := by decide +kernel
theorem lm_11_105 : mm_lm 11 105 = some (157, 0) := by decide +kernel
theorem lm_11_109 : mm_lm 11 109 = some (158, 0) := by decide +kernel
theorem lm_11_112 : mm_lm 11 112 = some (165, 0) := by decide +kernel
theorem lm_11_115 : mm_lm 11 115 = some (166, 0) := by decide +kernel
theorem lm_11_118 : mm_lm 11 118 = some (168, 0) := by decide +kernel
theorem lm_11_121 : mm_lm 11 121 = some (167, 0) := by decide +kernel
theorem lm_11_125 : mm_lm 11 125 = some (156, 0) := by decide +kernel
theorem lm_11_128 : mm_lm 11 128 = some (154, 1) := by decide +kernel
theorem lm_11_131 : mm_lm 11 131 = some (174, 0) := by decide +kernel
theorem lm_11_134 : mm_lm 11 134 = some (173, 0) := by decide +kernel
theorem lm_11_137 : mm_lm 11 137 = some (176, 0) := by decide +kernel
theorem lm_11_143 : mm_lm 11 143 = some (177, 0) := by decide +kernel
theorem lm_11_146 : mm_lm 11 146 = some (181, 0) := by decide +kernel
theorem lm_11_150 : mm_lm 11 150 = some (182, 0) := by decide +kernel
theorem lm_11_154 : mm_lm 11 154 = some (184, 0) := by decide +kernel
theorem lm_11_157 : mm_lm 11 157 = some (185, 0) := by decide +kernel
theorem lm_11_163 : mm_lm 11 163 = some (186, 0) := by decide +kernel
theorem lm_11_167 : mm_lm 11 167 = some (189, 0) := by decide +kernel
theorem lm_11_170 : mm_lm 11 170 = some (191, 1) := by decide +kernel
theorem lm_11_174 : mm_lm 11 174 = some (195, 1) := by decide +kernel
theorem lm_11_178 : mm_lm 11 178 = some (196, 1) := by decide +kernel
theorem lm_11_181 : mm_lm 11 181 = some (203, 0) := by decide +kernel
theorem lm_11_184 : mm_lm 11 184 = some (205, 0) := by decide +kernel
theorem lm_11_187 : mm_lm 11 187 = some (206, 0) := by decide +kernel
theorem lm_11_191 : mm_lm 11 191 = some (207, 0) := by decide +kernel
theorem lm_11_209 : mm_lm 11 209 = some (213, 0) := by decide +kernel
theorem lm_11_225 : mm_lm 11 225 = some (159, 0) := by decide +kernel
theorem lm_11_228 : mm_lm 11 228 = some (162, 0) := by decide +kernel
theorem lm_11_231 : mm_lm 11 231 = some (163, 0) := by decide +kernel
theorem lm_11_234 : mm_lm 11 234 = some (192, 0) := by decide +kernel
theorem lm_11_237 : mm_lm 11 237 = some (193, 0) := by decide +kernel
theorem lm_11_240 : mm_lm 11 240 = some (214, 0) := by decide +kernel
theorem lm_11_244 : mm_lm 11 244 = some (215, 0) := by decide +kernel
theorem lm_11_249 : mm_lm 11 249 = some (217, 1) := by decide +kernel
theorem lm_11_256 : mm_lm 11 256 = some (223, 1) := by decide +kernel
theorem ki_1_105 : mm_ki 1 105 = some (nI 2147483647) := by decide +kernel
theorem ki_2_55 : mm_ki 2 55 = some ((-1640531535)) := by decide +kernel
theorem ki_3_51 : mm_ki 3 51 = some (nI 1103515245) := by decide +kernel
theorem ki_3_54 : mm_ki 3 54 = some (nI 2147483647) := by decide +kernel
theorem ki_3_55 : mm_ki 3 55 = some (nI 65536) := by decide +kernel
theorem ki_11_197 : mm_ki 11 197 = some (nI 1103515245) := by decide +kernel
theorem ki_11_198 : mm_ki 11 198 = some (nI 2147483647) := by decide +kernel
theorem ki_11_199 : mm_ki 11 199 = some (nI 65536) := by decide +kernel
theorem kl_7_41 : mm_kl 7 41 = some (-9223372036854775808) := by decide +kernel
theorem kl_10_329 : mm_kl 10 329 = some (-9223372036854775808) := by decide +kernel
theorem kl_11_89 : mm_kl 11 89 = some (lN 3) := by decide +kernel
theorem kl_11_91 : mm_kl 11 91 = some (lN 8) := by decide +kernel
theorem kl_11_97 : mm_kl 11 97 = some (lN 4) := by decide +kernel
theorem kl_11_99 : mm_kl 11 99 = some (lN 9) := by decide +kernel
theorem kl_11_141 : mm_kl 11 141 = some (lN 2) := by decide +kernel
theorem kl_11_161 : mm_kl 11 161 = some (lN 70) := by decide +kernel
theorem kl_11_195 : mm_kl 11 195 = some (lN 20) := by decide +kernel
theorem kl_11_200 : mm_kl 11 200 = some (lN 127) := by decide +kernel
theorem kl_11_221 : mm_kl 11 221 = some (lN 48) := by decide +kernel
theorem kl_11_223 : mm_kl 11 223 = some (lN 57) := by decide +kernel
theorem kl_11_247 : mm_kl 11 247 = some (lN 5) := by decide +kernel
theorem kl_11_252 : mm_kl 11 252 = some (-1) := by decide +kernel
theorem kl_11_254 : mm_kl 11 254 = some (-9223372036854775808) := by decide +kernel
theorem r0_1_0 : mm_R0 1 0 = some 2 := by decide +kernel
theorem r0_1_1 : mm_R0 1 1 = some 23 := by decide +kernel
theorem r0_1_3 : mm_R0 1 3 = some 44 := by decide +kernel
theorem r0_1_4 : mm_R0 1 4 = some 46 := by decide +kernel
theorem r0_1_5 : mm_R0 1 5 = some 59 := by decide +kernel
theorem r0_1_6 : mm_R0 1 6 = some 63 := by decide +kernel
theorem r0_1_7 : mm_R0 1 7 = some 66 := by decide +kernel
theorem r0_1_8 : mm_R0 1 8 = some 73 := by decide +kernel
theorem r0_1_9 : mm_R0 1 9 = some 75 := by decide +kernel
theorem r0_1_10 : mm_R0 1 10 = some 78 := by decide +kernel
theorem r0_1_11 : mm_R0 1 11 = some 80 := by decide +kernel
theorem r0_2_3 : mm_R0 2 3 = some 3 := by decide +kernel
theorem r0_44_1 : mm_R0 44 1 = some 45 := by decide +kernel
theorem r0_59_0 : mm_R0 59 0 = some 60 := by decide +kernel
theorem r0_59_1 : mm_R0 59 1 = some 61 := by decide +kernel
theorem r0_59_2 : mm_R0 59 2 = some 62 := by decide +kernel
theorem r0_63_0 : mm_R0 63 0 = some 64 := by decide +kernel
theorem r0_63_1 : mm_R0 63 1 = some 65 := by decide +kernel
theorem r0_66_0 : mm_R0 66 0 = some 67 := by decide +kernel
theorem r0_66_1 : mm_R0 66 1 = some 68 := by decide +kernel
theorem r0_66_2 : mm_R0 66 2 = some 69 := by decide +kernel
theorem r0_66_3 : mm_R0 66 3 = some 70 := by decide +kernel
theorem r0_66_4 : mm_R0 66 4 = some 71 := by decide +kernel
theorem r0_66_5 : mm_R0 66 5 = some 72 := by decide +kernel
theorem r0_73_0 : mm_R0 73 0 = some 74 := by decide +kernel
theorem r0_75_0 : mm_R0 75 0 = some 76 := by decide +kernel
theorem r0_75_1 : mm_R0 75 1 = some 77 := by decide +kernel
theorem r0_82_0 : mm_R0 82 0 = some 83 := by decide +kernel
theorem r0_82_1 : mm_R0 82 1 = some 84 := by decide +kernel
theorem r0_82_2 : mm_R0 82 2 = some 85 := by decide +kernel
theorem r0_82_3 : mm_R0 82 3 = some 91 := by decide +kernel
theorem r0_82_5 : mm_R0 82 5 = some 97 := by decide +kernel
theorem r0_82_6 : mm_R0 82 6 = some 98 := by decide +kernel
theorem r0_82_7 : mm_R0 82 7 = some 99 := by decide +kernel
theorem r0_82_8 : mm_R0 82 8 = some 100 := by decide +kernel
theorem r0_82_9 : mm_R0 82 9 = some 101 := by decide +kernel
theorem r0_82_10 : mm_R0 82 10 = some 102 := by decide +kernel
theorem r0_82_11 : mm_R0 82 11 = some 173 := by decide +kernel
theorem r0_82_12 : mm_R0 82 12 = some 174 := by decide +kernel
theorem r0_82_13 : mm_R0 82 13 = some 175 := by decide +kernel
theorem r0_82_14 : mm_R0 82 14 = some 176 := by decide +kernel
theorem r0_82_15 : mm_R0 82 15 = some 201 := by decide +kernel
theorem r0_82_21 : mm_R0 82 21 = some 202 := by decide +kernel
theorem r0_82_22 : mm_R0 82 22 = some 203 := by decide +kernel
theorem r0_82_23 : mm_R0 82 23 = some 204 := by decide +kernel
theorem r0_82_24 : mm_R0 82 24 = some 211 := by decide +kernel
theorem r0_85_0 : mm_R0 85 0 = some 86 := by decide +kernel
theorem m0_1 {sn : Nat} : (mm_M0 sn)[1]? = some (10, 12) := rfl
theorem m0_2 {sn : Nat} : (mm_M0 sn)[2]? = some (6, 6) := rfl
theorem m0_3 {sn : Nat} : (mm_M0 sn)[3]? = some (0, 3) := rfl
theorem m0_23 {sn : Nat} : (mm_M0 sn)[23]? = some (6, 6) := rfl
theorem m0_44 {sn : Nat} : (mm_M0 sn)[44]? = some (8, 2) := rfl
theorem m0_45 {sn : Nat} : (mm_M0 sn)[45]? = some (100, 100) := rfl
theorem m0_46 {sn : Nat} : (mm_M0 sn)[46]? = some (105, 6) := rfl
theorem m0_59 {sn : Nat} : (mm_M0 sn)[59]? = some (5, 3) := rfl
theorem m0_60 {sn : Nat} : (mm_M0 sn)[60]? = some (100, 256) := rfl
theorem m0_61 {sn : Nat} : (mm_M0 sn)[61]? = some (100, 9) := rfl
theorem m0_62 {sn : Nat} : (mm_M0 sn)[62]? = some (100, 256) := rfl
theorem m0_63 {sn : Nat} : (mm_M0 sn)[63]? = some (2, 3) := rfl
theorem m0_64 {sn : Nat} : (mm_M0 sn)[64]? = some (100, 500) := rfl
theorem m0_65 {sn : Nat} : (mm_M0 sn)[65]? = some (100, 1024) := rfl
theorem m0_66 {sn : Nat} : (mm_M0 sn)[66]? = some (1, 12) := rfl
theorem m0_67 {sn : Nat} : (mm_M0 sn)[67]? = some (100, 980) := rfl
theorem m0_68 {sn : Nat} : (mm_M0 sn)[68]? = some (100, 70) := rfl
theorem m0_69 {sn : Nat} : (mm_M0 sn)[69]? = some (100, 70) := rfl
theorem m0_70 {sn : Nat} : (mm_M0 sn)[70]? = some (100, 70) := rfl
theorem m0_71 {sn : Nat} : (mm_M0 sn)[71]? = some (100, 14) := rfl
theorem m0_72 {sn : Nat} : (mm_M0 sn)[72]? = some (100, 24) := rfl
theorem m0_73 {sn : Nat} : (mm_M0 sn)[73]? = some (4, 1) := rfl
theorem m0_74 {sn : Nat} : (mm_M0 sn)[74]? = some (100, 256) := rfl
theorem m0_75 {sn : Nat} : (mm_M0 sn)[75]? = some (3, 5) := rfl
theorem m0_76 {sn : Nat} : (mm_M0 sn)[76]? = some (101, 70) := rfl
theorem m0_77 {sn : Nat} : (mm_M0 sn)[77]? = some (100, 8) := rfl
theorem m0_78 {sn : Nat} : (mm_M0 sn)[78]? = some (0, 3) := rfl
theorem m0_80 {sn : Nat} : (mm_M0 sn)[80]? = some (0, 3) := rfl
theorem m0_82 {sn : Nat} : (mm_M0 sn)[82]? = some (11, 25) := rfl
theorem m0_83 {sn : Nat} : (mm_M0 sn)[83]? = some (100, 48) := rfl
theorem m0_84 {sn : Nat} : (mm_M0 sn)[84]? = some (100, 48) := rfl
theorem m0_85 {sn : Nat} : (mm_M0 sn)[85]? = some (107, 5) := rfl
theorem m0_86 {sn : Nat} : (mm_M0 sn)[86]? = some (101, 256) := rfl
theorem m0_91 {sn : Nat} : (mm_M0 sn)[91]? = some (107, 5) := rfl
theorem m0_97 {sn : Nat} : (mm_M0 sn)[97]? = some (100, 8) := rfl
theorem m0_98 {sn : Nat} : (mm_M0 sn)[98]? = some (100, 500) := rfl
theorem m0_99 {sn : Nat} : (mm_M0 sn)[99]? = some (100, 256) := rfl
theorem m0_100 {sn : Nat} : (mm_M0 sn)[100]? = some (100, 9) := rfl
theorem m0_101 {sn : Nat} : (mm_M0 sn)[101]? = some (100, 256) := rfl
theorem m0_102 {sn : Nat} : (mm_M0 sn)[102]? = some (106, 70) := rfl
theorem m0_173 {sn : Nat} : (mm_M0 sn)[173]? = some (100, 70) := rfl
theorem m0_174 {sn : Nat} : (mm_M0 sn)[174]? = some (101, 256) := rfl
theorem m0_175 {sn : Nat} : (mm_M0 sn)[175]? = some (100, 8) := rfl
theorem m0_176 {sn : Nat} : (mm_M0 sn)[176]? = some (107, 24) := rfl
theorem m0_201 {sn : Nat} : (mm_M0 sn)[201]? = some (100, 100) := rfl
theorem m0_202 {sn : Nat} : (mm_M0 sn)[202]? = some (100, 6) := rfl
theorem m0_203 {sn : Nat} : (mm_M0 sn)[203]? = some (100, 6) := rfl
theorem m0_204 {sn : Nat} : (mm_M0 sn)[204]? = some (108, 6) := rfl
theorem m0_211 {sn : Nat} : (mm_M0 sn)[211]? = some (102, 60) := rfl
theorem mm_inx {x : Int32} {i n : Nat} (hx : x = nI i) (hi : i < n) (hn : n < 2 ^ 31) : vp_in x n := by subst hx; exact vp_in_nI hi hn
theorem mm_rx {x : Int32} {i a y : Nat} (hx : x = nI i) (hi : i < 2 ^ 31) (h : mm_R0 a i = some y) : mm_R0 a x.toNatClampNeg = some y := by subst hx; rw [nI_clamp hi]; exact h
theorem mm_out {x : Int32} {lo hi : Int} {j : Nat} (hc : x.toInt < lo ∨ hi < x.toInt) (h1 : lo ≤ (j : Int)) (h2 : (j : Int) ≤ hi ∧ j < 2 ^ 31) : ¬ x = nI j := by
  intro e
  subst e
  rw [nI_toInt h2.2] at hc
  omega
theorem mm_tabc {x : Int32} {n lo : Nat} {hi : Int} (hl : hi + 1 = (lo : Int) + n) (hc : ¬ (x.toInt < (lo : Int) ∨ hi < x.toInt)) (hn : lo + n < 2 ^ 31) : ∃ j, j < n ∧ x = nI (lo + j) := by
  refine ⟨(x.toInt - lo).toNat, by omega, ?_⟩
  rw [← Int32.toInt_inj, nI_toInt (by omega)]
  omega
