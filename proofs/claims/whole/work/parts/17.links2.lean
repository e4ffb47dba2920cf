/-! decoded instructions, links (by program) -/
theorem kI_0_3 : invOf 0 3 = some (4, 0) := by decide +kernel
theorem kI_0_11 : invOf 0 11 = some (3, 47) := by decide +kernel
theorem kI_0_32 : invOf 0 32 = some (0, 2) := by decide +kernel
theorem kI_0_36 : invOf 0 36 = some (0, 59) := by decide +kernel
theorem kI_0_40 : invOf 0 40 = some (0, 68) := by decide +kernel
theorem kI_0_43 : invOf 0 43 = some (0, 71) := by decide +kernel
theorem kI_0_46 : invOf 0 46 = some (2, 4) := by decide +kernel
theorem kI_0_50 : invOf 0 50 = some (0, 66) := by decide +kernel
theorem kI_0_54 : invOf 0 54 = some (2, 3) := by decide +kernel
theorem kI_0_57 : invOf 0 57 = some (0, 69) := by decide +kernel
theorem kI_0_60 : invOf 0 60 = some (2, 6) := by decide +kernel
theorem kI_0_68 : invOf 0 68 = some (0, 19) := by decide +kernel
theorem kI_0_84 : invOf 0 84 = some (0, 10) := by decide +kernel
theorem kI_0_88 : invOf 0 88 = some (0, 15) := by decide +kernel
theorem kI_0_91 : invOf 0 91 = some (0, 73) := by decide +kernel
theorem kI_0_94 : invOf 0 94 = some (0, 11) := by decide +kernel
theorem kI_0_97 : invOf 0 97 = some (0, 53) := by decide +kernel
theorem kI_0_101 : invOf 0 101 = some (0, 12) := by decide +kernel
theorem kI_0_104 : invOf 0 104 = some (0, 16) := by decide +kernel
theorem kI_0_107 : invOf 0 107 = some (0, 74) := by decide +kernel
theorem kI_0_111 : invOf 0 111 = some (0, 7) := by decide +kernel
theorem kI_0_114 : invOf 0 114 = some (0, 8) := by decide +kernel
theorem kI_0_118 : invOf 0 118 = some (0, 25) := by decide +kernel
theorem kI_0_121 : invOf 0 121 = some (0, 17) := by decide +kernel
theorem kI_0_124 : invOf 0 124 = some (0, 18) := by decide +kernel
theorem kI_0_127 : invOf 0 127 = some (0, 20) := by decide +kernel
theorem kI_0_130 : invOf 0 130 = some (0, 5) := by decide +kernel
theorem kI_0_133 : invOf 0 133 = some (0, 9) := by decide +kernel
theorem kI_0_136 : invOf 0 136 = some (2, 21) := by decide +kernel
theorem kI_0_139 : invOf 0 139 = some (2, 22) := by decide +kernel
theorem kI_0_142 : invOf 0 142 = some (0, 60) := by decide +kernel
theorem kI_0_145 : invOf 0 145 = some (0, 24) := by decide +kernel
theorem kI_0_148 : invOf 0 148 = some (0, 23) := by decide +kernel
theorem kF_0_12 : fldOf 0 12 = some (0, 0, 2) := by decide +kernel
theorem kF_0_18 : fldOf 0 18 = some (0, 1, 2) := by decide +kernel
theorem kF_0_22 : fldOf 0 22 = some (0, 2, 2) := by decide +kernel
theorem kF_0_25 : fldOf 0 25 = some (0, 3, 2) := by decide +kernel
theorem kF_0_28 : fldOf 0 28 = some (0, 4, 2) := by decide +kernel
theorem kF_0_64 : fldOf 0 64 = some (0, 7, 0) := by decide +kernel
theorem kF_0_71 : fldOf 0 71 = some (0, 5, 0) := by decide +kernel
theorem kF_0_74 : fldOf 0 74 = some (0, 6, 1) := by decide +kernel
theorem kF_0_78 : fldOf 0 78 = some (0, 8, 0) := by decide +kernel
theorem kF_0_81 : fldOf 0 81 = some (0, 9, 0) := by decide +kernel
theorem kN_0_9 : newOf 0 9 = some 2 := by decide +kernel
theorem kI_1_5 : invOf 1 5 = some (4, 0) := by decide +kernel
theorem kI_1_13 : invOf 1 13 = some (3, 47) := by decide +kernel
theorem kI_1_31 : invOf 1 31 = some (0, 28) := by decide +kernel
theorem kI_1_35 : invOf 1 35 = some (0, 66) := by decide +kernel
theorem kI_1_39 : invOf 1 39 = some (2, 29) := by decide +kernel
theorem kI_1_46 : invOf 1 46 = some (0, 68) := by decide +kernel
theorem kI_1_50 : invOf 1 50 = some (0, 69) := by decide +kernel
theorem kI_1_53 : invOf 1 53 = some (0, 45) := by decide +kernel
theorem kI_1_57 : invOf 1 57 = some (0, 31) := by decide +kernel
theorem kI_1_66 : invOf 1 66 = some (0, 60) := by decide +kernel
theorem kI_1_78 : invOf 1 78 = some (0, 57) := by decide +kernel
theorem kI_1_82 : invOf 1 82 = some (0, 35) := by decide +kernel
theorem kI_1_86 : invOf 1 86 = some (0, 74) := by decide +kernel
theorem kI_1_90 : invOf 1 90 = some (0, 32) := by decide +kernel
theorem kI_1_93 : invOf 1 93 = some (0, 39) := by decide +kernel
theorem kI_1_96 : invOf 1 96 = some (0, 40) := by decide +kernel
theorem kI_1_99 : invOf 1 99 = some (0, 41) := by decide +kernel
theorem kI_1_102 : invOf 1 102 = some (0, 43) := by decide +kernel
theorem kI_1_105 : invOf 1 105 = some (0, 44) := by decide +kernel
theorem kI_1_108 : invOf 1 108 = some (0, 38) := by decide +kernel
theorem kI_1_111 : invOf 1 111 = some (0, 46) := by decide +kernel
theorem kI_1_114 : invOf 1 114 = some (0, 36) := by decide +kernel
theorem kI_1_117 : invOf 1 117 = some (0, 37) := by decide +kernel
theorem kI_1_120 : invOf 1 120 = some (2, 33) := by decide +kernel
theorem kI_1_123 : invOf 1 123 = some (2, 34) := by decide +kernel
theorem kI_1_126 : invOf 1 126 = some (0, 59) := by decide +kernel
theorem kI_1_128 : invOf 1 128 = some (0, 42) := by decide +kernel
theorem kF_1_14 : fldOf 1 14 = some (1, 0, 2) := by decide +kernel
theorem kF_1_18 : fldOf 1 18 = some (1, 1, 2) := by decide +kernel
theorem kF_1_22 : fldOf 1 22 = some (1, 2, 2) := by decide +kernel
theorem kF_1_25 : fldOf 1 25 = some (1, 3, 2) := by decide +kernel
theorem kF_1_28 : fldOf 1 28 = some (1, 4, 2) := by decide +kernel
theorem kF_1_42 : fldOf 1 42 = some (1, 5, 0) := by decide +kernel
theorem kF_1_60 : fldOf 1 60 = some (1, 9, 0) := by decide +kernel
theorem kF_1_63 : fldOf 1 63 = some (1, 10, 0) := by decide +kernel
theorem kF_1_69 : fldOf 1 69 = some (1, 6, 0) := by decide +kernel
theorem kF_1_72 : fldOf 1 72 = some (1, 7, 0) := by decide +kernel
theorem kF_1_75 : fldOf 1 75 = some (1, 8, 0) := by decide +kernel
theorem kN_1_11 : newOf 1 11 = some 2 := by decide +kernel
theorem kI_2_5 : invOf 2 5 = some (4, 0) := by decide +kernel
theorem kI_2_15 : invOf 2 15 = some (5, 0) := by decide +kernel
theorem kI_2_21 : invOf 2 21 = some (0, 53) := by decide +kernel
theorem kI_2_25 : invOf 2 25 = some (0, 52) := by decide +kernel
theorem kI_2_28 : invOf 2 28 = some (0, 56) := by decide +kernel
theorem kI_2_32 : invOf 2 32 = some (0, 73) := by decide +kernel
theorem kI_2_36 : invOf 2 36 = some (0, 55) := by decide +kernel
theorem kI_2_39 : invOf 2 39 = some (0, 48) := by decide +kernel
theorem kI_2_42 : invOf 2 42 = some (0, 49) := by decide +kernel
theorem kI_2_46 : invOf 2 46 = some (0, 64) := by decide +kernel
theorem kI_2_50 : invOf 2 50 = some (0, 65) := by decide +kernel
theorem kI_2_54 : invOf 2 54 = some (0, 68) := by decide +kernel
theorem kI_2_57 : invOf 2 57 = some (0, 74) := by decide +kernel
theorem kI_2_61 : invOf 2 61 = some (0, 75) := by decide +kernel
theorem kI_2_65 : invOf 2 65 = some (2, 80) := by decide +kernel
theorem kI_2_69 : invOf 2 69 = some (2, 81) := by decide +kernel
theorem kI_2_75 : invOf 2 75 = some (2, 82) := by decide +kernel
theorem kI_2_79 : invOf 2 79 = some (0, 66) := by decide +kernel
theorem kI_2_82 : invOf 2 82 = some (2, 85) := by decide +kernel
theorem kI_2_85 : invOf 2 85 = some (0, 69) := by decide +kernel
theorem kF_2_11 : fldOf 2 11 = some (2, 0, 2) := by decide +kernel
theorem kS_2_72 : staOf 2 72 = some 2 := by decide +kernel
theorem kI_3_1 : invOf 3 1 = some (4, 0) := by decide +kernel
theorem kI_3_23 : invOf 3 23 = some (5, 0) := by decide +kernel
theorem kI_3_29 : invOf 3 29 = some (0, 50) := by decide +kernel
theorem kF_3_11 : fldOf 3 11 = some (3, 0, 2) := by decide +kernel
theorem kF_3_16 : fldOf 3 16 = some (3, 2, 0) := by decide +kernel
theorem kF_3_20 : fldOf 3 20 = some (3, 1, 0) := by decide +kernel
theorem kI_4_3 : invOf 4 3 = some (4, 0) := by decide +kernel
theorem kI_4_11 : invOf 4 11 = some (3, 47) := by decide +kernel
theorem kI_4_29 : invOf 4 29 = some (0, 51) := by decide +kernel
theorem kI_4_32 : invOf 4 32 = some (0, 94) := by decide +kernel
theorem kI_4_36 : invOf 4 36 = some (0, 53) := by decide +kernel
theorem kI_4_40 : invOf 4 40 = some (0, 83) := by decide +kernel
theorem kI_4_44 : invOf 4 44 = some (0, 84) := by decide +kernel
theorem kI_4_47 : invOf 4 47 = some (0, 54) := by decide +kernel
theorem kI_4_50 : invOf 4 50 = some (0, 99) := by decide +kernel
theorem kI_4_53 : invOf 4 53 = some (0, 95) := by decide +kernel
theorem kI_4_56 : invOf 4 56 = some (0, 96) := by decide +kernel
theorem kI_4_59 : invOf 4 59 = some (0, 97) := by decide +kernel
theorem kI_4_62 : invOf 4 62 = some (0, 52) := by decide +kernel
theorem kI_4_65 : invOf 4 65 = some (2, 100) := by decide +kernel
theorem kI_4_69 : invOf 4 69 = some (0, 101) := by decide +kernel
theorem kI_4_72 : invOf 4 72 = some (0, 62) := by decide +kernel
theorem kI_4_76 : invOf 4 76 = some (0, 61) := by decide +kernel
theorem kI_4_79 : invOf 4 79 = some (0, 59) := by decide +kernel
theorem kI_4_82 : invOf 4 82 = some (0, 103) := by decide +kernel
theorem kI_4_85 : invOf 4 85 = some (0, 98) := by decide +kernel
theorem kI_4_88 : invOf 4 88 = some (0, 67) := by decide +kernel
theorem kI_4_92 : invOf 4 92 = some (0, 70) := by decide +kernel
theorem kI_4_95 : invOf 4 95 = some (0, 102) := by decide +kernel
theorem kI_4_98 : invOf 4 98 = some (0, 72) := by decide +kernel
theorem kI_4_101 : invOf 4 101 = some (0, 63) := by decide +kernel
theorem kI_4_104 : invOf 4 104 = some (0, 73) := by decide +kernel
theorem kI_4_107 : invOf 4 107 = some (2, 80) := by decide +kernel
theorem kI_4_111 : invOf 4 111 = some (0, 76) := by decide +kernel
theorem kI_4_114 : invOf 4 114 = some (0, 75) := by decide +kernel
theorem kI_4_118 : invOf 4 118 = some (0, 55) := by decide +kernel
theorem kF_4_12 : fldOf 4 12 = some (4, 0, 2) := by decide +kernel
theorem kF_4_18 : fldOf 4 18 = some (4, 1, 2) := by decide +kernel
theorem kF_4_22 : fldOf 4 22 = some (4, 2, 0) := by decide +kernel
theorem kF_4_26 : fldOf 4 26 = some (4, 3, 0) := by decide +kernel
theorem kN_4_9 : newOf 4 9 = some 2 := by decide +kernel
theorem kI_5_1 : invOf 5 1 = some (4, 0) := by decide +kernel
theorem kI_5_9 : invOf 5 9 = some (3, 90) := by decide +kernel
theorem kI_5_18 : invOf 5 18 = some (3, 47) := by decide +kernel
theorem kI_5_28 : invOf 5 28 = some (3, 0) := by decide +kernel
theorem kI_5_35 : invOf 5 35 = some (3, 26) := by decide +kernel
theorem kI_5_42 : invOf 5 42 = some (1, 86) := by decide +kernel
theorem kI_5_54 : invOf 5 54 = some (6, 0) := by decide +kernel
theorem kI_5_60 : invOf 5 60 = some (7, 0) := by decide +kernel
theorem kI_5_64 : invOf 5 64 = some (0, 91) := by decide +kernel
theorem kI_5_68 : invOf 5 68 = some (0, 92) := by decide +kernel
theorem kI_5_78 : invOf 5 78 = some (0, 50) := by decide +kernel
theorem kI_5_85 : invOf 5 85 = some (0, 93) := by decide +kernel
theorem kI_5_89 : invOf 5 89 = some (0, 87) := by decide +kernel
theorem kI_5_92 : invOf 5 92 = some (0, 53) := by decide +kernel
theorem kI_5_95 : invOf 5 95 = some (0, 55) := by decide +kernel
theorem kI_5_98 : invOf 5 98 = some (0, 59) := by decide +kernel
theorem kI_5_102 : invOf 5 102 = some (0, 60) := by decide +kernel
theorem kI_5_106 : invOf 5 106 = some (0, 56) := by decide +kernel
theorem kI_5_109 : invOf 5 109 = some (0, 68) := by decide +kernel
theorem kI_5_112 : invOf 5 112 = some (0, 64) := by decide +kernel
theorem kI_5_115 : invOf 5 115 = some (0, 57) := by decide +kernel
theorem kI_5_119 : invOf 5 119 = some (0, 74) := by decide +kernel
theorem kI_5_123 : invOf 5 123 = some (0, 79) := by decide +kernel
theorem kI_5_127 : invOf 5 127 = some (0, 88) := by decide +kernel
theorem kI_5_130 : invOf 5 130 = some (0, 75) := by decide +kernel
theorem kI_5_134 : invOf 5 134 = some (0, 73) := by decide +kernel
theorem kI_5_137 : invOf 5 137 = some (0, 76) := by decide +kernel
theorem kI_5_141 : invOf 5 141 = some (0, 77) := by decide +kernel
theorem kI_5_144 : invOf 5 144 = some (0, 58) := by decide +kernel
theorem kI_5_147 : invOf 5 147 = some (0, 66) := by decide +kernel
theorem kI_5_150 : invOf 5 150 = some (0, 67) := by decide +kernel
theorem kI_5_154 : invOf 5 154 = some (0, 71) := by decide +kernel
theorem kI_5_157 : invOf 5 157 = some (0, 72) := by decide +kernel
theorem kI_5_163 : invOf 5 163 = some (0, 89) := by decide +kernel
theorem kI_5_167 : invOf 5 167 = some (0, 1) := by decide +kernel
theorem kI_5_170 : invOf 5 170 = some (0, 12) := by decide +kernel
theorem kI_5_179 : invOf 5 179 = some (0, 11) := by decide +kernel
theorem kI_5_182 : invOf 5 182 = some (0, 7) := by decide +kernel
theorem kI_5_188 : invOf 5 188 = some (0, 9) := by decide +kernel
theorem kI_5_191 : invOf 5 191 = some (0, 13) := by decide +kernel
theorem kI_5_194 : invOf 5 194 = some (0, 14) := by decide +kernel
theorem kI_5_197 : invOf 5 197 = some (0, 54) := by decide +kernel
theorem kI_5_200 : invOf 5 200 = some (0, 83) := by decide +kernel
theorem kI_5_203 : invOf 5 203 = some (0, 126) := by decide +kernel
theorem kI_5_207 : invOf 5 207 = some (0, 27) := by decide +kernel
theorem kI_5_211 : invOf 5 211 = some (0, 30) := by decide +kernel
theorem kI_5_224 : invOf 5 224 = some (0, 32) := by decide +kernel
theorem kI_5_225 : invOf 5 225 = some (2, 33) := by decide +kernel
theorem kI_5_228 : invOf 5 228 = some (2, 129) := by decide +kernel
theorem kI_5_231 : invOf 5 231 = some (0, 130) := by decide +kernel
theorem kI_5_234 : invOf 5 234 = some (2, 222) := by decide +kernel
theorem kI_5_248 : invOf 5 248 = some (0, 52) := by decide +kernel
theorem kI_5_251 : invOf 5 251 = some (0, 78) := by decide +kernel
theorem kF_5_10 : fldOf 5 10 = some (5, 0, 2) := by decide +kernel
theorem kF_5_19 : fldOf 5 19 = some (5, 1, 2) := by decide +kernel
theorem kF_5_23 : fldOf 5 23 = some (5, 2, 2) := by decide +kernel
theorem kF_5_29 : fldOf 5 29 = some (5, 3, 2) := by decide +kernel
theorem kF_5_36 : fldOf 5 36 = some (5, 4, 2) := by decide +kernel
theorem kF_5_45 : fldOf 5 45 = some (5, 5, 2) := by decide +kernel
theorem kF_5_49 : fldOf 5 49 = some (5, 6, 2) := by decide +kernel
theorem kF_5_71 : fldOf 5 71 = some (4, 0, 2) := by decide +kernel
theorem kF_5_74 : fldOf 5 74 = some (2, 0, 2) := by decide +kernel
theorem kF_5_82 : fldOf 5 82 = some (4, 2, 0) := by decide +kernel
theorem kF_5_160 : fldOf 5 160 = some (3, 2, 0) := by decide +kernel
theorem kF_5_173 : fldOf 5 173 = some (0, 8, 0) := by decide +kernel
theorem kF_5_176 : fldOf 5 176 = some (0, 9, 0) := by decide +kernel
theorem kF_5_185 : fldOf 5 185 = some (0, 7, 0) := by decide +kernel
theorem kF_5_214 : fldOf 5 214 = some (1, 10, 0) := by decide +kernel
theorem kF_5_217 : fldOf 5 217 = some (1, 9, 0) := by decide +kernel
theorem kF_5_220 : fldOf 5 220 = some (1, 7, 0) := by decide +kernel
theorem kF_5_223 : fldOf 5 223 = some (1, 8, 0) := by decide +kernel
theorem kS_5_245 : staOf 5 245 = some 3 := by decide +kernel
theorem kJ_5_239 : lngOf 5 239 = some 7919 := by decide +kernel
theorem kJ_5_241 : lngOf 5 241 = some 6151 := by decide +kernel
theorem kJ_5_243 : lngOf 5 243 = some 65521 := by decide +kernel
theorem kN_5_7 : newOf 5 7 = some 4 := by decide +kernel
theorem kN_5_16 : newOf 5 16 = some 2 := by decide +kernel
theorem kN_5_26 : newOf 5 26 = some 0 := by decide +kernel
theorem kN_5_33 : newOf 5 33 = some 1 := by decide +kernel
theorem kN_5_40 : newOf 5 40 = some 3 := by decide +kernel
theorem kI_6_1 : invOf 6 1 = some (4, 0) := by decide +kernel
theorem kI_6_62 : invOf 6 62 = some (0, 138) := by decide +kernel
theorem kI_6_65 : invOf 6 65 = some (0, 139) := by decide +kernel
theorem kI_6_69 : invOf 6 69 = some (0, 140) := by decide +kernel
theorem kI_6_73 : invOf 6 73 = some (0, 141) := by decide +kernel
theorem kI_6_77 : invOf 6 77 = some (0, 142) := by decide +kernel
theorem kI_6_106 : invOf 6 106 = some (2, 135) := by decide +kernel
theorem kI_6_116 : invOf 6 116 = some (0, 145) := by decide +kernel
theorem kI_6_130 : invOf 6 130 = some (0, 148) := by decide +kernel
theorem kI_6_136 : invOf 6 136 = some (0, 149) := by decide +kernel
theorem kI_6_140 : invOf 6 140 = some (0, 147) := by decide +kernel
theorem kI_6_143 : invOf 6 143 = some (0, 146) := by decide +kernel
theorem kI_6_147 : invOf 6 147 = some (2, 154) := by decide +kernel
theorem kI_6_151 : invOf 6 151 = some (2, 153) := by decide +kernel
theorem kI_6_160 : invOf 6 160 = some (0, 150) := by decide +kernel
theorem kI_6_163 : invOf 6 163 = some (0, 151) := by decide +kernel
theorem kI_6_166 : invOf 6 166 = some (0, 152) := by decide +kernel
theorem kI_6_169 : invOf 6 169 = some (0, 155) := by decide +kernel
theorem kI_6_172 : invOf 6 172 = some (0, 158) := by decide +kernel
theorem kI_6_176 : invOf 6 176 = some (0, 160) := by decide +kernel
theorem kI_6_187 : invOf 6 187 = some (0, 161) := by decide +kernel
theorem kI_6_193 : invOf 6 193 = some (2, 159) := by decide +kernel
theorem kI_6_196 : invOf 6 196 = some (0, 166) := by decide +kernel
theorem kI_6_199 : invOf 6 199 = some (0, 167) := by decide +kernel
theorem kI_6_202 : invOf 6 202 = some (0, 168) := by decide +kernel
theorem kI_6_206 : invOf 6 206 = some (0, 162) := by decide +kernel
theorem kI_6_209 : invOf 6 209 = some (0, 175) := by decide +kernel
theorem kI_6_219 : invOf 6 219 = some (0, 176) := by decide +kernel
theorem kI_6_222 : invOf 6 222 = some (0, 178) := by decide +kernel
theorem kI_6_225 : invOf 6 225 = some (0, 179) := by decide +kernel
theorem kI_6_228 : invOf 6 228 = some (2, 181) := by decide +kernel
theorem kI_6_231 : invOf 6 231 = some (2, 182) := by decide +kernel
theorem kI_6_234 : invOf 6 234 = some (0, 183) := by decide +kernel
theorem kI_6_237 : invOf 6 237 = some (2, 136) := by decide +kernel
theorem kI_6_240 : invOf 6 240 = some (0, 188) := by decide +kernel
theorem kI_6_243 : invOf 6 243 = some (0, 184) := by decide +kernel
theorem kI_6_247 : invOf 6 247 = some (0, 185) := by decide +kernel
theorem kI_6_250 : invOf 6 250 = some (0, 186) := by decide +kernel
theorem kI_6_253 : invOf 6 253 = some (0, 187) := by decide +kernel
theorem kI_6_256 : invOf 6 256 = some (0, 180) := by decide +kernel
theorem kI_6_259 : invOf 6 259 = some (0, 177) := by decide +kernel
theorem kI_6_268 : invOf 6 268 = some (0, 189) := by decide +kernel
theorem kI_6_271 : invOf 6 271 = some (2, 190) := by decide +kernel
theorem kI_6_274 : invOf 6 274 = some (0, 191) := by decide +kernel
theorem kI_6_279 : invOf 6 279 = some (0, 192) := by decide +kernel
theorem kI_6_282 : invOf 6 282 = some (0, 196) := by decide +kernel
theorem kI_6_285 : invOf 6 285 = some (2, 202) := by decide +kernel
theorem kI_6_307 : invOf 6 307 = some (0, 207) := by decide +kernel
theorem kI_6_310 : invOf 6 310 = some (2, 205) := by decide +kernel
theorem kI_6_313 : invOf 6 313 = some (2, 204) := by decide +kernel
theorem kI_6_316 : invOf 6 316 = some (0, 206) := by decide +kernel
theorem kI_6_320 : invOf 6 320 = some (0, 213) := by decide +kernel
theorem kI_6_323 : invOf 6 323 = some (0, 208) := by decide +kernel
theorem kI_6_326 : invOf 6 326 = some (0, 209) := by decide +kernel
theorem kI_6_329 : invOf 6 329 = some (0, 210) := by decide +kernel
theorem kI_6_332 : invOf 6 332 = some (0, 211) := by decide +kernel
theorem kI_6_335 : invOf 6 335 = some (0, 212) := by decide +kernel
theorem kI_6_338 : invOf 6 338 = some (0, 214) := by decide +kernel
theorem kI_6_341 : invOf 6 341 = some (0, 215) := by decide +kernel
theorem kI_6_350 : invOf 6 350 = some (0, 203) := by decide +kernel
theorem kI_6_353 : invOf 6 353 = some (0, 216) := by decide +kernel
theorem kI_6_366 : invOf 6 366 = some (2, 137) := by decide +kernel
theorem kF_6_7 : fldOf 6 7 = some (6, 1, 2) := by decide +kernel
theorem kF_6_13 : fldOf 6 13 = some (6, 2, 2) := by decide +kernel
theorem kF_6_16 : fldOf 6 16 = some (6, 4, 2) := by decide +kernel
theorem kF_6_19 : fldOf 6 19 = some (6, 5, 2) := by decide +kernel
theorem kF_6_22 : fldOf 6 22 = some (6, 7, 2) := by decide +kernel
theorem kF_6_25 : fldOf 6 25 = some (6, 8, 2) := by decide +kernel
theorem kF_6_28 : fldOf 6 28 = some (6, 10, 2) := by decide +kernel
theorem kF_6_31 : fldOf 6 31 = some (6, 11, 2) := by decide +kernel
theorem kF_6_34 : fldOf 6 34 = some (6, 12, 2) := by decide +kernel
theorem kF_6_37 : fldOf 6 37 = some (6, 14, 2) := by decide +kernel
theorem kF_6_40 : fldOf 6 40 = some (6, 18, 2) := by decide +kernel
theorem kF_6_44 : fldOf 6 44 = some (6, 22, 2) := by decide +kernel
theorem kF_6_47 : fldOf 6 47 = some (6, 23, 2) := by decide +kernel
theorem kF_6_50 : fldOf 6 50 = some (6, 28, 2) := by decide +kernel
theorem kF_6_53 : fldOf 6 53 = some (6, 29, 2) := by decide +kernel
theorem kF_6_56 : fldOf 6 56 = some (6, 30, 2) := by decide +kernel
theorem kF_6_59 : fldOf 6 59 = some (6, 31, 2) := by decide +kernel
theorem kF_6_80 : fldOf 6 80 = some (6, 6, 0) := by decide +kernel
theorem kF_6_84 : fldOf 6 84 = some (6, 9, 0) := by decide +kernel
theorem kF_6_87 : fldOf 6 87 = some (6, 13, 0) := by decide +kernel
theorem kF_6_90 : fldOf 6 90 = some (6, 0, 0) := by decide +kernel
theorem kF_6_93 : fldOf 6 93 = some (6, 3, 0) := by decide +kernel
theorem kF_6_96 : fldOf 6 96 = some (6, 15, 0) := by decide +kernel
theorem kF_6_99 : fldOf 6 99 = some (6, 16, 0) := by decide +kernel
theorem kF_6_110 : fldOf 6 110 = some (6, 17, 0) := by decide +kernel
theorem kF_6_113 : fldOf 6 113 = some (6, 19, 0) := by decide +kernel
theorem kF_6_124 : fldOf 6 124 = some (6, 21, 1) := by decide +kernel
theorem kF_6_157 : fldOf 6 157 = some (6, 20, 0) := by decide +kernel
theorem kF_6_213 : fldOf 6 213 = some (6, 24, 0) := by decide +kernel
theorem kF_6_216 : fldOf 6 216 = some (6, 25, 1) := by decide +kernel
theorem kF_6_262 : fldOf 6 262 = some (6, 27, 0) := by decide +kernel
theorem kF_6_265 : fldOf 6 265 = some (6, 26, 0) := by decide +kernel
theorem kF_6_288 : fldOf 6 288 = some (6, 33, 0) := by decide +kernel
theorem kF_6_291 : fldOf 6 291 = some (6, 32, 0) := by decide +kernel
theorem kF_6_294 : fldOf 6 294 = some (6, 35, 0) := by decide +kernel
theorem kF_6_297 : fldOf 6 297 = some (6, 34, 0) := by decide +kernel
theorem kF_6_300 : fldOf 6 300 = some (6, 36, 0) := by decide +kernel
theorem kJ_6_102 : lngOf 6 102 = some 32 := by decide +kernel
theorem kJ_6_104 : lngOf 6 104 = some 126 := by decide +kernel
theorem kJ_6_120 : lngOf 6 120 = some 48 := by decide +kernel
theorem kJ_6_122 : lngOf 6 122 = some 57 := by decide +kernel
theorem kJ_6_128 : lngOf 6 128 = some 2 := by decide +kernel
theorem kJ_6_134 : lngOf 6 134 = some 5 := by decide +kernel
theorem kJ_6_155 : lngOf 6 155 = some 13 := by decide +kernel
theorem kJ_6_179 : lngOf 6 179 = some 6 := by decide +kernel
theorem kJ_6_181 : lngOf 6 181 = some (-1) := by decide +kernel
theorem kJ_6_183 : lngOf 6 183 = some 9 := by decide +kernel
theorem kJ_6_185 : lngOf 6 185 = some 7 := by decide +kernel
theorem kJ_6_191 : lngOf 6 191 = some 3 := by decide +kernel
theorem kJ_6_277 : lngOf 6 277 = some 10 := by decide +kernel
theorem kJ_6_303 : lngOf 6 303 = some 20000 := by decide +kernel
theorem kJ_6_305 : lngOf 6 305 = some 29999 := by decide +kernel
theorem kJ_6_344 : lngOf 6 344 = some 99 := by decide +kernel
theorem kJ_6_346 : lngOf 6 346 = some 200 := by decide +kernel
theorem kJ_6_348 : lngOf 6 348 = some 4 := by decide +kernel
theorem kJ_6_356 : lngOf 6 356 = some 9999 := by decide +kernel
theorem kJ_6_358 : lngOf 6 358 = some 20 := by decide +kernel
theorem kJ_6_360 : lngOf 6 360 = some 7919 := by decide +kernel
theorem kJ_6_362 : lngOf 6 362 = some 6151 := by decide +kernel
theorem kJ_6_364 : lngOf 6 364 = some 65521 := by decide +kernel
theorem kI_7_9 : invOf 7 9 = some (1, 104) := by decide +kernel
theorem kI_7_12 : invOf 7 12 = some (1, 134) := by decide +kernel
theorem kI_7_13 : invOf 7 13 = some (0, 105) := by decide +kernel
theorem kI_7_17 : invOf 7 17 = some (0, 143) := by decide +kernel
theorem kI_7_18 : invOf 7 18 = some (0, 106) := by decide +kernel
theorem kI_7_22 : invOf 7 22 = some (0, 144) := by decide +kernel
theorem kI_7_23 : invOf 7 23 = some (0, 107) := by decide +kernel
theorem kI_7_26 : invOf 7 26 = some (0, 156) := by decide +kernel
theorem kI_7_27 : invOf 7 27 = some (0, 108) := by decide +kernel
theorem kI_7_30 : invOf 7 30 = some (0, 157) := by decide +kernel
theorem kI_7_31 : invOf 7 31 = some (0, 109) := by decide +kernel
theorem kI_7_35 : invOf 7 35 = some (0, 163) := by decide +kernel
theorem kI_7_36 : invOf 7 36 = some (0, 110) := by decide +kernel
theorem kI_7_39 : invOf 7 39 = some (0, 164) := by decide +kernel
theorem kI_7_40 : invOf 7 40 = some (0, 111) := by decide +kernel
theorem kI_7_44 : invOf 7 44 = some (0, 165) := by decide +kernel
theorem kI_7_45 : invOf 7 45 = some (0, 112) := by decide +kernel
theorem kI_7_49 : invOf 7 49 = some (0, 169) := by decide +kernel
theorem kI_7_50 : invOf 7 50 = some (0, 113) := by decide +kernel
theorem kI_7_53 : invOf 7 53 = some (0, 170) := by decide +kernel
theorem kI_7_54 : invOf 7 54 = some (0, 114) := by decide +kernel
theorem kI_7_57 : invOf 7 57 = some (0, 171) := by decide +kernel
theorem kI_7_58 : invOf 7 58 = some (0, 115) := by decide +kernel
theorem kI_7_61 : invOf 7 61 = some (0, 172) := by decide +kernel
theorem kI_7_62 : invOf 7 62 = some (0, 116) := by decide +kernel
theorem kI_7_65 : invOf 7 65 = some (0, 173) := by decide +kernel
theorem kI_7_66 : invOf 7 66 = some (0, 117) := by decide +kernel
theorem kI_7_69 : invOf 7 69 = some (0, 174) := by decide +kernel
theorem kI_7_70 : invOf 7 70 = some (0, 118) := by decide +kernel
theorem kI_7_73 : invOf 7 73 = some (0, 193) := by decide +kernel
theorem kI_7_74 : invOf 7 74 = some (0, 119) := by decide +kernel
theorem kI_7_77 : invOf 7 77 = some (0, 194) := by decide +kernel
theorem kI_7_78 : invOf 7 78 = some (0, 120) := by decide +kernel
theorem kI_7_81 : invOf 7 81 = some (0, 195) := by decide +kernel
theorem kI_7_82 : invOf 7 82 = some (0, 121) := by decide +kernel
theorem kI_7_85 : invOf 7 85 = some (0, 197) := by decide +kernel
theorem kI_7_86 : invOf 7 86 = some (0, 122) := by decide +kernel
theorem kI_7_89 : invOf 7 89 = some (0, 198) := by decide +kernel
theorem kI_7_90 : invOf 7 90 = some (0, 123) := by decide +kernel
theorem kI_7_93 : invOf 7 93 = some (0, 199) := by decide +kernel
theorem kI_7_94 : invOf 7 94 = some (0, 124) := by decide +kernel
theorem kI_7_97 : invOf 7 97 = some (0, 200) := by decide +kernel
theorem kI_7_98 : invOf 7 98 = some (0, 125) := by decide +kernel
theorem kI_7_101 : invOf 7 101 = some (0, 201) := by decide +kernel
theorem kI_7_102 : invOf 7 102 = some (0, 127) := by decide +kernel
theorem kI_7_105 : invOf 7 105 = some (0, 217) := by decide +kernel
theorem kI_7_106 : invOf 7 106 = some (0, 128) := by decide +kernel
theorem kI_7_109 : invOf 7 109 = some (0, 218) := by decide +kernel
theorem kI_7_110 : invOf 7 110 = some (0, 131) := by decide +kernel
theorem kI_7_113 : invOf 7 113 = some (0, 219) := by decide +kernel
theorem kI_7_114 : invOf 7 114 = some (0, 132) := by decide +kernel
theorem kI_7_117 : invOf 7 117 = some (0, 220) := by decide +kernel
theorem kI_7_118 : invOf 7 118 = some (0, 133) := by decide +kernel
theorem kI_7_121 : invOf 7 121 = some (0, 221) := by decide +kernel
theorem kN_7_7 : newOf 7 7 = some 5 := by decide +kernel
theorem kN_7_10 : newOf 7 10 = some 6 := by decide +kernel
theorem kC_8_265 : intOf 8 265 = some 1431655765 := by decide +kernel
theorem kC_8_266 : intOf 8 266 = some 858993459 := by decide +kernel
theorem kC_8_267 : intOf 8 267 = some 252645135 := by decide +kernel
/-- a call's arguments, by its link -/
theorem cl {m k way t : Nat} {ins : Instr} {st : List mV} {q : Nat × List mV × List mV} (h : invOf (mown m) k = some (way, t)) (e : (match ins with
    | .invokevirtual _ => if way = 0 then (if mpar t + 1 ≤ st.length ∧ catS (st.drop (mpar t + 1)) ≤ 8 ∧ mdep t < mdep m ∧ (argL (st.take (mpar t + 1)).reverse).length ≤ mmax t then some (t, (st.take (mpar t + 1)).reverse, st.drop (mpar t + 1)) else none) else none
    | .invokestatic _ => if way = 2 then (if mpar t ≤ st.length ∧ catS (st.drop (mpar t)) ≤ 8 ∧ mdep t < mdep m ∧ (argL (st.take (mpar t)).reverse).length ≤ mmax t then some (t, (st.take (mpar t)).reverse, st.drop (mpar t)) else none) else none
    | _ => none) = some q) (hk : ins = .invokevirtual k ∨ ins = .invokestatic k := by first | exact Or.inl rfl | exact Or.inr rfl) : callOf m ins st = some q := by
  rcases hk with rfl | rfl
  · by_cases hw : way = 0
    · subst hw
      simp only [callOf, h]
      simp only [if_true] at e
      exact e
    · simp only [if_neg hw] at e
      cases e
  · by_cases hw : way = 2
    · subst hw
      simp only [callOf, h]
      simp only [if_true] at e
      exact e
    · simp only [if_neg hw] at e
      cases e
