theorem d_218_128 : decode (codeOf 218) 128 = .ok (.iload 9, 2) := by decide +kernel
theorem d_218_130 : decode (codeOf 218) 130 = .ok (.invokevirtual 176, 3) := by decide +kernel
theorem d_218_133 : decode (codeOf 218) 133 = .ok (.ifCond .le 67, 3) := by decide +kernel
theorem d_218_136 : decode (codeOf 218) 136 = .ok (.aload_n 0, 1) := by decide +kernel
theorem d_218_137 : decode (codeOf 218) 137 = .ok (.sipush 1320, 3) := by decide +kernel
theorem d_218_140 : decode (codeOf 218) 140 = .ok (.iload 9, 2) := by decide +kernel
theorem d_218_142 : decode (codeOf 218) 142 = .ok (.iload 8, 2) := by decide +kernel
theorem d_218_144 : decode (codeOf 218) 144 = .ok (.bipush 8, 2) := by decide +kernel
theorem d_218_146 : decode (codeOf 218) 146 = .ok (.idiv, 1) := by decide +kernel
theorem d_218_147 : decode (codeOf 218) 147 = .ok (.aload_n 0, 1) := by decide +kernel
theorem d_218_148 : decode (codeOf 218) 148 = .ok (.sipush 1320, 3) := by decide +kernel
theorem d_218_151 : decode (codeOf 218) 151 = .ok (.iload 9, 2) := by decide +kernel
theorem d_218_153 : decode (codeOf 218) 153 = .ok (.invokevirtual 176, 3) := by decide +kernel
theorem d_218_156 : decode (codeOf 218) 156 = .ok (.irem, 1) := by decide +kernel
theorem d_218_157 : decode (codeOf 218) 157 = .ok (.iload 10, 2) := by decide +kernel
theorem d_218_159 : decode (codeOf 218) 159 = .ok (.iconst 3, 1) := by decide +kernel
theorem d_218_160 : decode (codeOf 218) 160 = .ok (.if_icmp .ge 8, 3) := by decide +kernel
theorem d_218_163 : decode (codeOf 218) 163 = .ok (.iload 10, 2) := by decide +kernel
theorem d_218_165 : decode (codeOf 218) 165 = .ok (.goto 7, 3) := by decide +kernel
theorem d_218_168 : decode (codeOf 218) 168 = .ok (.iload 10, 2) := by decide +kernel
theorem d_218_170 : decode (codeOf 218) 170 = .ok (.iconst 3, 1) := by decide +kernel
theorem d_218_171 : decode (codeOf 218) 171 = .ok (.iadd, 1) := by decide +kernel
theorem d_218_172 : decode (codeOf 218) 172 = .ok (.iload 11, 2) := by decide +kernel
theorem d_218_174 : decode (codeOf 218) 174 = .ok (.iload 10, 2) := by decide +kernel
theorem d_218_176 : decode (codeOf 218) 176 = .ok (.iconst 1, 1) := by decide +kernel
theorem d_218_177 : decode (codeOf 218) 177 = .ok (.if_icmp .ne 7, 3) := by decide +kernel
theorem d_218_180 : decode (codeOf 218) 180 = .ok (.iconst 1, 1) := by decide +kernel
theorem d_218_181 : decode (codeOf 218) 181 = .ok (.goto 15, 3) := by decide +kernel
theorem d_218_184 : decode (codeOf 218) 184 = .ok (.iload 10, 2) := by decide +kernel
theorem d_218_186 : decode (codeOf 218) 186 = .ok (.iconst 3, 1) := by decide +kernel
theorem d_218_187 : decode (codeOf 218) 187 = .ok (.if_icmp .ge 8, 3) := by decide +kernel
theorem d_218_190 : decode (codeOf 218) 190 = .ok (.iload 12, 2) := by decide +kernel
theorem d_218_192 : decode (codeOf 218) 192 = .ok (.goto 4, 3) := by decide +kernel
theorem d_218_195 : decode (codeOf 218) 195 = .ok (.iconst 0, 1) := by decide +kernel
theorem d_218_196 : decode (codeOf 218) 196 = .ok (.iconst 0, 1) := by decide +kernel
theorem d_218_197 : decode (codeOf 218) 197 = .ok (.invokevirtual 202, 3) := by decide +kernel
theorem d_218_200 : decode (codeOf 218) 200 = .ok (.iload 4, 2) := by decide +kernel
theorem d_218_202 : decode (codeOf 218) 202 = .ok (.aload_n 0, 1) := by decide +kernel
theorem d_218_203 : decode (codeOf 218) 203 = .ok (.sipush 1320, 3) := by decide +kernel
theorem d_218_206 : decode (codeOf 218) 206 = .ok (.invokevirtual 282, 3) := by decide +kernel
theorem d_218_209 : decode (codeOf 218) 209 = .ok (.iconst 1, 1) := by decide +kernel
theorem d_218_210 : decode (codeOf 218) 210 = .ok (.aload_n 0, 1) := by decide +kernel
theorem d_218_211 : decode (codeOf 218) 211 = .ok (.getfield 93, 3) := by decide +kernel
theorem d_218_214 : decode (codeOf 218) 214 = .ok (.ishl, 1) := by decide +kernel
theorem d_218_215 : decode (codeOf 218) 215 = .ok (.iconst 1, 1) := by decide +kernel
theorem d_218_216 : decode (codeOf 218) 216 = .ok (.isub, 1) := by decide +kernel
theorem d_218_217 : decode (codeOf 218) 217 = .ok (.if_icmp .ne 7, 3) := by decide +kernel
theorem d_218_220 : decode (codeOf 218) 220 = .ok (.iconst 1, 1) := by decide +kernel
theorem d_218_221 : decode (codeOf 218) 221 = .ok (.goto 4, 3) := by decide +kernel
theorem d_218_224 : decode (codeOf 218) 224 = .ok (.iconst 0, 1) := by decide +kernel
theorem d_218_225 : decode (codeOf 218) 225 = .ok (.iadd, 1) := by decide +kernel
theorem d_218_226 : decode (codeOf 218) 226 = .ok (.istore 4, 2) := by decide +kernel
theorem d_218_228 : decode (codeOf 218) 228 = .ok (.iinc 5 1, 3) := by decide +kernel
theorem d_218_231 : decode (codeOf 218) 231 = .ok (.goto (-181), 3) := by decide +kernel
theorem d_218_234 : decode (codeOf 218) 234 = .ok (.iload_n 3, 1) := by decide +kernel
theorem d_218_235 : decode (codeOf 218) 235 = .ok (.ifCond .ne 16, 3) := by decide +kernel
theorem d_218_238 : decode (codeOf 218) 238 = .ok (.aload_n 0, 1) := by decide +kernel
theorem d_218_239 : decode (codeOf 218) 239 = .ok (.sipush 1320, 3) := by decide +kernel
theorem d_218_242 : decode (codeOf 218) 242 = .ok (.invokevirtual 282, 3) := by decide +kernel
theorem d_218_245 : decode (codeOf 218) 245 = .ok (.invokestatic 366, 3) := by decide +kernel
theorem d_218_248 : decode (codeOf 218) 248 = .ok (.goto 5, 3) := by decide +kernel
theorem d_218_251 : decode (codeOf 218) 251 = .ok (.iload 4, 2) := by decide +kernel
theorem d_218_253 : decode (codeOf 218) 253 = .ok (.ireturn, 1) := by decide +kernel
theorem d_219_0 : decode (codeOf 219) 0 = .ok (.aload_n 0, 1) := by decide +kernel
theorem d_219_1 : decode (codeOf 219) 1 = .ok (.getfield 99, 3) := by decide +kernel
theorem d_219_4 : decode (codeOf 219) 4 = .ok (.iconst 2, 1) := by decide +kernel
theorem d_219_5 : decode (codeOf 219) 5 = .ok (.if_icmp .ne 6, 3) := by decide +kernel
theorem d_219_8 : decode (codeOf 219) 8 = .ok (.bipush (-3), 2) := by decide +kernel
theorem d_219_10 : decode (codeOf 219) 10 = .ok (.ireturn, 1) := by decide +kernel
theorem d_219_11 : decode (codeOf 219) 11 = .ok (.aload_n 0, 1) := by decide +kernel
theorem d_219_12 : decode (codeOf 219) 12 = .ok (.iconst 0, 1) := by decide +kernel
theorem d_219_13 : decode (codeOf 219) 13 = .ok (.sipush 1080, 3) := by decide +kernel
theorem d_219_16 : decode (codeOf 219) 16 = .ok (.aload_n 0, 1) := by decide +kernel
theorem d_219_17 : decode (codeOf 219) 17 = .ok (.getfield 99, 3) := by decide +kernel
theorem d_219_20 : decode (codeOf 219) 20 = .ok (.bipush 120, 2) := by decide +kernel
theorem d_219_22 : decode (codeOf 219) 22 = .ok (.imul, 1) := by decide +kernel
theorem d_219_23 : decode (codeOf 219) 23 = .ok (.iadd, 1) := by decide +kernel
theorem d_219_24 : decode (codeOf 219) 24 = .ok (.invokevirtual 196, 3) := by decide +kernel
theorem d_219_27 : decode (codeOf 219) 27 = .ok (.aload_n 0, 1) := by decide +kernel
theorem d_219_28 : decode (codeOf 219) 28 = .ok (.dup, 1) := by decide +kernel
theorem d_219_29 : decode (codeOf 219) 29 = .ok (.getfield 99, 3) := by decide +kernel
theorem d_219_32 : decode (codeOf 219) 32 = .ok (.iconst 1, 1) := by decide +kernel
theorem d_219_33 : decode (codeOf 219) 33 = .ok (.iadd, 1) := by decide +kernel
theorem d_219_34 : decode (codeOf 219) 34 = .ok (.putfield 99, 3) := by decide +kernel
theorem d_219_37 : decode (codeOf 219) 37 = .ok (.aload_n 0, 1) := by decide +kernel
theorem d_219_38 : decode (codeOf 219) 38 = .ok (.getfield 99, 3) := by decide +kernel
theorem d_219_41 : decode (codeOf 219) 41 = .ok (.ireturn, 1) := by decide +kernel
theorem d_220_0 : decode (codeOf 220) 0 = .ok (.aload_n 0, 1) := by decide +kernel
theorem d_220_1 : decode (codeOf 220) 1 = .ok (.getfield 99, 3) := by decide +kernel
theorem d_220_4 : decode (codeOf 220) 4 = .ok (.ifCond .ne 6, 3) := by decide +kernel
theorem d_220_7 : decode (codeOf 220) 7 = .ok (.bipush (-2), 2) := by decide +kernel
theorem d_220_9 : decode (codeOf 220) 9 = .ok (.ireturn, 1) := by decide +kernel
theorem d_220_10 : decode (codeOf 220) 10 = .ok (.aload_n 0, 1) := by decide +kernel
theorem d_220_11 : decode (codeOf 220) 11 = .ok (.dup, 1) := by decide +kernel
theorem d_220_12 : decode (codeOf 220) 12 = .ok (.getfield 99, 3) := by decide +kernel
theorem d_220_15 : decode (codeOf 220) 15 = .ok (.iconst 1, 1) := by decide +kernel
theorem d_220_16 : decode (codeOf 220) 16 = .ok (.isub, 1) := by decide +kernel
theorem d_220_17 : decode (codeOf 220) 17 = .ok (.putfield 99, 3) := by decide +kernel
theorem d_220_20 : decode (codeOf 220) 20 = .ok (.aload_n 0, 1) := by decide +kernel
theorem d_220_21 : decode (codeOf 220) 21 = .ok (.sipush 1080, 3) := by decide +kernel
theorem d_220_24 : decode (codeOf 220) 24 = .ok (.aload_n 0, 1) := by decide +kernel
theorem d_220_25 : decode (codeOf 220) 25 = .ok (.getfield 99, 3) := by decide +kernel
theorem d_220_28 : decode (codeOf 220) 28 = .ok (.bipush 120, 2) := by decide +kernel
theorem d_220_30 : decode (codeOf 220) 30 = .ok (.imul, 1) := by decide +kernel
theorem d_220_31 : decode (codeOf 220) 31 = .ok (.iadd, 1) := by decide +kernel
theorem d_220_32 : decode (codeOf 220) 32 = .ok (.iconst 0, 1) := by decide +kernel
theorem d_220_33 : decode (codeOf 220) 33 = .ok (.invokevirtual 196, 3) := by decide +kernel
theorem d_220_36 : decode (codeOf 220) 36 = .ok (.aload_n 0, 1) := by decide +kernel
theorem d_220_37 : decode (codeOf 220) 37 = .ok (.iconst 0, 1) := by decide +kernel
theorem d_220_38 : decode (codeOf 220) 38 = .ok (.putfield 96, 3) := by decide +kernel
theorem d_220_41 : decode (codeOf 220) 41 = .ok (.aload_n 0, 1) := by decide +kernel
theorem d_220_42 : decode (codeOf 220) 42 = .ok (.getfield 99, 3) := by decide +kernel
theorem d_220_45 : decode (codeOf 220) 45 = .ok (.ireturn, 1) := by decide +kernel
theorem d_221_0 : decode (codeOf 221) 0 = .ok (.iload_n 1, 1) := by decide +kernel
theorem d_221_1 : decode (codeOf 221) 1 = .ok (.i2l, 1) := by decide +kernel
theorem d_221_2 : decode (codeOf 221) 2 = .ok (.lconst 0, 1) := by decide +kernel
theorem d_221_3 : decode (codeOf 221) 3 = .ok (.ldc2_w 179, 3) := by decide +kernel
theorem d_221_6 : decode (codeOf 221) 6 = .ok (.invokestatic 106, 3) := by decide +kernel
theorem d_221_9 : decode (codeOf 221) 9 = .ok (.ifCond .ne 5, 3) := by decide +kernel
theorem d_221_12 : decode (codeOf 221) 12 = .ok (.iconst (-1), 1) := by decide +kernel
theorem d_221_13 : decode (codeOf 221) 13 = .ok (.ireturn, 1) := by decide +kernel
theorem d_221_14 : decode (codeOf 221) 14 = .ok (.iconst 0, 1) := by decide +kernel
theorem d_221_15 : decode (codeOf 221) 15 = .ok (.istore_n 2, 1) := by decide +kernel
theorem d_221_16 : decode (codeOf 221) 16 = .ok (.iconst 0, 1) := by decide +kernel
theorem d_221_17 : decode (codeOf 221) 17 = .ok (.istore_n 3, 1) := by decide +kernel
theorem d_221_18 : decode (codeOf 221) 18 = .ok (.iload_n 3, 1) := by decide +kernel
theorem d_221_19 : decode (codeOf 221) 19 = .ok (.aload_n 0, 1) := by decide +kernel
theorem d_221_20 : decode (codeOf 221) 20 = .ok (.getfield 93, 3) := by decide +kernel
theorem d_221_23 : decode (codeOf 221) 23 = .ok (.if_icmp .ge 18, 3) := by decide +kernel
theorem d_221_26 : decode (codeOf 221) 26 = .ok (.iload_n 2, 1) := by decide +kernel
theorem d_221_27 : decode (codeOf 221) 27 = .ok (.aload_n 0, 1) := by decide +kernel
theorem d_221_28 : decode (codeOf 221) 28 = .ok (.iconst 0, 1) := by decide +kernel
theorem d_221_29 : decode (codeOf 221) 29 = .ok (.iload_n 3, 1) := by decide +kernel
theorem d_221_30 : decode (codeOf 221) 30 = .ok (.invokevirtual 176, 3) := by decide +kernel
theorem d_221_33 : decode (codeOf 221) 33 = .ok (.iadd, 1) := by decide +kernel
theorem d_221_34 : decode (codeOf 221) 34 = .ok (.istore_n 2, 1) := by decide +kernel
theorem d_221_35 : decode (codeOf 221) 35 = .ok (.iinc 3 1, 3) := by decide +kernel
theorem d_221_38 : decode (codeOf 221) 38 = .ok (.goto (-20), 3) := by decide +kernel
theorem d_221_41 : decode (codeOf 221) 41 = .ok (.iload_n 1, 1) := by decide +kernel
theorem d_221_42 : decode (codeOf 221) 42 = .ok (.ifCond .ne 10, 3) := by decide +kernel
theorem d_221_45 : decode (codeOf 221) 45 = .ok (.aload_n 0, 1) := by decide +kernel
theorem d_221_46 : decode (codeOf 221) 46 = .ok (.getfield 90, 3) := by decide +kernel
theorem d_221_49 : decode (codeOf 221) 49 = .ok (.goto 68, 3) := by decide +kernel
theorem d_221_52 : decode (codeOf 221) 52 = .ok (.iload_n 1, 1) := by decide +kernel
theorem d_221_53 : decode (codeOf 221) 53 = .ok (.iconst 1, 1) := by decide +kernel
theorem d_221_54 : decode (codeOf 221) 54 = .ok (.if_icmp .ne 10, 3) := by decide +kernel
theorem d_221_57 : decode (codeOf 221) 57 = .ok (.aload_n 0, 1) := by decide +kernel
theorem d_221_58 : decode (codeOf 221) 58 = .ok (.getfield 93, 3) := by decide +kernel
theorem d_221_61 : decode (codeOf 221) 61 = .ok (.goto 56, 3) := by decide +kernel
theorem d_221_64 : decode (codeOf 221) 64 = .ok (.iload_n 1, 1) := by decide +kernel
theorem d_221_65 : decode (codeOf 221) 65 = .ok (.iconst 2, 1) := by decide +kernel
theorem d_221_66 : decode (codeOf 221) 66 = .ok (.if_icmp .ne 7, 3) := by decide +kernel
theorem d_221_69 : decode (codeOf 221) 69 = .ok (.iload_n 2, 1) := by decide +kernel
theorem d_221_70 : decode (codeOf 221) 70 = .ok (.goto 47, 3) := by decide +kernel
theorem d_221_73 : decode (codeOf 221) 73 = .ok (.iload_n 1, 1) := by decide +kernel
theorem d_221_74 : decode (codeOf 221) 74 = .ok (.iconst 3, 1) := by decide +kernel
theorem d_221_75 : decode (codeOf 221) 75 = .ok (.if_icmp .ne 14, 3) := by decide +kernel
theorem d_221_78 : decode (codeOf 221) 78 = .ok (.aload_n 0, 1) := by decide +kernel
theorem d_221_79 : decode (codeOf 221) 79 = .ok (.iconst 0, 1) := by decide +kernel
theorem d_221_80 : decode (codeOf 221) 80 = .ok (.invokevirtual 282, 3) := by decide +kernel
theorem d_221_83 : decode (codeOf 221) 83 = .ok (.invokestatic 366, 3) := by decide +kernel
theorem d_221_86 : decode (codeOf 221) 86 = .ok (.goto 31, 3) := by decide +kernel
theorem d_221_89 : decode (codeOf 221) 89 = .ok (.iload_n 1, 1) := by decide +kernel
theorem d_221_90 : decode (codeOf 221) 90 = .ok (.iconst 4, 1) := by decide +kernel
theorem d_221_91 : decode (codeOf 221) 91 = .ok (.if_icmp .ne 10, 3) := by decide +kernel
theorem d_221_94 : decode (codeOf 221) 94 = .ok (.aload_n 0, 1) := by decide +kernel
theorem d_221_95 : decode (codeOf 221) 95 = .ok (.getfield 96, 3) := by decide +kernel
theorem d_221_98 : decode (codeOf 221) 98 = .ok (.goto 19, 3) := by decide +kernel
theorem d_221_101 : decode (codeOf 221) 101 = .ok (.iload_n 1, 1) := by decide +kernel
theorem d_221_102 : decode (codeOf 221) 102 = .ok (.iconst 5, 1) := by decide +kernel
theorem d_221_103 : decode (codeOf 221) 103 = .ok (.if_icmp .ne 10, 3) := by decide +kernel
theorem d_221_106 : decode (codeOf 221) 106 = .ok (.aload_n 0, 1) := by decide +kernel
theorem d_221_107 : decode (codeOf 221) 107 = .ok (.getfield 99, 3) := by decide +kernel
theorem d_221_110 : decode (codeOf 221) 110 = .ok (.goto 7, 3) := by decide +kernel
theorem d_221_113 : decode (codeOf 221) 113 = .ok (.aload_n 0, 1) := by decide +kernel
theorem d_221_114 : decode (codeOf 221) 114 = .ok (.getfield 110, 3) := by decide +kernel
theorem d_221_117 : decode (codeOf 221) 117 = .ok (.ireturn, 1) := by decide +kernel
theorem d_222_0 : decode (codeOf 222) 0 = .ok (.iload_n 0, 1) := by decide +kernel
theorem d_222_1 : decode (codeOf 222) 1 = .ok (.iload_n 0, 1) := by decide +kernel
theorem d_222_2 : decode (codeOf 222) 2 = .ok (.iconst 1, 1) := by decide +kernel
theorem d_222_3 : decode (codeOf 222) 3 = .ok (.iushr, 1) := by decide +kernel
theorem d_222_4 : decode (codeOf 222) 4 = .ok (.ldc_w 265, 3) := by decide +kernel
theorem d_222_7 : decode (codeOf 222) 7 = .ok (.iand, 1) := by decide +kernel
theorem d_222_8 : decode (codeOf 222) 8 = .ok (.isub, 1) := by decide +kernel
theorem d_222_9 : decode (codeOf 222) 9 = .ok (.istore_n 0, 1) := by decide +kernel
theorem d_222_10 : decode (codeOf 222) 10 = .ok (.iload_n 0, 1) := by decide +kernel
theorem d_222_11 : decode (codeOf 222) 11 = .ok (.ldc_w 266, 3) := by decide +kernel
theorem d_222_14 : decode (codeOf 222) 14 = .ok (.iand, 1) := by decide +kernel
theorem d_222_15 : decode (codeOf 222) 15 = .ok (.iload_n 0, 1) := by decide +kernel
theorem d_222_16 : decode (codeOf 222) 16 = .ok (.iconst 2, 1) := by decide +kernel
theorem d_222_17 : decode (codeOf 222) 17 = .ok (.iushr, 1) := by decide +kernel
theorem d_222_18 : decode (codeOf 222) 18 = .ok (.ldc_w 266, 3) := by decide +kernel
theorem d_222_21 : decode (codeOf 222) 21 = .ok (.iand, 1) := by decide +kernel
theorem d_222_22 : decode (codeOf 222) 22 = .ok (.iadd, 1) := by decide +kernel
theorem d_222_23 : decode (codeOf 222) 23 = .ok (.istore_n 0, 1) := by decide +kernel
theorem d_222_24 : decode (codeOf 222) 24 = .ok (.iload_n 0, 1) := by decide +kernel
theorem d_222_25 : decode (codeOf 222) 25 = .ok (.iload_n 0, 1) := by decide +kernel
theorem d_222_26 : decode (codeOf 222) 26 = .ok (.iconst 4, 1) := by decide +kernel
theorem d_222_27 : decode (codeOf 222) 27 = .ok (.iushr, 1) := by decide +kernel
theorem d_222_28 : decode (codeOf 222) 28 = .ok (.iadd, 1) := by decide +kernel
theorem d_222_29 : decode (codeOf 222) 29 = .ok (.ldc_w 267, 3) := by decide +kernel
theorem d_222_32 : decode (codeOf 222) 32 = .ok (.iand, 1) := by decide +kernel
theorem d_222_33 : decode (codeOf 222) 33 = .ok (.istore_n 0, 1) := by decide +kernel
theorem d_222_34 : decode (codeOf 222) 34 = .ok (.iload_n 0, 1) := by decide +kernel
theorem d_222_35 : decode (codeOf 222) 35 = .ok (.iload_n 0, 1) := by decide +kernel
theorem d_222_36 : decode (codeOf 222) 36 = .ok (.bipush 8, 2) := by decide +kernel
theorem d_222_38 : decode (codeOf 222) 38 = .ok (.iushr, 1) := by decide +kernel
theorem d_222_39 : decode (codeOf 222) 39 = .ok (.iadd, 1) := by decide +kernel
theorem d_222_40 : decode (codeOf 222) 40 = .ok (.istore_n 0, 1) := by decide +kernel
theorem d_222_41 : decode (codeOf 222) 41 = .ok (.iload_n 0, 1) := by decide +kernel
theorem d_222_42 : decode (codeOf 222) 42 = .ok (.iload_n 0, 1) := by decide +kernel
theorem d_222_43 : decode (codeOf 222) 43 = .ok (.bipush 16, 2) := by decide +kernel
theorem d_222_45 : decode (codeOf 222) 45 = .ok (.iushr, 1) := by decide +kernel
theorem d_222_46 : decode (codeOf 222) 46 = .ok (.iadd, 1) := by decide +kernel
theorem d_222_47 : decode (codeOf 222) 47 = .ok (.istore_n 0, 1) := by decide +kernel
theorem d_222_48 : decode (codeOf 222) 48 = .ok (.iload_n 0, 1) := by decide +kernel
theorem d_222_49 : decode (codeOf 222) 49 = .ok (.bipush 63, 2) := by decide +kernel
theorem d_222_51 : decode (codeOf 222) 51 = .ok (.iand, 1) := by decide +kernel
theorem d_222_52 : decode (codeOf 222) 52 = .ok (.ireturn, 1) := by decide +kernel
theorem d_223_0 : decode (codeOf 223) 0 = .ok (.new 7, 3) := by decide +kernel
theorem d_223_3 : decode (codeOf 223) 3 = .ok (.dup, 1) := by decide +kernel
theorem d_223_4 : decode (codeOf 223) 4 = .ok (.invokespecial 9, 3) := by decide +kernel
theorem d_223_7 : decode (codeOf 223) 7 = .ok (.astore_n 1, 1) := by decide +kernel
theorem d_223_8 : decode (codeOf 223) 8 = .ok (.new 10, 3) := by decide +kernel
theorem d_223_11 : decode (codeOf 223) 11 = .ok (.dup, 1) := by decide +kernel
theorem d_223_12 : decode (codeOf 223) 12 = .ok (.invokespecial 12, 3) := by decide +kernel
theorem d_223_15 : decode (codeOf 223) 15 = .ok (.astore_n 2, 1) := by decide +kernel
theorem d_223_16 : decode (codeOf 223) 16 = .ok (.iconst 0, 1) := by decide +kernel
theorem d_223_17 : decode (codeOf 223) 17 = .ok (.istore_n 3, 1) := by decide +kernel
theorem d_223_18 : decode (codeOf 223) 18 = .ok (.iload_n 3, 1) := by decide +kernel
theorem d_223_19 : decode (codeOf 223) 19 = .ok (.aload_n 0, 1) := by decide +kernel
theorem d_223_20 : decode (codeOf 223) 20 = .ok (.arraylength, 1) := by decide +kernel
theorem d_223_21 : decode (codeOf 223) 21 = .ok (.bipush 7, 2) := by decide +kernel
theorem d_223_23 : decode (codeOf 223) 23 = .ok (.isub, 1) := by decide +kernel
theorem d_223_24 : decode (codeOf 223) 24 = .ok (.if_icmp .gt 916, 3) := by decide +kernel
theorem d_223_27 : decode (codeOf 223) 27 = .ok (.aload_n 0, 1) := by decide +kernel
theorem d_223_28 : decode (codeOf 223) 28 = .ok (.iload_n 3, 1) := by decide +kernel
theorem d_223_29 : decode (codeOf 223) 29 = .ok (.iaload, 1) := by decide +kernel
theorem d_223_30 : decode (codeOf 223) 30 = .ok (.bipush 31, 2) := by decide +kernel
theorem d_223_32 : decode (codeOf 223) 32 = .ok (.iand, 1) := by decide +kernel
theorem d_223_33 : decode (codeOf 223) 33 = .ok (.tableswitch 901 0 25 #[119, 142, 155, 168, 181, 214, 247, 290, 365, 440, 473, 516, 549, 562, 585, 608, 651, 664, 687, 720, 733, 766, 809, 852, 865, 878], 119) := by decide +kernel
theorem d_223_152 : decode (codeOf 223) 152 = .ok (.aload_n 1, 1) := by decide +kernel
theorem d_223_153 : decode (codeOf 223) 153 = .ok (.aload_n 0, 1) := by decide +kernel
theorem d_223_154 : decode (codeOf 223) 154 = .ok (.iload_n 3, 1) := by decide +kernel
theorem d_223_155 : decode (codeOf 223) 155 = .ok (.iconst 1, 1) := by decide +kernel
theorem d_223_156 : decode (codeOf 223) 156 = .ok (.iadd, 1) := by decide +kernel
theorem d_223_157 : decode (codeOf 223) 157 = .ok (.iaload, 1) := by decide +kernel
theorem d_223_158 : decode (codeOf 223) 158 = .ok (.invokevirtual 13, 3) := by decide +kernel
theorem d_223_161 : decode (codeOf 223) 161 = .ok (.aload_n 2, 1) := by decide +kernel
theorem d_223_162 : decode (codeOf 223) 162 = .ok (.aload_n 0, 1) := by decide +kernel
theorem d_223_163 : decode (codeOf 223) 163 = .ok (.iload_n 3, 1) := by decide +kernel
theorem d_223_164 : decode (codeOf 223) 164 = .ok (.iconst 1, 1) := by decide +kernel
theorem d_223_165 : decode (codeOf 223) 165 = .ok (.iadd, 1) := by decide +kernel
theorem d_223_166 : decode (codeOf 223) 166 = .ok (.iaload, 1) := by decide +kernel
theorem d_223_167 : decode (codeOf 223) 167 = .ok (.invokevirtual 17, 3) := by decide +kernel
theorem d_223_170 : decode (codeOf 223) 170 = .ok (.if_icmp .eq 764, 3) := by decide +kernel
theorem d_223_173 : decode (codeOf 223) 173 = .ok (.iconst 0, 1) := by decide +kernel
theorem d_223_174 : decode (codeOf 223) 174 = .ok (.ireturn, 1) := by decide +kernel
theorem d_223_175 : decode (codeOf 223) 175 = .ok (.aload_n 1, 1) := by decide +kernel
theorem d_223_176 : decode (codeOf 223) 176 = .ok (.invokevirtual 18, 3) := by decide +kernel
theorem d_223_179 : decode (codeOf 223) 179 = .ok (.aload_n 2, 1) := by decide +kernel
theorem d_223_180 : decode (codeOf 223) 180 = .ok (.invokevirtual 22, 3) := by decide +kernel
theorem d_223_183 : decode (codeOf 223) 183 = .ok (.if_icmp .eq 751, 3) := by decide +kernel
theorem d_223_186 : decode (codeOf 223) 186 = .ok (.iconst 0, 1) := by decide +kernel
theorem d_223_187 : decode (codeOf 223) 187 = .ok (.ireturn, 1) := by decide +kernel
theorem d_223_188 : decode (codeOf 223) 188 = .ok (.aload_n 1, 1) := by decide +kernel
theorem d_223_189 : decode (codeOf 223) 189 = .ok (.invokevirtual 23, 3) := by decide +kernel
theorem d_223_192 : decode (codeOf 223) 192 = .ok (.aload_n 2, 1) := by decide +kernel
theorem d_223_193 : decode (codeOf 223) 193 = .ok (.invokevirtual 26, 3) := by decide +kernel
theorem d_223_196 : decode (codeOf 223) 196 = .ok (.if_icmp .eq 738, 3) := by decide +kernel
theorem d_223_199 : decode (codeOf 223) 199 = .ok (.iconst 0, 1) := by decide +kernel
theorem d_223_200 : decode (codeOf 223) 200 = .ok (.ireturn, 1) := by decide +kernel
theorem d_223_201 : decode (codeOf 223) 201 = .ok (.aload_n 1, 1) := by decide +kernel
theorem d_223_202 : decode (codeOf 223) 202 = .ok (.invokevirtual 27, 3) := by decide +kernel
theorem d_223_205 : decode (codeOf 223) 205 = .ok (.aload_n 2, 1) := by decide +kernel
theorem d_223_206 : decode (codeOf 223) 206 = .ok (.invokevirtual 30, 3) := by decide +kernel
theorem d_223_209 : decode (codeOf 223) 209 = .ok (.if_icmp .eq 725, 3) := by decide +kernel
theorem d_223_212 : decode (codeOf 223) 212 = .ok (.iconst 0, 1) := by decide +kernel
theorem d_223_213 : decode (codeOf 223) 213 = .ok (.ireturn, 1) := by decide +kernel
theorem d_223_214 : decode (codeOf 223) 214 = .ok (.aload_n 1, 1) := by decide +kernel
theorem d_223_215 : decode (codeOf 223) 215 = .ok (.aload_n 0, 1) := by decide +kernel
theorem d_223_216 : decode (codeOf 223) 216 = .ok (.iload_n 3, 1) := by decide +kernel
theorem d_223_217 : decode (codeOf 223) 217 = .ok (.iconst 1, 1) := by decide +kernel
theorem d_223_218 : decode (codeOf 223) 218 = .ok (.iadd, 1) := by decide +kernel
theorem d_223_219 : decode (codeOf 223) 219 = .ok (.iaload, 1) := by decide +kernel
theorem d_223_220 : decode (codeOf 223) 220 = .ok (.aload_n 0, 1) := by decide +kernel
theorem d_223_221 : decode (codeOf 223) 221 = .ok (.iload_n 3, 1) := by decide +kernel
theorem d_223_222 : decode (codeOf 223) 222 = .ok (.iconst 2, 1) := by decide +kernel
theorem d_223_223 : decode (codeOf 223) 223 = .ok (.iadd, 1) := by decide +kernel
theorem d_223_224 : decode (codeOf 223) 224 = .ok (.iaload, 1) := by decide +kernel
theorem d_223_225 : decode (codeOf 223) 225 = .ok (.invokevirtual 31, 3) := by decide +kernel
theorem d_223_228 : decode (codeOf 223) 228 = .ok (.aload_n 2, 1) := by decide +kernel
theorem d_223_229 : decode (codeOf 223) 229 = .ok (.aload_n 0, 1) := by decide +kernel
theorem d_223_230 : decode (codeOf 223) 230 = .ok (.iload_n 3, 1) := by decide +kernel
theorem d_223_231 : decode (codeOf 223) 231 = .ok (.iconst 1, 1) := by decide +kernel
theorem d_223_232 : decode (codeOf 223) 232 = .ok (.iadd, 1) := by decide +kernel
theorem d_223_233 : decode (codeOf 223) 233 = .ok (.iaload, 1) := by decide +kernel
theorem d_223_234 : decode (codeOf 223) 234 = .ok (.aload_n 0, 1) := by decide +kernel
theorem d_223_235 : decode (codeOf 223) 235 = .ok (.iload_n 3, 1) := by decide +kernel
theorem d_223_236 : decode (codeOf 223) 236 = .ok (.iconst 2, 1) := by decide +kernel
theorem d_223_237 : decode (codeOf 223) 237 = .ok (.iadd, 1) := by decide +kernel
theorem d_223_238 : decode (codeOf 223) 238 = .ok (.iaload, 1) := by decide +kernel
theorem d_223_239 : decode (codeOf 223) 239 = .ok (.invokevirtual 35, 3) := by decide +kernel
theorem d_223_242 : decode (codeOf 223) 242 = .ok (.if_icmp .eq 692, 3) := by decide +kernel
theorem d_223_245 : decode (codeOf 223) 245 = .ok (.iconst 0, 1) := by decide +kernel
theorem d_223_246 : decode (codeOf 223) 246 = .ok (.ireturn, 1) := by decide +kernel
theorem d_223_247 : decode (codeOf 223) 247 = .ok (.aload_n 1, 1) := by decide +kernel
theorem d_223_248 : decode (codeOf 223) 248 = .ok (.aload_n 0, 1) := by decide +kernel
theorem d_223_249 : decode (codeOf 223) 249 = .ok (.iload_n 3, 1) := by decide +kernel
theorem d_223_250 : decode (codeOf 223) 250 = .ok (.iconst 1, 1) := by decide +kernel
theorem d_223_251 : decode (codeOf 223) 251 = .ok (.iadd, 1) := by decide +kernel
theorem d_223_252 : decode (codeOf 223) 252 = .ok (.iaload, 1) := by decide +kernel
theorem d_223_253 : decode (codeOf 223) 253 = .ok (.aload_n 0, 1) := by decide +kernel
theorem d_223_254 : decode (codeOf 223) 254 = .ok (.iload_n 3, 1) := by decide +kernel
theorem d_223_255 : decode (codeOf 223) 255 = .ok (.iconst 2, 1) := by decide +kernel
theorem d_223_256 : decode (codeOf 223) 256 = .ok (.iadd, 1) := by decide +kernel
theorem d_223_257 : decode (codeOf 223) 257 = .ok (.iaload, 1) := by decide +kernel
theorem d_223_258 : decode (codeOf 223) 258 = .ok (.invokevirtual 36, 3) := by decide +kernel
theorem d_223_261 : decode (codeOf 223) 261 = .ok (.aload_n 2, 1) := by decide +kernel
theorem d_223_262 : decode (codeOf 223) 262 = .ok (.aload_n 0, 1) := by decide +kernel
theorem d_223_263 : decode (codeOf 223) 263 = .ok (.iload_n 3, 1) := by decide +kernel
theorem d_223_264 : decode (codeOf 223) 264 = .ok (.iconst 1, 1) := by decide +kernel
theorem d_223_265 : decode (codeOf 223) 265 = .ok (.iadd, 1) := by decide +kernel
theorem d_223_266 : decode (codeOf 223) 266 = .ok (.iaload, 1) := by decide +kernel
theorem d_223_267 : decode (codeOf 223) 267 = .ok (.aload_n 0, 1) := by decide +kernel
theorem d_223_268 : decode (codeOf 223) 268 = .ok (.iload_n 3, 1) := by decide +kernel
theorem d_223_269 : decode (codeOf 223) 269 = .ok (.iconst 2, 1) := by decide +kernel
theorem d_223_270 : decode (codeOf 223) 270 = .ok (.iadd, 1) := by decide +kernel
theorem d_223_271 : decode (codeOf 223) 271 = .ok (.iaload, 1) := by decide +kernel
theorem d_223_272 : decode (codeOf 223) 272 = .ok (.invokevirtual 39, 3) := by decide +kernel
theorem d_223_275 : decode (codeOf 223) 275 = .ok (.if_icmp .eq 659, 3) := by decide +kernel
theorem d_223_278 : decode (codeOf 223) 278 = .ok (.iconst 0, 1) := by decide +kernel
theorem d_223_279 : decode (codeOf 223) 279 = .ok (.ireturn, 1) := by decide +kernel
theorem d_223_280 : decode (codeOf 223) 280 = .ok (.aload_n 1, 1) := by decide +kernel
theorem d_223_281 : decode (codeOf 223) 281 = .ok (.aload_n 0, 1) := by decide +kernel
theorem d_223_282 : decode (codeOf 223) 282 = .ok (.iload_n 3, 1) := by decide +kernel
theorem d_223_283 : decode (codeOf 223) 283 = .ok (.iconst 1, 1) := by decide +kernel
theorem d_223_284 : decode (codeOf 223) 284 = .ok (.iadd, 1) := by decide +kernel
theorem d_223_285 : decode (codeOf 223) 285 = .ok (.iaload, 1) := by decide +kernel
theorem d_223_286 : decode (codeOf 223) 286 = .ok (.aload_n 0, 1) := by decide +kernel
theorem d_223_287 : decode (codeOf 223) 287 = .ok (.iload_n 3, 1) := by decide +kernel
theorem d_223_288 : decode (codeOf 223) 288 = .ok (.iconst 2, 1) := by decide +kernel
theorem d_223_289 : decode (codeOf 223) 289 = .ok (.iadd, 1) := by decide +kernel
theorem d_223_290 : decode (codeOf 223) 290 = .ok (.iaload, 1) := by decide +kernel
theorem d_223_291 : decode (codeOf 223) 291 = .ok (.aload_n 0, 1) := by decide +kernel
theorem d_223_292 : decode (codeOf 223) 292 = .ok (.iload_n 3, 1) := by decide +kernel
theorem d_223_293 : decode (codeOf 223) 293 = .ok (.iconst 3, 1) := by decide +kernel
theorem d_223_294 : decode (codeOf 223) 294 = .ok (.iadd, 1) := by decide +kernel
theorem d_223_295 : decode (codeOf 223) 295 = .ok (.iaload, 1) := by decide +kernel
theorem d_223_296 : decode (codeOf 223) 296 = .ok (.invokevirtual 40, 3) := by decide +kernel
theorem d_223_299 : decode (codeOf 223) 299 = .ok (.aload_n 2, 1) := by decide +kernel
theorem d_223_300 : decode (codeOf 223) 300 = .ok (.aload_n 0, 1) := by decide +kernel
theorem d_223_301 : decode (codeOf 223) 301 = .ok (.iload_n 3, 1) := by decide +kernel
theorem d_223_302 : decode (codeOf 223) 302 = .ok (.iconst 1, 1) := by decide +kernel
theorem d_223_303 : decode (codeOf 223) 303 = .ok (.iadd, 1) := by decide +kernel
theorem d_223_304 : decode (codeOf 223) 304 = .ok (.iaload, 1) := by decide +kernel
theorem d_223_305 : decode (codeOf 223) 305 = .ok (.aload_n 0, 1) := by decide +kernel
theorem d_223_306 : decode (codeOf 223) 306 = .ok (.iload_n 3, 1) := by decide +kernel
theorem d_223_307 : decode (codeOf 223) 307 = .ok (.iconst 2, 1) := by decide +kernel
theorem d_223_308 : decode (codeOf 223) 308 = .ok (.iadd, 1) := by decide +kernel
theorem d_223_309 : decode (codeOf 223) 309 = .ok (.iaload, 1) := by decide +kernel
theorem d_223_310 : decode (codeOf 223) 310 = .ok (.aload_n 0, 1) := by decide +kernel
theorem d_223_311 : decode (codeOf 223) 311 = .ok (.iload_n 3, 1) := by decide +kernel
theorem d_223_312 : decode (codeOf 223) 312 = .ok (.iconst 3, 1) := by decide +kernel
theorem d_223_313 : decode (codeOf 223) 313 = .ok (.iadd, 1) := by decide +kernel
theorem d_223_314 : decode (codeOf 223) 314 = .ok (.iaload, 1) := by decide +kernel
theorem d_223_315 : decode (codeOf 223) 315 = .ok (.invokevirtual 44, 3) := by decide +kernel
theorem d_223_318 : decode (codeOf 223) 318 = .ok (.if_icmp .eq 616, 3) := by decide +kernel
theorem d_223_321 : decode (codeOf 223) 321 = .ok (.iconst 0, 1) := by decide +kernel
theorem d_223_322 : decode (codeOf 223) 322 = .ok (.ireturn, 1) := by decide +kernel
theorem d_223_323 : decode (codeOf 223) 323 = .ok (.aload_n 1, 1) := by decide +kernel
theorem d_223_324 : decode (codeOf 223) 324 = .ok (.aload_n 0, 1) := by decide +kernel
theorem d_223_325 : decode (codeOf 223) 325 = .ok (.iload_n 3, 1) := by decide +kernel
theorem d_223_326 : decode (codeOf 223) 326 = .ok (.iconst 1, 1) := by decide +kernel
theorem d_223_327 : decode (codeOf 223) 327 = .ok (.iadd, 1) := by decide +kernel
theorem d_223_328 : decode (codeOf 223) 328 = .ok (.iaload, 1) := by decide +kernel
theorem d_223_329 : decode (codeOf 223) 329 = .ok (.aload_n 0, 1) := by decide +kernel
theorem d_223_330 : decode (codeOf 223) 330 = .ok (.iload_n 3, 1) := by decide +kernel
theorem d_223_331 : decode (codeOf 223) 331 = .ok (.iconst 2, 1) := by decide +kernel
theorem d_223_332 : decode (codeOf 223) 332 = .ok (.iadd, 1) := by decide +kernel
theorem d_223_333 : decode (codeOf 223) 333 = .ok (.iaload, 1) := by decide +kernel
theorem d_223_334 : decode (codeOf 223) 334 = .ok (.aload_n 0, 1) := by decide +kernel
theorem d_223_335 : decode (codeOf 223) 335 = .ok (.iload_n 3, 1) := by decide +kernel
theorem d_223_336 : decode (codeOf 223) 336 = .ok (.iconst 3, 1) := by decide +kernel
theorem d_223_337 : decode (codeOf 223) 337 = .ok (.iadd, 1) := by decide +kernel
theorem d_223_338 : decode (codeOf 223) 338 = .ok (.iaload, 1) := by decide +kernel
theorem d_223_339 : decode (codeOf 223) 339 = .ok (.aload_n 0, 1) := by decide +kernel
theorem d_223_340 : decode (codeOf 223) 340 = .ok (.iload_n 3, 1) := by decide +kernel
theorem d_223_341 : decode (codeOf 223) 341 = .ok (.iconst 4, 1) := by decide +kernel
theorem d_223_342 : decode (codeOf 223) 342 = .ok (.iadd, 1) := by decide +kernel
theorem d_223_343 : decode (codeOf 223) 343 = .ok (.iaload, 1) := by decide +kernel
theorem d_223_344 : decode (codeOf 223) 344 = .ok (.aload_n 0, 1) := by decide +kernel
theorem d_223_345 : decode (codeOf 223) 345 = .ok (.iload_n 3, 1) := by decide +kernel
theorem d_223_346 : decode (codeOf 223) 346 = .ok (.iconst 5, 1) := by decide +kernel
theorem d_223_347 : decode (codeOf 223) 347 = .ok (.iadd, 1) := by decide +kernel
theorem d_223_348 : decode (codeOf 223) 348 = .ok (.iaload, 1) := by decide +kernel
theorem d_223_349 : decode (codeOf 223) 349 = .ok (.aload_n 0, 1) := by decide +kernel
theorem d_223_350 : decode (codeOf 223) 350 = .ok (.iload_n 3, 1) := by decide +kernel
theorem d_223_351 : decode (codeOf 223) 351 = .ok (.bipush 6, 2) := by decide +kernel
theorem d_223_353 : decode (codeOf 223) 353 = .ok (.iadd, 1) := by decide +kernel
theorem d_223_354 : decode (codeOf 223) 354 = .ok (.iaload, 1) := by decide +kernel
theorem d_223_355 : decode (codeOf 223) 355 = .ok (.invokevirtual 45, 3) := by decide +kernel
theorem d_223_358 : decode (codeOf 223) 358 = .ok (.aload_n 2, 1) := by decide +kernel
theorem d_223_359 : decode (codeOf 223) 359 = .ok (.aload_n 0, 1) := by decide +kernel
theorem d_223_360 : decode (codeOf 223) 360 = .ok (.iload_n 3, 1) := by decide +kernel
theorem d_223_361 : decode (codeOf 223) 361 = .ok (.iconst 1, 1) := by decide +kernel
theorem d_223_362 : decode (codeOf 223) 362 = .ok (.iadd, 1) := by decide +kernel
theorem d_223_363 : decode (codeOf 223) 363 = .ok (.iaload, 1) := by decide +kernel
theorem d_223_364 : decode (codeOf 223) 364 = .ok (.aload_n 0, 1) := by decide +kernel
theorem d_223_365 : decode (codeOf 223) 365 = .ok (.iload_n 3, 1) := by decide +kernel
theorem d_223_366 : decode (codeOf 223) 366 = .ok (.iconst 2, 1) := by decide +kernel
theorem d_223_367 : decode (codeOf 223) 367 = .ok (.iadd, 1) := by decide +kernel
theorem d_223_368 : decode (codeOf 223) 368 = .ok (.iaload, 1) := by decide +kernel
theorem d_223_369 : decode (codeOf 223) 369 = .ok (.aload_n 0, 1) := by decide +kernel
theorem d_223_370 : decode (codeOf 223) 370 = .ok (.iload_n 3, 1) := by decide +kernel
theorem d_223_371 : decode (codeOf 223) 371 = .ok (.iconst 3, 1) := by decide +kernel
theorem d_223_372 : decode (codeOf 223) 372 = .ok (.iadd, 1) := by decide +kernel
theorem d_223_373 : decode (codeOf 223) 373 = .ok (.iaload, 1) := by decide +kernel
theorem d_223_374 : decode (codeOf 223) 374 = .ok (.aload_n 0, 1) := by decide +kernel
theorem d_223_375 : decode (codeOf 223) 375 = .ok (.iload_n 3, 1) := by decide +kernel
theorem d_223_376 : decode (codeOf 223) 376 = .ok (.iconst 4, 1) := by decide +kernel
theorem d_223_377 : decode (codeOf 223) 377 = .ok (.iadd, 1) := by decide +kernel
theorem d_223_378 : decode (codeOf 223) 378 = .ok (.iaload, 1) := by decide +kernel
theorem d_223_379 : decode (codeOf 223) 379 = .ok (.aload_n 0, 1) := by decide +kernel
theorem d_223_380 : decode (codeOf 223) 380 = .ok (.iload_n 3, 1) := by decide +kernel
theorem d_223_381 : decode (codeOf 223) 381 = .ok (.iconst 5, 1) := by decide +kernel
theorem d_223_382 : decode (codeOf 223) 382 = .ok (.iadd, 1) := by decide +kernel
theorem d_223_383 : decode (codeOf 223) 383 = .ok (.iaload, 1) := by decide +kernel
theorem d_223_384 : decode (codeOf 223) 384 = .ok (.aload_n 0, 1) := by decide +kernel
theorem d_223_385 : decode (codeOf 223) 385 = .ok (.iload_n 3, 1) := by decide +kernel
theorem d_223_386 : decode (codeOf 223) 386 = .ok (.bipush 6, 2) := by decide +kernel
theorem d_223_388 : decode (codeOf 223) 388 = .ok (.iadd, 1) := by decide +kernel
theorem d_223_389 : decode (codeOf 223) 389 = .ok (.iaload, 1) := by decide +kernel
theorem d_223_390 : decode (codeOf 223) 390 = .ok (.invokevirtual 49, 3) := by decide +kernel
theorem d_223_393 : decode (codeOf 223) 393 = .ok (.if_icmp .eq 541, 3) := by decide +kernel
theorem d_223_396 : decode (codeOf 223) 396 = .ok (.iconst 0, 1) := by decide +kernel
theorem d_223_397 : decode (codeOf 223) 397 = .ok (.ireturn, 1) := by decide +kernel
theorem d_223_398 : decode (codeOf 223) 398 = .ok (.aload_n 1, 1) := by decide +kernel
theorem d_223_399 : decode (codeOf 223) 399 = .ok (.aload_n 0, 1) := by decide +kernel
theorem d_223_400 : decode (codeOf 223) 400 = .ok (.iload_n 3, 1) := by decide +kernel
theorem d_223_401 : decode (codeOf 223) 401 = .ok (.iconst 1, 1) := by decide +kernel
theorem d_223_402 : decode (codeOf 223) 402 = .ok (.iadd, 1) := by decide +kernel
theorem d_223_403 : decode (codeOf 223) 403 = .ok (.iaload, 1) := by decide +kernel
theorem d_223_404 : decode (codeOf 223) 404 = .ok (.aload_n 0, 1) := by decide +kernel
theorem d_223_405 : decode (codeOf 223) 405 = .ok (.iload_n 3, 1) := by decide +kernel
theorem d_223_406 : decode (codeOf 223) 406 = .ok (.iconst 2, 1) := by decide +kernel
theorem d_223_407 : decode (codeOf 223) 407 = .ok (.iadd, 1) := by decide +kernel
theorem d_223_408 : decode (codeOf 223) 408 = .ok (.iaload, 1) := by decide +kernel
theorem d_223_409 : decode (codeOf 223) 409 = .ok (.aload_n 0, 1) := by decide +kernel
theorem d_223_410 : decode (codeOf 223) 410 = .ok (.iload_n 3, 1) := by decide +kernel
theorem d_223_411 : decode (codeOf 223) 411 = .ok (.iconst 3, 1) := by decide +kernel
theorem d_223_412 : decode (codeOf 223) 412 = .ok (.iadd, 1) := by decide +kernel
theorem d_223_413 : decode (codeOf 223) 413 = .ok (.iaload, 1) := by decide +kernel
theorem d_223_414 : decode (codeOf 223) 414 = .ok (.aload_n 0, 1) := by decide +kernel
theorem d_223_415 : decode (codeOf 223) 415 = .ok (.iload_n 3, 1) := by decide +kernel
theorem d_223_416 : decode (codeOf 223) 416 = .ok (.iconst 4, 1) := by decide +kernel
theorem d_223_417 : decode (codeOf 223) 417 = .ok (.iadd, 1) := by decide +kernel
theorem d_223_418 : decode (codeOf 223) 418 = .ok (.iaload, 1) := by decide +kernel
theorem d_223_419 : decode (codeOf 223) 419 = .ok (.aload_n 0, 1) := by decide +kernel
theorem d_223_420 : decode (codeOf 223) 420 = .ok (.iload_n 3, 1) := by decide +kernel
theorem d_223_421 : decode (codeOf 223) 421 = .ok (.iconst 5, 1) := by decide +kernel
theorem d_223_422 : decode (codeOf 223) 422 = .ok (.iadd, 1) := by decide +kernel
theorem d_223_423 : decode (codeOf 223) 423 = .ok (.iaload, 1) := by decide +kernel
theorem d_223_424 : decode (codeOf 223) 424 = .ok (.aload_n 0, 1) := by decide +kernel
theorem d_223_425 : decode (codeOf 223) 425 = .ok (.iload_n 3, 1) := by decide +kernel
theorem d_223_426 : decode (codeOf 223) 426 = .ok (.bipush 6, 2) := by decide +kernel
theorem d_223_428 : decode (codeOf 223) 428 = .ok (.iadd, 1) := by decide +kernel
theorem d_223_429 : decode (codeOf 223) 429 = .ok (.iaload, 1) := by decide +kernel
theorem d_223_430 : decode (codeOf 223) 430 = .ok (.invokevirtual 50, 3) := by decide +kernel
theorem d_223_433 : decode (codeOf 223) 433 = .ok (.aload_n 2, 1) := by decide +kernel
theorem d_223_434 : decode (codeOf 223) 434 = .ok (.aload_n 0, 1) := by decide +kernel
theorem d_223_435 : decode (codeOf 223) 435 = .ok (.iload_n 3, 1) := by decide +kernel
theorem d_223_436 : decode (codeOf 223) 436 = .ok (.iconst 1, 1) := by decide +kernel
theorem d_223_437 : decode (codeOf 223) 437 = .ok (.iadd, 1) := by decide +kernel
theorem d_223_438 : decode (codeOf 223) 438 = .ok (.iaload, 1) := by decide +kernel
theorem d_223_439 : decode (codeOf 223) 439 = .ok (.aload_n 0, 1) := by decide +kernel
theorem d_223_440 : decode (codeOf 223) 440 = .ok (.iload_n 3, 1) := by decide +kernel
theorem d_223_441 : decode (codeOf 223) 441 = .ok (.iconst 2, 1) := by decide +kernel
theorem d_223_442 : decode (codeOf 223) 442 = .ok (.iadd, 1) := by decide +kernel
theorem d_223_443 : decode (codeOf 223) 443 = .ok (.iaload, 1) := by decide +kernel
theorem d_223_444 : decode (codeOf 223) 444 = .ok (.aload_n 0, 1) := by decide +kernel
theorem d_223_445 : decode (codeOf 223) 445 = .ok (.iload_n 3, 1) := by decide +kernel
theorem d_223_446 : decode (codeOf 223) 446 = .ok (.iconst 3, 1) := by decide +kernel
theorem d_223_447 : decode (codeOf 223) 447 = .ok (.iadd, 1) := by decide +kernel
theorem d_223_448 : decode (codeOf 223) 448 = .ok (.iaload, 1) := by decide +kernel
theorem d_223_449 : decode (codeOf 223) 449 = .ok (.aload_n 0, 1) := by decide +kernel
theorem d_223_450 : decode (codeOf 223) 450 = .ok (.iload_n 3, 1) := by decide +kernel
theorem d_223_451 : decode (codeOf 223) 451 = .ok (.iconst 4, 1) := by decide +kernel
theorem d_223_452 : decode (codeOf 223) 452 = .ok (.iadd, 1) := by decide +kernel
theorem d_223_453 : decode (codeOf 223) 453 = .ok (.iaload, 1) := by decide +kernel
theorem d_223_454 : decode (codeOf 223) 454 = .ok (.aload_n 0, 1) := by decide +kernel
theorem d_223_455 : decode (codeOf 223) 455 = .ok (.iload_n 3, 1) := by decide +kernel
theorem d_223_456 : decode (codeOf 223) 456 = .ok (.iconst 5, 1) := by decide +kernel
theorem d_223_457 : decode (codeOf 223) 457 = .ok (.iadd, 1) := by decide +kernel
theorem d_223_458 : decode (codeOf 223) 458 = .ok (.iaload, 1) := by decide +kernel
theorem d_223_459 : decode (codeOf 223) 459 = .ok (.aload_n 0, 1) := by decide +kernel
theorem d_223_460 : decode (codeOf 223) 460 = .ok (.iload_n 3, 1) := by decide +kernel
theorem d_223_461 : decode (codeOf 223) 461 = .ok (.bipush 6, 2) := by decide +kernel
theorem d_223_463 : decode (codeOf 223) 463 = .ok (.iadd, 1) := by decide +kernel
theorem d_223_464 : decode (codeOf 223) 464 = .ok (.iaload, 1) := by decide +kernel
theorem d_223_465 : decode (codeOf 223) 465 = .ok (.invokevirtual 53, 3) := by decide +kernel
theorem d_223_468 : decode (codeOf 223) 468 = .ok (.if_icmp .eq 466, 3) := by decide +kernel
theorem d_223_471 : decode (codeOf 223) 471 = .ok (.iconst 0, 1) := by decide +kernel
theorem d_223_472 : decode (codeOf 223) 472 = .ok (.ireturn, 1) := by decide +kernel
theorem d_223_473 : decode (codeOf 223) 473 = .ok (.aload_n 1, 1) := by decide +kernel
theorem d_223_474 : decode (codeOf 223) 474 = .ok (.aload_n 0, 1) := by decide +kernel
theorem d_223_475 : decode (codeOf 223) 475 = .ok (.iload_n 3, 1) := by decide +kernel
theorem d_223_476 : decode (codeOf 223) 476 = .ok (.iconst 1, 1) := by decide +kernel
theorem d_223_477 : decode (codeOf 223) 477 = .ok (.iadd, 1) := by decide +kernel
theorem d_223_478 : decode (codeOf 223) 478 = .ok (.iaload, 1) := by decide +kernel
theorem d_223_479 : decode (codeOf 223) 479 = .ok (.aload_n 0, 1) := by decide +kernel
theorem d_223_480 : decode (codeOf 223) 480 = .ok (.iload_n 3, 1) := by decide +kernel
theorem d_223_481 : decode (codeOf 223) 481 = .ok (.iconst 2, 1) := by decide +kernel
theorem d_223_482 : decode (codeOf 223) 482 = .ok (.iadd, 1) := by decide +kernel
theorem d_223_483 : decode (codeOf 223) 483 = .ok (.iaload, 1) := by decide +kernel
theorem d_223_484 : decode (codeOf 223) 484 = .ok (.invokevirtual 54, 3) := by decide +kernel
theorem d_223_487 : decode (codeOf 223) 487 = .ok (.aload_n 2, 1) := by decide +kernel
theorem d_223_488 : decode (codeOf 223) 488 = .ok (.aload_n 0, 1) := by decide +kernel
theorem d_223_489 : decode (codeOf 223) 489 = .ok (.iload_n 3, 1) := by decide +kernel
theorem d_223_490 : decode (codeOf 223) 490 = .ok (.iconst 1, 1) := by decide +kernel
theorem d_223_491 : decode (codeOf 223) 491 = .ok (.iadd, 1) := by decide +kernel
theorem d_223_492 : decode (codeOf 223) 492 = .ok (.iaload, 1) := by decide +kernel
theorem d_223_493 : decode (codeOf 223) 493 = .ok (.aload_n 0, 1) := by decide +kernel
theorem d_223_494 : decode (codeOf 223) 494 = .ok (.iload_n 3, 1) := by decide +kernel
theorem d_223_495 : decode (codeOf 223) 495 = .ok (.iconst 2, 1) := by decide +kernel
theorem d_223_496 : decode (codeOf 223) 496 = .ok (.iadd, 1) := by decide +kernel
theorem d_223_497 : decode (codeOf 223) 497 = .ok (.iaload, 1) := by decide +kernel
theorem d_223_498 : decode (codeOf 223) 498 = .ok (.invokevirtual 57, 3) := by decide +kernel
theorem d_223_501 : decode (codeOf 223) 501 = .ok (.if_icmp .eq 433, 3) := by decide +kernel
theorem d_223_504 : decode (codeOf 223) 504 = .ok (.iconst 0, 1) := by decide +kernel
theorem d_223_505 : decode (codeOf 223) 505 = .ok (.ireturn, 1) := by decide +kernel
theorem d_223_506 : decode (codeOf 223) 506 = .ok (.aload_n 1, 1) := by decide +kernel
theorem d_223_507 : decode (codeOf 223) 507 = .ok (.aload_n 0, 1) := by decide +kernel
theorem d_223_508 : decode (codeOf 223) 508 = .ok (.iload_n 3, 1) := by decide +kernel
theorem d_223_509 : decode (codeOf 223) 509 = .ok (.iconst 1, 1) := by decide +kernel
theorem d_223_510 : decode (codeOf 223) 510 = .ok (.iadd, 1) := by decide +kernel
theorem d_223_511 : decode (codeOf 223) 511 = .ok (.iaload, 1) := by decide +kernel
theorem d_223_512 : decode (codeOf 223) 512 = .ok (.aload_n 0, 1) := by decide +kernel
theorem d_223_513 : decode (codeOf 223) 513 = .ok (.iload_n 3, 1) := by decide +kernel
theorem d_223_514 : decode (codeOf 223) 514 = .ok (.iconst 2, 1) := by decide +kernel
theorem d_223_515 : decode (codeOf 223) 515 = .ok (.iadd, 1) := by decide +kernel
theorem d_223_516 : decode (codeOf 223) 516 = .ok (.iaload, 1) := by decide +kernel
theorem d_223_517 : decode (codeOf 223) 517 = .ok (.aload_n 0, 1) := by decide +kernel
theorem d_223_518 : decode (codeOf 223) 518 = .ok (.iload_n 3, 1) := by decide +kernel
theorem d_223_519 : decode (codeOf 223) 519 = .ok (.iconst 3, 1) := by decide +kernel
theorem d_223_520 : decode (codeOf 223) 520 = .ok (.iadd, 1) := by decide +kernel
theorem d_223_521 : decode (codeOf 223) 521 = .ok (.iaload, 1) := by decide +kernel
theorem d_223_522 : decode (codeOf 223) 522 = .ok (.invokevirtual 58, 3) := by decide +kernel
theorem d_223_525 : decode (codeOf 223) 525 = .ok (.aload_n 2, 1) := by decide +kernel
theorem d_223_526 : decode (codeOf 223) 526 = .ok (.aload_n 0, 1) := by decide +kernel
theorem d_223_527 : decode (codeOf 223) 527 = .ok (.iload_n 3, 1) := by decide +kernel
theorem d_223_528 : decode (codeOf 223) 528 = .ok (.iconst 1, 1) := by decide +kernel
theorem d_223_529 : decode (codeOf 223) 529 = .ok (.iadd, 1) := by decide +kernel
theorem d_223_530 : decode (codeOf 223) 530 = .ok (.iaload, 1) := by decide +kernel
theorem d_223_531 : decode (codeOf 223) 531 = .ok (.aload_n 0, 1) := by decide +kernel
theorem d_223_532 : decode (codeOf 223) 532 = .ok (.iload_n 3, 1) := by decide +kernel
theorem d_223_533 : decode (codeOf 223) 533 = .ok (.iconst 2, 1) := by decide +kernel
theorem d_223_534 : decode (codeOf 223) 534 = .ok (.iadd, 1) := by decide +kernel
theorem d_223_535 : decode (codeOf 223) 535 = .ok (.iaload, 1) := by decide +kernel
theorem d_223_536 : decode (codeOf 223) 536 = .ok (.aload_n 0, 1) := by decide +kernel
theorem d_223_537 : decode (codeOf 223) 537 = .ok (.iload_n 3, 1) := by decide +kernel
theorem d_223_538 : decode (codeOf 223) 538 = .ok (.iconst 3, 1) := by decide +kernel
theorem d_223_539 : decode (codeOf 223) 539 = .ok (.iadd, 1) := by decide +kernel
theorem d_223_540 : decode (codeOf 223) 540 = .ok (.iaload, 1) := by decide +kernel
theorem d_223_541 : decode (codeOf 223) 541 = .ok (.invokevirtual 61, 3) := by decide +kernel
theorem d_223_544 : decode (codeOf 223) 544 = .ok (.if_icmp .eq 390, 3) := by decide +kernel
theorem d_223_547 : decode (codeOf 223) 547 = .ok (.iconst 0, 1) := by decide +kernel
theorem d_223_548 : decode (codeOf 223) 548 = .ok (.ireturn, 1) := by decide +kernel
theorem d_223_549 : decode (codeOf 223) 549 = .ok (.aload_n 1, 1) := by decide +kernel
theorem d_223_550 : decode (codeOf 223) 550 = .ok (.aload_n 0, 1) := by decide +kernel
theorem d_223_551 : decode (codeOf 223) 551 = .ok (.iload_n 3, 1) := by decide +kernel
theorem d_223_552 : decode (codeOf 223) 552 = .ok (.iconst 1, 1) := by decide +kernel
theorem d_223_553 : decode (codeOf 223) 553 = .ok (.iadd, 1) := by decide +kernel
theorem d_223_554 : decode (codeOf 223) 554 = .ok (.iaload, 1) := by decide +kernel
theorem d_223_555 : decode (codeOf 223) 555 = .ok (.aload_n 0, 1) := by decide +kernel
theorem d_223_556 : decode (codeOf 223) 556 = .ok (.iload_n 3, 1) := by decide +kernel
theorem d_223_557 : decode (codeOf 223) 557 = .ok (.iconst 2, 1) := by decide +kernel
theorem d_223_558 : decode (codeOf 223) 558 = .ok (.iadd, 1) := by decide +kernel
theorem d_223_559 : decode (codeOf 223) 559 = .ok (.iaload, 1) := by decide +kernel
theorem d_223_560 : decode (codeOf 223) 560 = .ok (.invokevirtual 62, 3) := by decide +kernel
theorem d_223_563 : decode (codeOf 223) 563 = .ok (.aload_n 2, 1) := by decide +kernel
theorem d_223_564 : decode (codeOf 223) 564 = .ok (.aload_n 0, 1) := by decide +kernel
theorem d_223_565 : decode (codeOf 223) 565 = .ok (.iload_n 3, 1) := by decide +kernel
theorem d_223_566 : decode (codeOf 223) 566 = .ok (.iconst 1, 1) := by decide +kernel
theorem d_223_567 : decode (codeOf 223) 567 = .ok (.iadd, 1) := by decide +kernel
theorem d_223_568 : decode (codeOf 223) 568 = .ok (.iaload, 1) := by decide +kernel
theorem d_223_569 : decode (codeOf 223) 569 = .ok (.aload_n 0, 1) := by decide +kernel
theorem d_223_570 : decode (codeOf 223) 570 = .ok (.iload_n 3, 1) := by decide +kernel
theorem d_223_571 : decode (codeOf 223) 571 = .ok (.iconst 2, 1) := by decide +kernel
theorem d_223_572 : decode (codeOf 223) 572 = .ok (.iadd, 1) := by decide +kernel
theorem d_223_573 : decode (codeOf 223) 573 = .ok (.iaload, 1) := by decide +kernel
theorem d_223_574 : decode (codeOf 223) 574 = .ok (.invokevirtual 65, 3) := by decide +kernel
theorem d_223_577 : decode (codeOf 223) 577 = .ok (.if_icmp .eq 357, 3) := by decide +kernel
theorem d_223_580 : decode (codeOf 223) 580 = .ok (.iconst 0, 1) := by decide +kernel
theorem d_223_581 : decode (codeOf 223) 581 = .ok (.ireturn, 1) := by decide +kernel
theorem d_223_582 : decode (codeOf 223) 582 = .ok (.aload_n 1, 1) := by decide +kernel
theorem d_223_583 : decode (codeOf 223) 583 = .ok (.invokevirtual 66, 3) := by decide +kernel
theorem d_223_586 : decode (codeOf 223) 586 = .ok (.aload_n 2, 1) := by decide +kernel
theorem d_223_587 : decode (codeOf 223) 587 = .ok (.invokevirtual 69, 3) := by decide +kernel
theorem d_223_590 : decode (codeOf 223) 590 = .ok (.if_icmp .eq 344, 3) := by decide +kernel
theorem d_223_593 : decode (codeOf 223) 593 = .ok (.iconst 0, 1) := by decide +kernel
theorem d_223_594 : decode (codeOf 223) 594 = .ok (.ireturn, 1) := by decide +kernel
theorem d_223_595 : decode (codeOf 223) 595 = .ok (.aload_n 1, 1) := by decide +kernel
theorem d_223_596 : decode (codeOf 223) 596 = .ok (.aload_n 0, 1) := by decide +kernel
theorem d_223_597 : decode (codeOf 223) 597 = .ok (.iload_n 3, 1) := by decide +kernel
theorem d_223_598 : decode (codeOf 223) 598 = .ok (.iconst 1, 1) := by decide +kernel
theorem d_223_599 : decode (codeOf 223) 599 = .ok (.iadd, 1) := by decide +kernel
theorem d_223_600 : decode (codeOf 223) 600 = .ok (.iaload, 1) := by decide +kernel
theorem d_223_601 : decode (codeOf 223) 601 = .ok (.invokevirtual 70, 3) := by decide +kernel
theorem d_223_604 : decode (codeOf 223) 604 = .ok (.aload_n 2, 1) := by decide +kernel
theorem d_223_605 : decode (codeOf 223) 605 = .ok (.aload_n 0, 1) := by decide +kernel
theorem d_223_606 : decode (codeOf 223) 606 = .ok (.iload_n 3, 1) := by decide +kernel
theorem d_223_607 : decode (codeOf 223) 607 = .ok (.iconst 1, 1) := by decide +kernel
theorem d_223_608 : decode (codeOf 223) 608 = .ok (.iadd, 1) := by decide +kernel
theorem d_223_609 : decode (codeOf 223) 609 = .ok (.iaload, 1) := by decide +kernel
theorem d_223_610 : decode (codeOf 223) 610 = .ok (.invokevirtual 73, 3) := by decide +kernel
theorem d_223_613 : decode (codeOf 223) 613 = .ok (.if_icmp .eq 321, 3) := by decide +kernel
theorem d_223_616 : decode (codeOf 223) 616 = .ok (.iconst 0, 1) := by decide +kernel
theorem d_223_617 : decode (codeOf 223) 617 = .ok (.ireturn, 1) := by decide +kernel
theorem d_223_618 : decode (codeOf 223) 618 = .ok (.aload_n 1, 1) := by decide +kernel
theorem d_223_619 : decode (codeOf 223) 619 = .ok (.aload_n 0, 1) := by decide +kernel
theorem d_223_620 : decode (codeOf 223) 620 = .ok (.iload_n 3, 1) := by decide +kernel
theorem d_223_621 : decode (codeOf 223) 621 = .ok (.iconst 1, 1) := by decide +kernel
theorem d_223_622 : decode (codeOf 223) 622 = .ok (.iadd, 1) := by decide +kernel
theorem d_223_623 : decode (codeOf 223) 623 = .ok (.iaload, 1) := by decide +kernel
theorem d_223_624 : decode (codeOf 223) 624 = .ok (.invokevirtual 74, 3) := by decide +kernel
theorem d_223_627 : decode (codeOf 223) 627 = .ok (.aload_n 2, 1) := by decide +kernel
theorem d_223_628 : decode (codeOf 223) 628 = .ok (.aload_n 0, 1) := by decide +kernel
theorem d_223_629 : decode (codeOf 223) 629 = .ok (.iload_n 3, 1) := by decide +kernel
theorem d_223_630 : decode (codeOf 223) 630 = .ok (.iconst 1, 1) := by decide +kernel
theorem d_223_631 : decode (codeOf 223) 631 = .ok (.iadd, 1) := by decide +kernel
theorem d_223_632 : decode (codeOf 223) 632 = .ok (.iaload, 1) := by decide +kernel
theorem d_223_633 : decode (codeOf 223) 633 = .ok (.invokevirtual 77, 3) := by decide +kernel
theorem d_223_636 : decode (codeOf 223) 636 = .ok (.if_icmp .eq 298, 3) := by decide +kernel
theorem d_223_639 : decode (codeOf 223) 639 = .ok (.iconst 0, 1) := by decide +kernel
theorem d_223_640 : decode (codeOf 223) 640 = .ok (.ireturn, 1) := by decide +kernel
theorem d_223_641 : decode (codeOf 223) 641 = .ok (.aload_n 1, 1) := by decide +kernel
theorem d_223_642 : decode (codeOf 223) 642 = .ok (.aload_n 0, 1) := by decide +kernel
theorem d_223_643 : decode (codeOf 223) 643 = .ok (.iload_n 3, 1) := by decide +kernel
theorem d_223_644 : decode (codeOf 223) 644 = .ok (.iconst 1, 1) := by decide +kernel
theorem d_223_645 : decode (codeOf 223) 645 = .ok (.iadd, 1) := by decide +kernel
theorem d_223_646 : decode (codeOf 223) 646 = .ok (.iaload, 1) := by decide +kernel
theorem d_223_647 : decode (codeOf 223) 647 = .ok (.aload_n 0, 1) := by decide +kernel
theorem d_223_648 : decode (codeOf 223) 648 = .ok (.iload_n 3, 1) := by decide +kernel
theorem d_223_649 : decode (codeOf 223) 649 = .ok (.iconst 2, 1) := by decide +kernel
theorem d_223_650 : decode (codeOf 223) 650 = .ok (.iadd, 1) := by decide +kernel
theorem d_223_651 : decode (codeOf 223) 651 = .ok (.iaload, 1) := by decide +kernel
theorem d_223_652 : decode (codeOf 223) 652 = .ok (.aload_n 0, 1) := by decide +kernel
theorem d_223_653 : decode (codeOf 223) 653 = .ok (.iload_n 3, 1) := by decide +kernel
theorem d_223_654 : decode (codeOf 223) 654 = .ok (.iconst 3, 1) := by decide +kernel
theorem d_223_655 : decode (codeOf 223) 655 = .ok (.iadd, 1) := by decide +kernel
theorem d_223_656 : decode (codeOf 223) 656 = .ok (.iaload, 1) := by decide +kernel
theorem d_223_657 : decode (codeOf 223) 657 = .ok (.invokevirtual 78, 3) := by decide +kernel
theorem d_223_660 : decode (codeOf 223) 660 = .ok (.aload_n 2, 1) := by decide +kernel
theorem d_223_661 : decode (codeOf 223) 661 = .ok (.aload_n 0, 1) := by decide +kernel
theorem d_223_662 : decode (codeOf 223) 662 = .ok (.iload_n 3, 1) := by decide +kernel
theorem d_223_663 : decode (codeOf 223) 663 = .ok (.iconst 1, 1) := by decide +kernel
theorem d_223_664 : decode (codeOf 223) 664 = .ok (.iadd, 1) := by decide +kernel
theorem d_223_665 : decode (codeOf 223) 665 = .ok (.iaload, 1) := by decide +kernel
theorem d_223_666 : decode (codeOf 223) 666 = .ok (.aload_n 0, 1) := by decide +kernel
theorem d_223_667 : decode (codeOf 223) 667 = .ok (.iload_n 3, 1) := by decide +kernel
theorem d_223_668 : decode (codeOf 223) 668 = .ok (.iconst 2, 1) := by decide +kernel
theorem d_223_669 : decode (codeOf 223) 669 = .ok (.iadd, 1) := by decide +kernel
theorem d_223_670 : decode (codeOf 223) 670 = .ok (.iaload, 1) := by decide +kernel
theorem d_223_671 : decode (codeOf 223) 671 = .ok (.aload_n 0, 1) := by decide +kernel
theorem d_223_672 : decode (codeOf 223) 672 = .ok (.iload_n 3, 1) := by decide +kernel
theorem d_223_673 : decode (codeOf 223) 673 = .ok (.iconst 3, 1) := by decide +kernel
theorem d_223_674 : decode (codeOf 223) 674 = .ok (.iadd, 1) := by decide +kernel
theorem d_223_675 : decode (codeOf 223) 675 = .ok (.iaload, 1) := by decide +kernel
theorem d_223_676 : decode (codeOf 223) 676 = .ok (.invokevirtual 81, 3) := by decide +kernel
theorem d_223_679 : decode (codeOf 223) 679 = .ok (.if_icmp .eq 255, 3) := by decide +kernel
theorem d_223_682 : decode (codeOf 223) 682 = .ok (.iconst 0, 1) := by decide +kernel
theorem d_223_683 : decode (codeOf 223) 683 = .ok (.ireturn, 1) := by decide +kernel
theorem d_223_684 : decode (codeOf 223) 684 = .ok (.aload_n 1, 1) := by decide +kernel
theorem d_223_685 : decode (codeOf 223) 685 = .ok (.invokevirtual 82, 3) := by decide +kernel
theorem d_223_688 : decode (codeOf 223) 688 = .ok (.aload_n 2, 1) := by decide +kernel
theorem d_223_689 : decode (codeOf 223) 689 = .ok (.invokevirtual 85, 3) := by decide +kernel
theorem d_223_692 : decode (codeOf 223) 692 = .ok (.if_icmp .eq 242, 3) := by decide +kernel
theorem d_223_695 : decode (codeOf 223) 695 = .ok (.iconst 0, 1) := by decide +kernel
theorem d_223_696 : decode (codeOf 223) 696 = .ok (.ireturn, 1) := by decide +kernel
theorem d_223_697 : decode (codeOf 223) 697 = .ok (.aload_n 1, 1) := by decide +kernel
theorem d_223_698 : decode (codeOf 223) 698 = .ok (.aload_n 0, 1) := by decide +kernel
theorem d_223_699 : decode (codeOf 223) 699 = .ok (.iload_n 3, 1) := by decide +kernel
theorem d_223_700 : decode (codeOf 223) 700 = .ok (.iconst 1, 1) := by decide +kernel
theorem d_223_701 : decode (codeOf 223) 701 = .ok (.iadd, 1) := by decide +kernel
theorem d_223_702 : decode (codeOf 223) 702 = .ok (.iaload, 1) := by decide +kernel
theorem d_223_703 : decode (codeOf 223) 703 = .ok (.invokevirtual 86, 3) := by decide +kernel
theorem d_223_706 : decode (codeOf 223) 706 = .ok (.aload_n 2, 1) := by decide +kernel
theorem d_223_707 : decode (codeOf 223) 707 = .ok (.aload_n 0, 1) := by decide +kernel
theorem d_223_708 : decode (codeOf 223) 708 = .ok (.iload_n 3, 1) := by decide +kernel
theorem d_223_709 : decode (codeOf 223) 709 = .ok (.iconst 1, 1) := by decide +kernel
theorem d_223_710 : decode (codeOf 223) 710 = .ok (.iadd, 1) := by decide +kernel
theorem d_223_711 : decode (codeOf 223) 711 = .ok (.iaload, 1) := by decide +kernel
theorem d_223_712 : decode (codeOf 223) 712 = .ok (.invokevirtual 89, 3) := by decide +kernel
theorem d_223_715 : decode (codeOf 223) 715 = .ok (.if_icmp .eq 219, 3) := by decide +kernel
theorem d_223_718 : decode (codeOf 223) 718 = .ok (.iconst 0, 1) := by decide +kernel
theorem d_223_719 : decode (codeOf 223) 719 = .ok (.ireturn, 1) := by decide +kernel
theorem d_223_720 : decode (codeOf 223) 720 = .ok (.aload_n 1, 1) := by decide +kernel
theorem d_223_721 : decode (codeOf 223) 721 = .ok (.aload_n 0, 1) := by decide +kernel
theorem d_223_722 : decode (codeOf 223) 722 = .ok (.iload_n 3, 1) := by decide +kernel
theorem d_223_723 : decode (codeOf 223) 723 = .ok (.iconst 1, 1) := by decide +kernel
theorem d_223_724 : decode (codeOf 223) 724 = .ok (.iadd, 1) := by decide +kernel
theorem d_223_725 : decode (codeOf 223) 725 = .ok (.iaload, 1) := by decide +kernel
theorem d_223_726 : decode (codeOf 223) 726 = .ok (.aload_n 0, 1) := by decide +kernel
theorem d_223_727 : decode (codeOf 223) 727 = .ok (.iload_n 3, 1) := by decide +kernel
theorem d_223_728 : decode (codeOf 223) 728 = .ok (.iconst 2, 1) := by decide +kernel
theorem d_223_729 : decode (codeOf 223) 729 = .ok (.iadd, 1) := by decide +kernel
theorem d_223_730 : decode (codeOf 223) 730 = .ok (.iaload, 1) := by decide +kernel
theorem d_223_731 : decode (codeOf 223) 731 = .ok (.invokevirtual 90, 3) := by decide +kernel
theorem d_223_734 : decode (codeOf 223) 734 = .ok (.aload_n 2, 1) := by decide +kernel
theorem d_223_735 : decode (codeOf 223) 735 = .ok (.aload_n 0, 1) := by decide +kernel
theorem d_223_736 : decode (codeOf 223) 736 = .ok (.iload_n 3, 1) := by decide +kernel
theorem d_223_737 : decode (codeOf 223) 737 = .ok (.iconst 1, 1) := by decide +kernel
theorem d_223_738 : decode (codeOf 223) 738 = .ok (.iadd, 1) := by decide +kernel
theorem d_223_739 : decode (codeOf 223) 739 = .ok (.iaload, 1) := by decide +kernel
theorem d_223_740 : decode (codeOf 223) 740 = .ok (.aload_n 0, 1) := by decide +kernel
theorem d_223_741 : decode (codeOf 223) 741 = .ok (.iload_n 3, 1) := by decide +kernel
theorem d_223_742 : decode (codeOf 223) 742 = .ok (.iconst 2, 1) := by decide +kernel
theorem d_223_743 : decode (codeOf 223) 743 = .ok (.iadd, 1) := by decide +kernel
theorem d_223_744 : decode (codeOf 223) 744 = .ok (.iaload, 1) := by decide +kernel
theorem d_223_745 : decode (codeOf 223) 745 = .ok (.invokevirtual 93, 3) := by decide +kernel
theorem d_223_748 : decode (codeOf 223) 748 = .ok (.if_icmp .eq 186, 3) := by decide +kernel
theorem d_223_751 : decode (codeOf 223) 751 = .ok (.iconst 0, 1) := by decide +kernel
theorem d_223_752 : decode (codeOf 223) 752 = .ok (.ireturn, 1) := by decide +kernel
theorem d_223_753 : decode (codeOf 223) 753 = .ok (.aload_n 1, 1) := by decide +kernel
theorem d_223_754 : decode (codeOf 223) 754 = .ok (.invokevirtual 94, 3) := by decide +kernel
theorem d_223_757 : decode (codeOf 223) 757 = .ok (.aload_n 2, 1) := by decide +kernel
theorem d_223_758 : decode (codeOf 223) 758 = .ok (.invokevirtual 97, 3) := by decide +kernel
theorem d_223_761 : decode (codeOf 223) 761 = .ok (.if_icmp .eq 173, 3) := by decide +kernel
theorem d_223_764 : decode (codeOf 223) 764 = .ok (.iconst 0, 1) := by decide +kernel
theorem d_223_765 : decode (codeOf 223) 765 = .ok (.ireturn, 1) := by decide +kernel
theorem d_223_766 : decode (codeOf 223) 766 = .ok (.aload_n 1, 1) := by decide +kernel
theorem d_223_767 : decode (codeOf 223) 767 = .ok (.aload_n 0, 1) := by decide +kernel
theorem d_223_768 : decode (codeOf 223) 768 = .ok (.iload_n 3, 1) := by decide +kernel
theorem d_223_769 : decode (codeOf 223) 769 = .ok (.iconst 1, 1) := by decide +kernel
theorem d_223_770 : decode (codeOf 223) 770 = .ok (.iadd, 1) := by decide +kernel
theorem d_223_771 : decode (codeOf 223) 771 = .ok (.iaload, 1) := by decide +kernel
theorem d_223_772 : decode (codeOf 223) 772 = .ok (.aload_n 0, 1) := by decide +kernel
theorem d_223_773 : decode (codeOf 223) 773 = .ok (.iload_n 3, 1) := by decide +kernel
theorem d_223_774 : decode (codeOf 223) 774 = .ok (.iconst 2, 1) := by decide +kernel
theorem d_223_775 : decode (codeOf 223) 775 = .ok (.iadd, 1) := by decide +kernel
theorem d_223_776 : decode (codeOf 223) 776 = .ok (.iaload, 1) := by decide +kernel
theorem d_223_777 : decode (codeOf 223) 777 = .ok (.invokevirtual 98, 3) := by decide +kernel
theorem d_223_780 : decode (codeOf 223) 780 = .ok (.aload_n 2, 1) := by decide +kernel
theorem d_223_781 : decode (codeOf 223) 781 = .ok (.aload_n 0, 1) := by decide +kernel
theorem d_223_782 : decode (codeOf 223) 782 = .ok (.iload_n 3, 1) := by decide +kernel
theorem d_223_783 : decode (codeOf 223) 783 = .ok (.iconst 1, 1) := by decide +kernel
theorem d_223_784 : decode (codeOf 223) 784 = .ok (.iadd, 1) := by decide +kernel
theorem d_223_785 : decode (codeOf 223) 785 = .ok (.iaload, 1) := by decide +kernel
theorem d_223_786 : decode (codeOf 223) 786 = .ok (.aload_n 0, 1) := by decide +kernel
theorem d_223_787 : decode (codeOf 223) 787 = .ok (.iload_n 3, 1) := by decide +kernel
theorem d_223_788 : decode (codeOf 223) 788 = .ok (.iconst 2, 1) := by decide +kernel
theorem d_223_789 : decode (codeOf 223) 789 = .ok (.iadd, 1) := by decide +kernel
theorem d_223_790 : decode (codeOf 223) 790 = .ok (.iaload, 1) := by decide +kernel
theorem d_223_791 : decode (codeOf 223) 791 = .ok (.invokevirtual 101, 3) := by decide +kernel
theorem d_223_794 : decode (codeOf 223) 794 = .ok (.if_icmp .eq 140, 3) := by decide +kernel
theorem d_223_797 : decode (codeOf 223) 797 = .ok (.iconst 0, 1) := by decide +kernel
theorem d_223_798 : decode (codeOf 223) 798 = .ok (.ireturn, 1) := by decide +kernel
theorem d_223_799 : decode (codeOf 223) 799 = .ok (.aload_n 1, 1) := by decide +kernel
theorem d_223_800 : decode (codeOf 223) 800 = .ok (.aload_n 0, 1) := by decide +kernel
theorem d_223_801 : decode (codeOf 223) 801 = .ok (.iload_n 3, 1) := by decide +kernel
theorem d_223_802 : decode (codeOf 223) 802 = .ok (.iconst 1, 1) := by decide +kernel
theorem d_223_803 : decode (codeOf 223) 803 = .ok (.iadd, 1) := by decide +kernel
theorem d_223_804 : decode (codeOf 223) 804 = .ok (.iaload, 1) := by decide +kernel
theorem d_223_805 : decode (codeOf 223) 805 = .ok (.aload_n 0, 1) := by decide +kernel
theorem d_223_806 : decode (codeOf 223) 806 = .ok (.iload_n 3, 1) := by decide +kernel
theorem d_223_807 : decode (codeOf 223) 807 = .ok (.iconst 2, 1) := by decide +kernel
theorem d_223_808 : decode (codeOf 223) 808 = .ok (.iadd, 1) := by decide +kernel
theorem d_223_809 : decode (codeOf 223) 809 = .ok (.iaload, 1) := by decide +kernel
theorem d_223_810 : decode (codeOf 223) 810 = .ok (.aload_n 0, 1) := by decide +kernel
theorem d_223_811 : decode (codeOf 223) 811 = .ok (.iload_n 3, 1) := by decide +kernel
theorem d_223_812 : decode (codeOf 223) 812 = .ok (.iconst 3, 1) := by decide +kernel
theorem d_223_813 : decode (codeOf 223) 813 = .ok (.iadd, 1) := by decide +kernel
theorem d_223_814 : decode (codeOf 223) 814 = .ok (.iaload, 1) := by decide +kernel
theorem d_223_815 : decode (codeOf 223) 815 = .ok (.invokevirtual 102, 3) := by decide +kernel
theorem d_223_818 : decode (codeOf 223) 818 = .ok (.aload_n 2, 1) := by decide +kernel
theorem d_223_819 : decode (codeOf 223) 819 = .ok (.aload_n 0, 1) := by decide +kernel
theorem d_223_820 : decode (codeOf 223) 820 = .ok (.iload_n 3, 1) := by decide +kernel
theorem d_223_821 : decode (codeOf 223) 821 = .ok (.iconst 1, 1) := by decide +kernel
theorem d_223_822 : decode (codeOf 223) 822 = .ok (.iadd, 1) := by decide +kernel
theorem d_223_823 : decode (codeOf 223) 823 = .ok (.iaload, 1) := by decide +kernel
theorem d_223_824 : decode (codeOf 223) 824 = .ok (.aload_n 0, 1) := by decide +kernel
theorem d_223_825 : decode (codeOf 223) 825 = .ok (.iload_n 3, 1) := by decide +kernel
theorem d_223_826 : decode (codeOf 223) 826 = .ok (.iconst 2, 1) := by decide +kernel
theorem d_223_827 : decode (codeOf 223) 827 = .ok (.iadd, 1) := by decide +kernel
theorem d_223_828 : decode (codeOf 223) 828 = .ok (.iaload, 1) := by decide +kernel
theorem d_223_829 : decode (codeOf 223) 829 = .ok (.aload_n 0, 1) := by decide +kernel
theorem d_223_830 : decode (codeOf 223) 830 = .ok (.iload_n 3, 1) := by decide +kernel
theorem d_223_831 : decode (codeOf 223) 831 = .ok (.iconst 3, 1) := by decide +kernel
theorem d_223_832 : decode (codeOf 223) 832 = .ok (.iadd, 1) := by decide +kernel
theorem d_223_833 : decode (codeOf 223) 833 = .ok (.iaload, 1) := by decide +kernel
theorem d_223_834 : decode (codeOf 223) 834 = .ok (.invokevirtual 105, 3) := by decide +kernel
theorem d_223_837 : decode (codeOf 223) 837 = .ok (.if_icmp .eq 97, 3) := by decide +kernel
theorem d_223_840 : decode (codeOf 223) 840 = .ok (.iconst 0, 1) := by decide +kernel
theorem d_223_841 : decode (codeOf 223) 841 = .ok (.ireturn, 1) := by decide +kernel
theorem d_223_842 : decode (codeOf 223) 842 = .ok (.aload_n 1, 1) := by decide +kernel
theorem d_223_843 : decode (codeOf 223) 843 = .ok (.aload_n 0, 1) := by decide +kernel
theorem d_223_844 : decode (codeOf 223) 844 = .ok (.iload_n 3, 1) := by decide +kernel
theorem d_223_845 : decode (codeOf 223) 845 = .ok (.iconst 1, 1) := by decide +kernel
theorem d_223_846 : decode (codeOf 223) 846 = .ok (.iadd, 1) := by decide +kernel
theorem d_223_847 : decode (codeOf 223) 847 = .ok (.iaload, 1) := by decide +kernel
theorem d_223_848 : decode (codeOf 223) 848 = .ok (.aload_n 0, 1) := by decide +kernel
theorem d_223_849 : decode (codeOf 223) 849 = .ok (.iload_n 3, 1) := by decide +kernel
theorem d_223_850 : decode (codeOf 223) 850 = .ok (.iconst 2, 1) := by decide +kernel
theorem d_223_851 : decode (codeOf 223) 851 = .ok (.iadd, 1) := by decide +kernel
theorem d_223_852 : decode (codeOf 223) 852 = .ok (.iaload, 1) := by decide +kernel
theorem d_223_853 : decode (codeOf 223) 853 = .ok (.aload_n 0, 1) := by decide +kernel
theorem d_223_854 : decode (codeOf 223) 854 = .ok (.iload_n 3, 1) := by decide +kernel
theorem d_223_855 : decode (codeOf 223) 855 = .ok (.iconst 3, 1) := by decide +kernel
theorem d_223_856 : decode (codeOf 223) 856 = .ok (.iadd, 1) := by decide +kernel
theorem d_223_857 : decode (codeOf 223) 857 = .ok (.iaload, 1) := by decide +kernel
theorem d_223_858 : decode (codeOf 223) 858 = .ok (.invokevirtual 106, 3) := by decide +kernel
theorem d_223_861 : decode (codeOf 223) 861 = .ok (.aload_n 2, 1) := by decide +kernel
theorem d_223_862 : decode (codeOf 223) 862 = .ok (.aload_n 0, 1) := by decide +kernel
theorem d_223_863 : decode (codeOf 223) 863 = .ok (.iload_n 3, 1) := by decide +kernel
theorem d_223_864 : decode (codeOf 223) 864 = .ok (.iconst 1, 1) := by decide +kernel
theorem d_223_865 : decode (codeOf 223) 865 = .ok (.iadd, 1) := by decide +kernel
theorem d_223_866 : decode (codeOf 223) 866 = .ok (.iaload, 1) := by decide +kernel
theorem d_223_867 : decode (codeOf 223) 867 = .ok (.aload_n 0, 1) := by decide +kernel
theorem d_223_868 : decode (codeOf 223) 868 = .ok (.iload_n 3, 1) := by decide +kernel
theorem d_223_869 : decode (codeOf 223) 869 = .ok (.iconst 2, 1) := by decide +kernel
theorem d_223_870 : decode (codeOf 223) 870 = .ok (.iadd, 1) := by decide +kernel
theorem d_223_871 : decode (codeOf 223) 871 = .ok (.iaload, 1) := by decide +kernel
theorem d_223_872 : decode (codeOf 223) 872 = .ok (.aload_n 0, 1) := by decide +kernel
theorem d_223_873 : decode (codeOf 223) 873 = .ok (.iload_n 3, 1) := by decide +kernel
theorem d_223_874 : decode (codeOf 223) 874 = .ok (.iconst 3, 1) := by decide +kernel
theorem d_223_875 : decode (codeOf 223) 875 = .ok (.iadd, 1) := by decide +kernel
theorem d_223_876 : decode (codeOf 223) 876 = .ok (.iaload, 1) := by decide +kernel
theorem d_223_877 : decode (codeOf 223) 877 = .ok (.invokevirtual 109, 3) := by decide +kernel
theorem d_223_880 : decode (codeOf 223) 880 = .ok (.if_icmp .eq 54, 3) := by decide +kernel
theorem d_223_883 : decode (codeOf 223) 883 = .ok (.iconst 0, 1) := by decide +kernel
theorem d_223_884 : decode (codeOf 223) 884 = .ok (.ireturn, 1) := by decide +kernel
theorem d_223_885 : decode (codeOf 223) 885 = .ok (.aload_n 1, 1) := by decide +kernel
theorem d_223_886 : decode (codeOf 223) 886 = .ok (.invokevirtual 110, 3) := by decide +kernel
theorem d_223_889 : decode (codeOf 223) 889 = .ok (.aload_n 2, 1) := by decide +kernel
theorem d_223_890 : decode (codeOf 223) 890 = .ok (.invokevirtual 113, 3) := by decide +kernel
theorem d_223_893 : decode (codeOf 223) 893 = .ok (.if_icmp .eq 41, 3) := by decide +kernel
theorem d_223_896 : decode (codeOf 223) 896 = .ok (.iconst 0, 1) := by decide +kernel
theorem d_223_897 : decode (codeOf 223) 897 = .ok (.ireturn, 1) := by decide +kernel
theorem d_223_898 : decode (codeOf 223) 898 = .ok (.aload_n 1, 1) := by decide +kernel
theorem d_223_899 : decode (codeOf 223) 899 = .ok (.invokevirtual 114, 3) := by decide +kernel
theorem d_223_902 : decode (codeOf 223) 902 = .ok (.aload_n 2, 1) := by decide +kernel
theorem d_223_903 : decode (codeOf 223) 903 = .ok (.invokevirtual 117, 3) := by decide +kernel
theorem d_223_906 : decode (codeOf 223) 906 = .ok (.if_icmp .eq 28, 3) := by decide +kernel
theorem d_223_909 : decode (codeOf 223) 909 = .ok (.iconst 0, 1) := by decide +kernel
theorem d_223_910 : decode (codeOf 223) 910 = .ok (.ireturn, 1) := by decide +kernel
theorem d_223_911 : decode (codeOf 223) 911 = .ok (.aload_n 1, 1) := by decide +kernel
theorem d_223_912 : decode (codeOf 223) 912 = .ok (.aload_n 0, 1) := by decide +kernel
theorem d_223_913 : decode (codeOf 223) 913 = .ok (.iload_n 3, 1) := by decide +kernel
theorem d_223_914 : decode (codeOf 223) 914 = .ok (.iconst 1, 1) := by decide +kernel
theorem d_223_915 : decode (codeOf 223) 915 = .ok (.iadd, 1) := by decide +kernel
theorem d_223_916 : decode (codeOf 223) 916 = .ok (.iaload, 1) := by decide +kernel
theorem d_223_917 : decode (codeOf 223) 917 = .ok (.invokevirtual 118, 3) := by decide +kernel
theorem d_223_920 : decode (codeOf 223) 920 = .ok (.aload_n 2, 1) := by decide +kernel
theorem d_223_921 : decode (codeOf 223) 921 = .ok (.aload_n 0, 1) := by decide +kernel
theorem d_223_922 : decode (codeOf 223) 922 = .ok (.iload_n 3, 1) := by decide +kernel
theorem d_223_923 : decode (codeOf 223) 923 = .ok (.iconst 1, 1) := by decide +kernel
theorem d_223_924 : decode (codeOf 223) 924 = .ok (.iadd, 1) := by decide +kernel
theorem d_223_925 : decode (codeOf 223) 925 = .ok (.iaload, 1) := by decide +kernel
theorem d_223_926 : decode (codeOf 223) 926 = .ok (.invokevirtual 121, 3) := by decide +kernel
theorem d_223_929 : decode (codeOf 223) 929 = .ok (.if_icmp .eq 5, 3) := by decide +kernel
theorem d_223_932 : decode (codeOf 223) 932 = .ok (.iconst 0, 1) := by decide +kernel
theorem d_223_933 : decode (codeOf 223) 933 = .ok (.ireturn, 1) := by decide +kernel
theorem d_223_934 : decode (codeOf 223) 934 = .ok (.iinc 3 7, 3) := by decide +kernel
theorem d_223_937 : decode (codeOf 223) 937 = .ok (.goto (-919), 3) := by decide +kernel
theorem d_223_940 : decode (codeOf 223) 940 = .ok (.iconst 1, 1) := by decide +kernel
theorem d_223_941 : decode (codeOf 223) 941 = .ok (.ireturn, 1) := by decide +kernel
