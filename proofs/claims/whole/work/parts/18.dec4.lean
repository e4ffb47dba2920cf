theorem d_184_55 : decode (codeOf 184) 55 = .ok (.iload_n 3, 1) := by decide +kernel
theorem d_184_56 : decode (codeOf 184) 56 = .ok (.iadd, 1) := by decide +kernel
theorem d_184_57 : decode (codeOf 184) 57 = .ok (.iaload, 1) := by decide +kernel
theorem d_184_58 : decode (codeOf 184) 58 = .ok (.invokevirtual 219, 3) := by decide +kernel
theorem d_184_61 : decode (codeOf 184) 61 = .ok (.ifCond .ne 5, 3) := by decide +kernel
theorem d_184_64 : decode (codeOf 184) 64 = .ok (.iconst 4, 1) := by decide +kernel
theorem d_184_65 : decode (codeOf 184) 65 = .ok (.ireturn, 1) := by decide +kernel
theorem d_184_66 : decode (codeOf 184) 66 = .ok (.aload_n 0, 1) := by decide +kernel
theorem d_184_67 : decode (codeOf 184) 67 = .ok (.iload 5, 2) := by decide +kernel
theorem d_184_69 : decode (codeOf 184) 69 = .ok (.invokevirtual 234, 3) := by decide +kernel
theorem d_184_72 : decode (codeOf 184) 72 = .ok (.iconst 1, 1) := by decide +kernel
theorem d_184_73 : decode (codeOf 184) 73 = .ok (.iload_n 3, 1) := by decide +kernel
theorem d_184_74 : decode (codeOf 184) 74 = .ok (.ishl, 1) := by decide +kernel
theorem d_184_75 : decode (codeOf 184) 75 = .ok (.ior, 1) := by decide +kernel
theorem d_184_76 : decode (codeOf 184) 76 = .ok (.istore 7, 2) := by decide +kernel
theorem d_184_78 : decode (codeOf 184) 78 = .ok (.aload_n 0, 1) := by decide +kernel
theorem d_184_79 : decode (codeOf 184) 79 = .ok (.getfield 44, 3) := by decide +kernel
theorem d_184_82 : decode (codeOf 184) 82 = .ok (.iload_n 2, 1) := by decide +kernel
theorem d_184_83 : decode (codeOf 184) 83 = .ok (.iload 7, 2) := by decide +kernel
theorem d_184_85 : decode (codeOf 184) 85 = .ok (.iconst 1, 1) := by decide +kernel
theorem d_184_86 : decode (codeOf 184) 86 = .ok (.aload_n 0, 1) := by decide +kernel
theorem d_184_87 : decode (codeOf 184) 87 = .ok (.getfield 7, 3) := by decide +kernel
theorem d_184_90 : decode (codeOf 184) 90 = .ok (.iload 6, 2) := by decide +kernel
theorem d_184_92 : decode (codeOf 184) 92 = .ok (.iaload, 1) := by decide +kernel
theorem d_184_93 : decode (codeOf 184) 93 = .ok (.ishl, 1) := by decide +kernel
theorem d_184_94 : decode (codeOf 184) 94 = .ok (.iconst 1, 1) := by decide +kernel
theorem d_184_95 : decode (codeOf 184) 95 = .ok (.isub, 1) := by decide +kernel
theorem d_184_96 : decode (codeOf 184) 96 = .ok (.if_icmp .ne 10, 3) := by decide +kernel
theorem d_184_99 : decode (codeOf 184) 99 = .ok (.iconst 2, 1) := by decide +kernel
theorem d_184_100 : decode (codeOf 184) 100 = .ok (.iload 6, 2) := by decide +kernel
theorem d_184_102 : decode (codeOf 184) 102 = .ok (.iadd, 1) := by decide +kernel
theorem d_184_103 : decode (codeOf 184) 103 = .ok (.goto 14, 3) := by decide +kernel
theorem d_184_106 : decode (codeOf 184) 106 = .ok (.bipush 10, 2) := by decide +kernel
theorem d_184_108 : decode (codeOf 184) 108 = .ok (.bipush 8, 2) := by decide +kernel
theorem d_184_110 : decode (codeOf 184) 110 = .ok (.iload 6, 2) := by decide +kernel
theorem d_184_112 : decode (codeOf 184) 112 = .ok (.imul, 1) := by decide +kernel
theorem d_184_113 : decode (codeOf 184) 113 = .ok (.iadd, 1) := by decide +kernel
theorem d_184_114 : decode (codeOf 184) 114 = .ok (.iload 7, 2) := by decide +kernel
theorem d_184_116 : decode (codeOf 184) 116 = .ok (.iadd, 1) := by decide +kernel
theorem d_184_117 : decode (codeOf 184) 117 = .ok (.iastore, 1) := by decide +kernel
theorem d_184_118 : decode (codeOf 184) 118 = .ok (.iconst 0, 1) := by decide +kernel
theorem d_184_119 : decode (codeOf 184) 119 = .ok (.ireturn, 1) := by decide +kernel
theorem d_185_0 : decode (codeOf 185) 0 = .ok (.aload_n 0, 1) := by decide +kernel
theorem d_185_1 : decode (codeOf 185) 1 = .ok (.getfield 44, 3) := by decide +kernel
theorem d_185_4 : decode (codeOf 185) 4 = .ok (.iload_n 2, 1) := by decide +kernel
theorem d_185_5 : decode (codeOf 185) 5 = .ok (.iaload, 1) := by decide +kernel
theorem d_185_6 : decode (codeOf 185) 6 = .ok (.istore 4, 2) := by decide +kernel
theorem d_185_8 : decode (codeOf 185) 8 = .ok (.iload 4, 2) := by decide +kernel
theorem d_185_10 : decode (codeOf 185) 10 = .ok (.invokestatic 228, 3) := by decide +kernel
theorem d_185_13 : decode (codeOf 185) 13 = .ok (.ifCond .ne 5, 3) := by decide +kernel
theorem d_185_16 : decode (codeOf 185) 16 = .ok (.iconst 2, 1) := by decide +kernel
theorem d_185_17 : decode (codeOf 185) 17 = .ok (.ireturn, 1) := by decide +kernel
theorem d_185_18 : decode (codeOf 185) 18 = .ok (.iload_n 3, 1) := by decide +kernel
theorem d_185_19 : decode (codeOf 185) 19 = .ok (.aload_n 0, 1) := by decide +kernel
theorem d_185_20 : decode (codeOf 185) 20 = .ok (.getfield 7, 3) := by decide +kernel
theorem d_185_23 : decode (codeOf 185) 23 = .ok (.iload 4, 2) := by decide +kernel
theorem d_185_25 : decode (codeOf 185) 25 = .ok (.invokestatic 231, 3) := by decide +kernel
theorem d_185_28 : decode (codeOf 185) 28 = .ok (.iaload, 1) := by decide +kernel
theorem d_185_29 : decode (codeOf 185) 29 = .ok (.if_icmp .ge 16, 3) := by decide +kernel
theorem d_185_32 : decode (codeOf 185) 32 = .ok (.aload_n 0, 1) := by decide +kernel
theorem d_185_33 : decode (codeOf 185) 33 = .ok (.iload 4, 2) := by decide +kernel
theorem d_185_35 : decode (codeOf 185) 35 = .ok (.invokevirtual 234, 3) := by decide +kernel
theorem d_185_38 : decode (codeOf 185) 38 = .ok (.iload_n 3, 1) := by decide +kernel
theorem d_185_39 : decode (codeOf 185) 39 = .ok (.invokestatic 237, 3) := by decide +kernel
theorem d_185_42 : decode (codeOf 185) 42 = .ok (.ifCond .ne 5, 3) := by decide +kernel
theorem d_185_45 : decode (codeOf 185) 45 = .ok (.iconst 3, 1) := by decide +kernel
theorem d_185_46 : decode (codeOf 185) 46 = .ok (.ireturn, 1) := by decide +kernel
theorem d_185_47 : decode (codeOf 185) 47 = .ok (.aload_n 0, 1) := by decide +kernel
theorem d_185_48 : decode (codeOf 185) 48 = .ok (.getfield 44, 3) := by decide +kernel
theorem d_185_51 : decode (codeOf 185) 51 = .ok (.iload_n 1, 1) := by decide +kernel
theorem d_185_52 : decode (codeOf 185) 52 = .ok (.aload_n 0, 1) := by decide +kernel
theorem d_185_53 : decode (codeOf 185) 53 = .ok (.getfield 13, 3) := by decide +kernel
theorem d_185_56 : decode (codeOf 185) 56 = .ok (.iconst 3, 1) := by decide +kernel
theorem d_185_57 : decode (codeOf 185) 57 = .ok (.iload 4, 2) := by decide +kernel
theorem d_185_59 : decode (codeOf 185) 59 = .ok (.invokestatic 231, 3) := by decide +kernel
theorem d_185_62 : decode (codeOf 185) 62 = .ok (.imul, 1) := by decide +kernel
theorem d_185_63 : decode (codeOf 185) 63 = .ok (.iload_n 3, 1) := by decide +kernel
theorem d_185_64 : decode (codeOf 185) 64 = .ok (.iadd, 1) := by decide +kernel
theorem d_185_65 : decode (codeOf 185) 65 = .ok (.iaload, 1) := by decide +kernel
theorem d_185_66 : decode (codeOf 185) 66 = .ok (.iastore, 1) := by decide +kernel
theorem d_185_67 : decode (codeOf 185) 67 = .ok (.iconst 0, 1) := by decide +kernel
theorem d_185_68 : decode (codeOf 185) 68 = .ok (.ireturn, 1) := by decide +kernel
theorem d_186_0 : decode (codeOf 186) 0 = .ok (.aload_n 0, 1) := by decide +kernel
theorem d_186_1 : decode (codeOf 186) 1 = .ok (.getfield 213, 3) := by decide +kernel
theorem d_186_4 : decode (codeOf 186) 4 = .ok (.bipush 6, 2) := by decide +kernel
theorem d_186_6 : decode (codeOf 186) 6 = .ok (.if_icmp .ne 5, 3) := by decide +kernel
theorem d_186_9 : decode (codeOf 186) 9 = .ok (.iconst 5, 1) := by decide +kernel
theorem d_186_10 : decode (codeOf 186) 10 = .ok (.ireturn, 1) := by decide +kernel
theorem d_186_11 : decode (codeOf 186) 11 = .ok (.aload_n 0, 1) := by decide +kernel
theorem d_186_12 : decode (codeOf 186) 12 = .ok (.getfield 47, 3) := by decide +kernel
theorem d_186_15 : decode (codeOf 186) 15 = .ok (.aload_n 0, 1) := by decide +kernel
theorem d_186_16 : decode (codeOf 186) 16 = .ok (.getfield 213, 3) := by decide +kernel
theorem d_186_19 : decode (codeOf 186) 19 = .ok (.iload_n 1, 1) := by decide +kernel
theorem d_186_20 : decode (codeOf 186) 20 = .ok (.iastore, 1) := by decide +kernel
theorem d_186_21 : decode (codeOf 186) 21 = .ok (.aload_n 0, 1) := by decide +kernel
theorem d_186_22 : decode (codeOf 186) 22 = .ok (.dup, 1) := by decide +kernel
theorem d_186_23 : decode (codeOf 186) 23 = .ok (.getfield 213, 3) := by decide +kernel
theorem d_186_26 : decode (codeOf 186) 26 = .ok (.iconst 1, 1) := by decide +kernel
theorem d_186_27 : decode (codeOf 186) 27 = .ok (.iadd, 1) := by decide +kernel
theorem d_186_28 : decode (codeOf 186) 28 = .ok (.putfield 213, 3) := by decide +kernel
theorem d_186_31 : decode (codeOf 186) 31 = .ok (.iconst 0, 1) := by decide +kernel
theorem d_186_32 : decode (codeOf 186) 32 = .ok (.ireturn, 1) := by decide +kernel
theorem d_187_0 : decode (codeOf 187) 0 = .ok (.aload_n 0, 1) := by decide +kernel
theorem d_187_1 : decode (codeOf 187) 1 = .ok (.getfield 213, 3) := by decide +kernel
theorem d_187_4 : decode (codeOf 187) 4 = .ok (.ifCond .ne 5, 3) := by decide +kernel
theorem d_187_7 : decode (codeOf 187) 7 = .ok (.iconst 5, 1) := by decide +kernel
theorem d_187_8 : decode (codeOf 187) 8 = .ok (.ireturn, 1) := by decide +kernel
theorem d_187_9 : decode (codeOf 187) 9 = .ok (.aload_n 0, 1) := by decide +kernel
theorem d_187_10 : decode (codeOf 187) 10 = .ok (.dup, 1) := by decide +kernel
theorem d_187_11 : decode (codeOf 187) 11 = .ok (.getfield 213, 3) := by decide +kernel
theorem d_187_14 : decode (codeOf 187) 14 = .ok (.iconst 1, 1) := by decide +kernel
theorem d_187_15 : decode (codeOf 187) 15 = .ok (.isub, 1) := by decide +kernel
theorem d_187_16 : decode (codeOf 187) 16 = .ok (.putfield 213, 3) := by decide +kernel
theorem d_187_19 : decode (codeOf 187) 19 = .ok (.aload_n 0, 1) := by decide +kernel
theorem d_187_20 : decode (codeOf 187) 20 = .ok (.getfield 44, 3) := by decide +kernel
theorem d_187_23 : decode (codeOf 187) 23 = .ok (.iload_n 1, 1) := by decide +kernel
theorem d_187_24 : decode (codeOf 187) 24 = .ok (.aload_n 0, 1) := by decide +kernel
theorem d_187_25 : decode (codeOf 187) 25 = .ok (.getfield 47, 3) := by decide +kernel
theorem d_187_28 : decode (codeOf 187) 28 = .ok (.aload_n 0, 1) := by decide +kernel
theorem d_187_29 : decode (codeOf 187) 29 = .ok (.getfield 213, 3) := by decide +kernel
theorem d_187_32 : decode (codeOf 187) 32 = .ok (.iaload, 1) := by decide +kernel
theorem d_187_33 : decode (codeOf 187) 33 = .ok (.iastore, 1) := by decide +kernel
theorem d_187_34 : decode (codeOf 187) 34 = .ok (.iconst 0, 1) := by decide +kernel
theorem d_187_35 : decode (codeOf 187) 35 = .ok (.ireturn, 1) := by decide +kernel
theorem d_188_0 : decode (codeOf 188) 0 = .ok (.aload_n 0, 1) := by decide +kernel
theorem d_188_1 : decode (codeOf 188) 1 = .ok (.getfield 44, 3) := by decide +kernel
theorem d_188_4 : decode (codeOf 188) 4 = .ok (.iload_n 1, 1) := by decide +kernel
theorem d_188_5 : decode (codeOf 188) 5 = .ok (.iload_n 2, 1) := by decide +kernel
theorem d_188_6 : decode (codeOf 188) 6 = .ok (.iastore, 1) := by decide +kernel
theorem d_188_7 : decode (codeOf 188) 7 = .ok (.iconst 0, 1) := by decide +kernel
theorem d_188_8 : decode (codeOf 188) 8 = .ok (.ireturn, 1) := by decide +kernel
theorem d_189_0 : decode (codeOf 189) 0 = .ok (.aload_n 0, 1) := by decide +kernel
theorem d_189_1 : decode (codeOf 189) 1 = .ok (.getfield 37, 3) := by decide +kernel
theorem d_189_4 : decode (codeOf 189) 4 = .ok (.iload_n 2, 1) := by decide +kernel
theorem d_189_5 : decode (codeOf 189) 5 = .ok (.iconst 1, 1) := by decide +kernel
theorem d_189_6 : decode (codeOf 189) 6 = .ok (.iadd, 1) := by decide +kernel
theorem d_189_7 : decode (codeOf 189) 7 = .ok (.iaload, 1) := by decide +kernel
theorem d_189_8 : decode (codeOf 189) 8 = .ok (.istore_n 3, 1) := by decide +kernel
theorem d_189_9 : decode (codeOf 189) 9 = .ok (.aload_n 0, 1) := by decide +kernel
theorem d_189_10 : decode (codeOf 189) 10 = .ok (.getfield 37, 3) := by decide +kernel
theorem d_189_13 : decode (codeOf 189) 13 = .ok (.iload_n 2, 1) := by decide +kernel
theorem d_189_14 : decode (codeOf 189) 14 = .ok (.iconst 2, 1) := by decide +kernel
theorem d_189_15 : decode (codeOf 189) 15 = .ok (.iadd, 1) := by decide +kernel
theorem d_189_16 : decode (codeOf 189) 16 = .ok (.iaload, 1) := by decide +kernel
theorem d_189_17 : decode (codeOf 189) 17 = .ok (.istore 4, 2) := by decide +kernel
theorem d_189_19 : decode (codeOf 189) 19 = .ok (.aload_n 0, 1) := by decide +kernel
theorem d_189_20 : decode (codeOf 189) 20 = .ok (.getfield 37, 3) := by decide +kernel
theorem d_189_23 : decode (codeOf 189) 23 = .ok (.iload_n 2, 1) := by decide +kernel
theorem d_189_24 : decode (codeOf 189) 24 = .ok (.iconst 3, 1) := by decide +kernel
theorem d_189_25 : decode (codeOf 189) 25 = .ok (.iadd, 1) := by decide +kernel
theorem d_189_26 : decode (codeOf 189) 26 = .ok (.iaload, 1) := by decide +kernel
theorem d_189_27 : decode (codeOf 189) 27 = .ok (.istore 5, 2) := by decide +kernel
theorem d_189_29 : decode (codeOf 189) 29 = .ok (.aload_n 0, 1) := by decide +kernel
theorem d_189_30 : decode (codeOf 189) 30 = .ok (.getfield 37, 3) := by decide +kernel
theorem d_189_33 : decode (codeOf 189) 33 = .ok (.iload_n 2, 1) := by decide +kernel
theorem d_189_34 : decode (codeOf 189) 34 = .ok (.iaload, 1) := by decide +kernel
theorem d_189_35 : decode (codeOf 189) 35 = .ok (.tableswitch 261 0 12 #[65, 78, 85, 112, 126, 137, 147, 158, 164, 175, 182, 204, 222], 65) := by decide +kernel
theorem d_189_100 : decode (codeOf 189) 100 = .ok (.aload_n 0, 1) := by decide +kernel
theorem d_189_101 : decode (codeOf 189) 101 = .ok (.iload_n 3, 1) := by decide +kernel
theorem d_189_102 : decode (codeOf 189) 102 = .ok (.aload_n 0, 1) := by decide +kernel
theorem d_189_103 : decode (codeOf 189) 103 = .ok (.getfield 44, 3) := by decide +kernel
theorem d_189_106 : decode (codeOf 189) 106 = .ok (.iload 4, 2) := by decide +kernel
theorem d_189_108 : decode (codeOf 189) 108 = .ok (.iaload, 1) := by decide +kernel
theorem d_189_109 : decode (codeOf 189) 109 = .ok (.invokevirtual 240, 3) := by decide +kernel
theorem d_189_112 : decode (codeOf 189) 112 = .ok (.ireturn, 1) := by decide +kernel
theorem d_189_113 : decode (codeOf 189) 113 = .ok (.aload_n 0, 1) := by decide +kernel
theorem d_189_114 : decode (codeOf 189) 114 = .ok (.iload_n 3, 1) := by decide +kernel
theorem d_189_115 : decode (codeOf 189) 115 = .ok (.iconst 1, 1) := by decide +kernel
theorem d_189_116 : decode (codeOf 189) 116 = .ok (.invokevirtual 240, 3) := by decide +kernel
theorem d_189_119 : decode (codeOf 189) 119 = .ok (.ireturn, 1) := by decide +kernel
theorem d_189_120 : decode (codeOf 189) 120 = .ok (.aload_n 0, 1) := by decide +kernel
theorem d_189_121 : decode (codeOf 189) 121 = .ok (.getfield 44, 3) := by decide +kernel
theorem d_189_124 : decode (codeOf 189) 124 = .ok (.iload_n 3, 1) := by decide +kernel
theorem d_189_125 : decode (codeOf 189) 125 = .ok (.iaload, 1) := by decide +kernel
theorem d_189_126 : decode (codeOf 189) 126 = .ok (.iconst 1, 1) := by decide +kernel
theorem d_189_127 : decode (codeOf 189) 127 = .ok (.if_icmp .ne 18, 3) := by decide +kernel
theorem d_189_130 : decode (codeOf 189) 130 = .ok (.aload_n 0, 1) := by decide +kernel
theorem d_189_131 : decode (codeOf 189) 131 = .ok (.getfield 44, 3) := by decide +kernel
theorem d_189_134 : decode (codeOf 189) 134 = .ok (.iload 4, 2) := by decide +kernel
theorem d_189_136 : decode (codeOf 189) 136 = .ok (.iaload, 1) := by decide +kernel
theorem d_189_137 : decode (codeOf 189) 137 = .ok (.iconst 1, 1) := by decide +kernel
theorem d_189_138 : decode (codeOf 189) 138 = .ok (.if_icmp .ne 7, 3) := by decide +kernel
theorem d_189_141 : decode (codeOf 189) 141 = .ok (.iconst 0, 1) := by decide +kernel
theorem d_189_142 : decode (codeOf 189) 142 = .ok (.goto 4, 3) := by decide +kernel
theorem d_189_145 : decode (codeOf 189) 145 = .ok (.iconst 1, 1) := by decide +kernel
theorem d_189_146 : decode (codeOf 189) 146 = .ok (.ireturn, 1) := by decide +kernel
theorem d_189_147 : decode (codeOf 189) 147 = .ok (.aload_n 0, 1) := by decide +kernel
theorem d_189_148 : decode (codeOf 189) 148 = .ok (.iload_n 3, 1) := by decide +kernel
theorem d_189_149 : decode (codeOf 189) 149 = .ok (.bipush 10, 2) := by decide +kernel
theorem d_189_151 : decode (codeOf 189) 151 = .ok (.bipush 8, 2) := by decide +kernel
theorem d_189_153 : decode (codeOf 189) 153 = .ok (.iload 4, 2) := by decide +kernel
theorem d_189_155 : decode (codeOf 189) 155 = .ok (.imul, 1) := by decide +kernel
theorem d_189_156 : decode (codeOf 189) 156 = .ok (.iadd, 1) := by decide +kernel
theorem d_189_157 : decode (codeOf 189) 157 = .ok (.invokevirtual 240, 3) := by decide +kernel
theorem d_189_160 : decode (codeOf 189) 160 = .ok (.ireturn, 1) := by decide +kernel
theorem d_189_161 : decode (codeOf 189) 161 = .ok (.aload_n 0, 1) := by decide +kernel
theorem d_189_162 : decode (codeOf 189) 162 = .ok (.iload_n 1, 1) := by decide +kernel
theorem d_189_163 : decode (codeOf 189) 163 = .ok (.iload_n 3, 1) := by decide +kernel
theorem d_189_164 : decode (codeOf 189) 164 = .ok (.iload 4, 2) := by decide +kernel
theorem d_189_166 : decode (codeOf 189) 166 = .ok (.iload 5, 2) := by decide +kernel
theorem d_189_168 : decode (codeOf 189) 168 = .ok (.invokevirtual 243, 3) := by decide +kernel
theorem d_189_171 : decode (codeOf 189) 171 = .ok (.ireturn, 1) := by decide +kernel
theorem d_189_172 : decode (codeOf 189) 172 = .ok (.aload_n 0, 1) := by decide +kernel
theorem d_189_173 : decode (codeOf 189) 173 = .ok (.iload_n 3, 1) := by decide +kernel
theorem d_189_174 : decode (codeOf 189) 174 = .ok (.iload 4, 2) := by decide +kernel
theorem d_189_176 : decode (codeOf 189) 176 = .ok (.iload 5, 2) := by decide +kernel
theorem d_189_178 : decode (codeOf 189) 178 = .ok (.invokevirtual 247, 3) := by decide +kernel
theorem d_189_181 : decode (codeOf 189) 181 = .ok (.ireturn, 1) := by decide +kernel
theorem d_189_182 : decode (codeOf 189) 182 = .ok (.aload_n 0, 1) := by decide +kernel
theorem d_189_183 : decode (codeOf 189) 183 = .ok (.aload_n 0, 1) := by decide +kernel
theorem d_189_184 : decode (codeOf 189) 184 = .ok (.getfield 44, 3) := by decide +kernel
theorem d_189_187 : decode (codeOf 189) 187 = .ok (.iload_n 3, 1) := by decide +kernel
theorem d_189_188 : decode (codeOf 189) 188 = .ok (.iaload, 1) := by decide +kernel
theorem d_189_189 : decode (codeOf 189) 189 = .ok (.invokevirtual 250, 3) := by decide +kernel
theorem d_189_192 : decode (codeOf 189) 192 = .ok (.ireturn, 1) := by decide +kernel
theorem d_189_193 : decode (codeOf 189) 193 = .ok (.aload_n 0, 1) := by decide +kernel
theorem d_189_194 : decode (codeOf 189) 194 = .ok (.iload_n 3, 1) := by decide +kernel
theorem d_189_195 : decode (codeOf 189) 195 = .ok (.invokevirtual 253, 3) := by decide +kernel
theorem d_189_198 : decode (codeOf 189) 198 = .ok (.ireturn, 1) := by decide +kernel
theorem d_189_199 : decode (codeOf 189) 199 = .ok (.aload_n 0, 1) := by decide +kernel
theorem d_189_200 : decode (codeOf 189) 200 = .ok (.iload_n 3, 1) := by decide +kernel
theorem d_189_201 : decode (codeOf 189) 201 = .ok (.bipush 6, 2) := by decide +kernel
theorem d_189_203 : decode (codeOf 189) 203 = .ok (.iload 4, 2) := by decide +kernel
theorem d_189_205 : decode (codeOf 189) 205 = .ok (.iadd, 1) := by decide +kernel
theorem d_189_206 : decode (codeOf 189) 206 = .ok (.invokevirtual 240, 3) := by decide +kernel
theorem d_189_209 : decode (codeOf 189) 209 = .ok (.ireturn, 1) := by decide +kernel
theorem d_189_210 : decode (codeOf 189) 210 = .ok (.aload_n 0, 1) := by decide +kernel
theorem d_189_211 : decode (codeOf 189) 211 = .ok (.iload_n 1, 1) := by decide +kernel
theorem d_189_212 : decode (codeOf 189) 212 = .ok (.iload_n 3, 1) := by decide +kernel
theorem d_189_213 : decode (codeOf 189) 213 = .ok (.invokevirtual 256, 3) := by decide +kernel
theorem d_189_216 : decode (codeOf 189) 216 = .ok (.ireturn, 1) := by decide +kernel
theorem d_189_217 : decode (codeOf 189) 217 = .ok (.aload_n 0, 1) := by decide +kernel
theorem d_189_218 : decode (codeOf 189) 218 = .ok (.getfield 44, 3) := by decide +kernel
theorem d_189_221 : decode (codeOf 189) 221 = .ok (.iload_n 3, 1) := by decide +kernel
theorem d_189_222 : decode (codeOf 189) 222 = .ok (.iaload, 1) := by decide +kernel
theorem d_189_223 : decode (codeOf 189) 223 = .ok (.iconst 1, 1) := by decide +kernel
theorem d_189_224 : decode (codeOf 189) 224 = .ok (.if_icmp .ne 13, 3) := by decide +kernel
theorem d_189_227 : decode (codeOf 189) 227 = .ok (.aload_n 0, 1) := by decide +kernel
theorem d_189_228 : decode (codeOf 189) 228 = .ok (.iload_n 1, 1) := by decide +kernel
theorem d_189_229 : decode (codeOf 189) 229 = .ok (.iload 4, 2) := by decide +kernel
theorem d_189_231 : decode (codeOf 189) 231 = .ok (.invokevirtual 256, 3) := by decide +kernel
theorem d_189_234 : decode (codeOf 189) 234 = .ok (.goto 4, 3) := by decide +kernel
theorem d_189_237 : decode (codeOf 189) 237 = .ok (.iconst 1, 1) := by decide +kernel
theorem d_189_238 : decode (codeOf 189) 238 = .ok (.ireturn, 1) := by decide +kernel
theorem d_189_239 : decode (codeOf 189) 239 = .ok (.aload_n 0, 1) := by decide +kernel
theorem d_189_240 : decode (codeOf 189) 240 = .ok (.getfield 44, 3) := by decide +kernel
theorem d_189_243 : decode (codeOf 189) 243 = .ok (.iconst 3, 1) := by decide +kernel
theorem d_189_244 : decode (codeOf 189) 244 = .ok (.bipush 6, 2) := by decide +kernel
theorem d_189_246 : decode (codeOf 189) 246 = .ok (.iload 4, 2) := by decide +kernel
theorem d_189_248 : decode (codeOf 189) 248 = .ok (.iadd, 1) := by decide +kernel
theorem d_189_249 : decode (codeOf 189) 249 = .ok (.iastore, 1) := by decide +kernel
theorem d_189_250 : decode (codeOf 189) 250 = .ok (.aload_n 0, 1) := by decide +kernel
theorem d_189_251 : decode (codeOf 189) 251 = .ok (.iload_n 1, 1) := by decide +kernel
theorem d_189_252 : decode (codeOf 189) 252 = .ok (.iload_n 3, 1) := by decide +kernel
theorem d_189_253 : decode (codeOf 189) 253 = .ok (.invokevirtual 256, 3) := by decide +kernel
theorem d_189_256 : decode (codeOf 189) 256 = .ok (.ireturn, 1) := by decide +kernel
theorem d_189_257 : decode (codeOf 189) 257 = .ok (.aload_n 0, 1) := by decide +kernel
theorem d_189_258 : decode (codeOf 189) 258 = .ok (.getfield 44, 3) := by decide +kernel
theorem d_189_261 : decode (codeOf 189) 261 = .ok (.iload_n 3, 1) := by decide +kernel
theorem d_189_262 : decode (codeOf 189) 262 = .ok (.iaload, 1) := by decide +kernel
theorem d_189_263 : decode (codeOf 189) 263 = .ok (.i2l, 1) := by decide +kernel
theorem d_189_264 : decode (codeOf 189) 264 = .ok (.ldc2_w 179, 3) := by decide +kernel
theorem d_189_267 : decode (codeOf 189) 267 = .ok (.ldc2_w 183, 3) := by decide +kernel
theorem d_189_270 : decode (codeOf 189) 270 = .ok (.invokestatic 106, 3) := by decide +kernel
theorem d_189_273 : decode (codeOf 189) 273 = .ok (.ifCond .eq 20, 3) := by decide +kernel
theorem d_189_276 : decode (codeOf 189) 276 = .ok (.aload_n 0, 1) := by decide +kernel
theorem d_189_277 : decode (codeOf 189) 277 = .ok (.iload_n 1, 1) := by decide +kernel
theorem d_189_278 : decode (codeOf 189) 278 = .ok (.aload_n 0, 1) := by decide +kernel
theorem d_189_279 : decode (codeOf 189) 279 = .ok (.getfield 44, 3) := by decide +kernel
theorem d_189_282 : decode (codeOf 189) 282 = .ok (.iload_n 3, 1) := by decide +kernel
theorem d_189_283 : decode (codeOf 189) 283 = .ok (.iaload, 1) := by decide +kernel
theorem d_189_284 : decode (codeOf 189) 284 = .ok (.bipush 6, 2) := by decide +kernel
theorem d_189_286 : decode (codeOf 189) 286 = .ok (.isub, 1) := by decide +kernel
theorem d_189_287 : decode (codeOf 189) 287 = .ok (.invokevirtual 256, 3) := by decide +kernel
theorem d_189_290 : decode (codeOf 189) 290 = .ok (.goto 5, 3) := by decide +kernel
theorem d_189_293 : decode (codeOf 189) 293 = .ok (.bipush 8, 2) := by decide +kernel
theorem d_189_295 : decode (codeOf 189) 295 = .ok (.ireturn, 1) := by decide +kernel
theorem d_189_296 : decode (codeOf 189) 296 = .ok (.aload_n 0, 1) := by decide +kernel
theorem d_189_297 : decode (codeOf 189) 297 = .ok (.getfield 44, 3) := by decide +kernel
theorem d_189_300 : decode (codeOf 189) 300 = .ok (.iconst 0, 1) := by decide +kernel
theorem d_189_301 : decode (codeOf 189) 301 = .ok (.iaload, 1) := by decide +kernel
theorem d_189_302 : decode (codeOf 189) 302 = .ok (.iconst 1, 1) := by decide +kernel
theorem d_189_303 : decode (codeOf 189) 303 = .ok (.if_icmp .ne 7, 3) := by decide +kernel
theorem d_189_306 : decode (codeOf 189) 306 = .ok (.iconst 0, 1) := by decide +kernel
theorem d_189_307 : decode (codeOf 189) 307 = .ok (.goto 4, 3) := by decide +kernel
theorem d_189_310 : decode (codeOf 189) 310 = .ok (.iconst 1, 1) := by decide +kernel
theorem d_189_311 : decode (codeOf 189) 311 = .ok (.ireturn, 1) := by decide +kernel
theorem d_190_0 : decode (codeOf 190) 0 = .ok (.iload_n 0, 1) := by decide +kernel
theorem d_190_1 : decode (codeOf 190) 1 = .ok (.bipush 9, 2) := by decide +kernel
theorem d_190_3 : decode (codeOf 190) 3 = .ok (.if_icmp .eq 9, 3) := by decide +kernel
theorem d_190_6 : decode (codeOf 190) 6 = .ok (.iload_n 0, 1) := by decide +kernel
theorem d_190_7 : decode (codeOf 190) 7 = .ok (.bipush 10, 2) := by decide +kernel
theorem d_190_9 : decode (codeOf 190) 9 = .ok (.if_icmp .le 7, 3) := by decide +kernel
theorem d_190_12 : decode (codeOf 190) 12 = .ok (.iconst 1, 1) := by decide +kernel
theorem d_190_13 : decode (codeOf 190) 13 = .ok (.goto 4, 3) := by decide +kernel
theorem d_190_16 : decode (codeOf 190) 16 = .ok (.iconst 0, 1) := by decide +kernel
theorem d_190_17 : decode (codeOf 190) 17 = .ok (.ireturn, 1) := by decide +kernel
theorem d_191_0 : decode (codeOf 191) 0 = .ok (.aload_n 0, 1) := by decide +kernel
theorem d_191_1 : decode (codeOf 191) 1 = .ok (.iload_n 1, 1) := by decide +kernel
theorem d_191_2 : decode (codeOf 191) 2 = .ok (.iload_n 2, 1) := by decide +kernel
theorem d_191_3 : decode (codeOf 191) 3 = .ok (.invokevirtual 259, 3) := by decide +kernel
theorem d_191_6 : decode (codeOf 191) 6 = .ok (.aload_n 0, 1) := by decide +kernel
theorem d_191_7 : decode (codeOf 191) 7 = .ok (.iconst 0, 1) := by decide +kernel
theorem d_191_8 : decode (codeOf 191) 8 = .ok (.putfield 262, 3) := by decide +kernel
theorem d_191_11 : decode (codeOf 191) 11 = .ok (.aload_n 0, 1) := by decide +kernel
theorem d_191_12 : decode (codeOf 191) 12 = .ok (.bipush (-4), 2) := by decide +kernel
theorem d_191_14 : decode (codeOf 191) 14 = .ok (.putfield 265, 3) := by decide +kernel
theorem d_191_17 : decode (codeOf 191) 17 = .ok (.aload_n 0, 1) := by decide +kernel
theorem d_191_18 : decode (codeOf 191) 18 = .ok (.iload_n 1, 1) := by decide +kernel
theorem d_191_19 : decode (codeOf 191) 19 = .ok (.iload_n 2, 1) := by decide +kernel
theorem d_191_20 : decode (codeOf 191) 20 = .ok (.invokevirtual 176, 3) := by decide +kernel
theorem d_191_23 : decode (codeOf 191) 23 = .ok (.istore 4, 2) := by decide +kernel
theorem d_191_25 : decode (codeOf 191) 25 = .ok (.iconst 0, 1) := by decide +kernel
theorem d_191_26 : decode (codeOf 191) 26 = .ok (.istore 5, 2) := by decide +kernel
theorem d_191_28 : decode (codeOf 191) 28 = .ok (.iconst 0, 1) := by decide +kernel
theorem d_191_29 : decode (codeOf 191) 29 = .ok (.istore 6, 2) := by decide +kernel
theorem d_191_31 : decode (codeOf 191) 31 = .ok (.iload 6, 2) := by decide +kernel
theorem d_191_33 : decode (codeOf 191) 33 = .ok (.iload 4, 2) := by decide +kernel
theorem d_191_35 : decode (codeOf 191) 35 = .ok (.if_icmp .ge 96, 3) := by decide +kernel
theorem d_191_38 : decode (codeOf 191) 38 = .ok (.iload 6, 2) := by decide +kernel
theorem d_191_40 : decode (codeOf 191) 40 = .ok (.iload_n 3, 1) := by decide +kernel
theorem d_191_41 : decode (codeOf 191) 41 = .ok (.if_icmp .ge 90, 3) := by decide +kernel
theorem d_191_44 : decode (codeOf 191) 44 = .ok (.aload_n 0, 1) := by decide +kernel
theorem d_191_45 : decode (codeOf 191) 45 = .ok (.getfield 262, 3) := by decide +kernel
theorem d_191_48 : decode (codeOf 191) 48 = .ok (.ifCond .ne 83, 3) := by decide +kernel
theorem d_191_51 : decode (codeOf 191) 51 = .ok (.aload_n 0, 1) := by decide +kernel
theorem d_191_52 : decode (codeOf 191) 52 = .ok (.iload 5, 2) := by decide +kernel
theorem d_191_54 : decode (codeOf 191) 54 = .ok (.ifCond .eq 8, 3) := by decide +kernel
theorem d_191_57 : decode (codeOf 191) 57 = .ok (.bipush 9, 2) := by decide +kernel
theorem d_191_59 : decode (codeOf 191) 59 = .ok (.goto 15, 3) := by decide +kernel
theorem d_191_62 : decode (codeOf 191) 62 = .ok (.aload_n 0, 1) := by decide +kernel
theorem d_191_63 : decode (codeOf 191) 63 = .ok (.iload_n 1, 1) := by decide +kernel
theorem d_191_64 : decode (codeOf 191) 64 = .ok (.iload_n 1, 1) := by decide +kernel
theorem d_191_65 : decode (codeOf 191) 65 = .ok (.iload_n 2, 1) := by decide +kernel
theorem d_191_66 : decode (codeOf 191) 66 = .ok (.iload 6, 2) := by decide +kernel
theorem d_191_68 : decode (codeOf 191) 68 = .ok (.invokestatic 193, 3) := by decide +kernel
theorem d_191_71 : decode (codeOf 191) 71 = .ok (.invokevirtual 268, 3) := by decide +kernel
theorem d_191_74 : decode (codeOf 191) 74 = .ok (.putfield 262, 3) := by decide +kernel
theorem d_191_77 : decode (codeOf 191) 77 = .ok (.iload 5, 2) := by decide +kernel
theorem d_191_79 : decode (codeOf 191) 79 = .ok (.ifCond .ne 21, 3) := by decide +kernel
theorem d_191_82 : decode (codeOf 191) 82 = .ok (.aload_n 0, 1) := by decide +kernel
theorem d_191_83 : decode (codeOf 191) 83 = .ok (.getfield 37, 3) := by decide +kernel
theorem d_191_86 : decode (codeOf 191) 86 = .ok (.iload_n 1, 1) := by decide +kernel
theorem d_191_87 : decode (codeOf 191) 87 = .ok (.iload_n 2, 1) := by decide +kernel
theorem d_191_88 : decode (codeOf 191) 88 = .ok (.iload 6, 2) := by decide +kernel
theorem d_191_90 : decode (codeOf 191) 90 = .ok (.invokestatic 193, 3) := by decide +kernel
theorem d_191_93 : decode (codeOf 191) 93 = .ok (.iaload, 1) := by decide +kernel
theorem d_191_94 : decode (codeOf 191) 94 = .ok (.invokestatic 271, 3) := by decide +kernel
theorem d_191_97 : decode (codeOf 191) 97 = .ok (.ifCond .eq 7, 3) := by decide +kernel
theorem d_191_100 : decode (codeOf 191) 100 = .ok (.iconst 1, 1) := by decide +kernel
theorem d_191_101 : decode (codeOf 191) 101 = .ok (.goto 4, 3) := by decide +kernel
theorem d_191_104 : decode (codeOf 191) 104 = .ok (.iconst 0, 1) := by decide +kernel
theorem d_191_105 : decode (codeOf 191) 105 = .ok (.istore 5, 2) := by decide +kernel
theorem d_191_107 : decode (codeOf 191) 107 = .ok (.aload_n 0, 1) := by decide +kernel
theorem d_191_108 : decode (codeOf 191) 108 = .ok (.aload_n 0, 1) := by decide +kernel
theorem d_191_109 : decode (codeOf 191) 109 = .ok (.getfield 262, 3) := by decide +kernel
theorem d_191_112 : decode (codeOf 191) 112 = .ok (.ifCond .le 8, 3) := by decide +kernel
theorem d_191_115 : decode (codeOf 191) 115 = .ok (.iload 6, 2) := by decide +kernel
theorem d_191_117 : decode (codeOf 191) 117 = .ok (.goto 5, 3) := by decide +kernel
theorem d_191_120 : decode (codeOf 191) 120 = .ok (.bipush (-4), 2) := by decide +kernel
theorem d_191_122 : decode (codeOf 191) 122 = .ok (.putfield 265, 3) := by decide +kernel
theorem d_191_125 : decode (codeOf 191) 125 = .ok (.iinc 6 1, 3) := by decide +kernel
theorem d_191_128 : decode (codeOf 191) 128 = .ok (.goto (-97), 3) := by decide +kernel
theorem d_191_131 : decode (codeOf 191) 131 = .ok (.aload_n 0, 1) := by decide +kernel
theorem d_191_132 : decode (codeOf 191) 132 = .ok (.getfield 262, 3) := by decide +kernel
theorem d_191_135 : decode (codeOf 191) 135 = .ok (.ifCond .ne 26, 3) := by decide +kernel
theorem d_191_138 : decode (codeOf 191) 138 = .ok (.iload_n 3, 1) := by decide +kernel
theorem d_191_139 : decode (codeOf 191) 139 = .ok (.iload 4, 2) := by decide +kernel
theorem d_191_141 : decode (codeOf 191) 141 = .ok (.if_icmp .le 20, 3) := by decide +kernel
theorem d_191_144 : decode (codeOf 191) 144 = .ok (.iload 5, 2) := by decide +kernel
theorem d_191_146 : decode (codeOf 191) 146 = .ok (.ifCond .ne 15, 3) := by decide +kernel
theorem d_191_149 : decode (codeOf 191) 149 = .ok (.aload_n 0, 1) := by decide +kernel
theorem d_191_150 : decode (codeOf 191) 150 = .ok (.bipush 10, 2) := by decide +kernel
theorem d_191_152 : decode (codeOf 191) 152 = .ok (.putfield 262, 3) := by decide +kernel
theorem d_191_155 : decode (codeOf 191) 155 = .ok (.aload_n 0, 1) := by decide +kernel
theorem d_191_156 : decode (codeOf 191) 156 = .ok (.iload 4, 2) := by decide +kernel
theorem d_191_158 : decode (codeOf 191) 158 = .ok (.putfield 265, 3) := by decide +kernel
theorem d_191_161 : decode (codeOf 191) 161 = .ok (.return_, 1) := by decide +kernel
theorem d_192_0 : decode (codeOf 192) 0 = .ok (.aload_n 0, 1) := by decide +kernel
theorem d_192_1 : decode (codeOf 192) 1 = .ok (.iload_n 1, 1) := by decide +kernel
theorem d_192_2 : decode (codeOf 192) 2 = .ok (.iload_n 2, 1) := by decide +kernel
theorem d_192_3 : decode (codeOf 192) 3 = .ok (.bipush 9, 2) := by decide +kernel
theorem d_192_5 : decode (codeOf 192) 5 = .ok (.invokevirtual 274, 3) := by decide +kernel
theorem d_192_8 : decode (codeOf 192) 8 = .ok (.aload_n 0, 1) := by decide +kernel
theorem d_192_9 : decode (codeOf 192) 9 = .ok (.getfield 262, 3) := by decide +kernel
theorem d_192_12 : decode (codeOf 192) 12 = .ok (.ifCond .ne 7, 3) := by decide +kernel
theorem d_192_15 : decode (codeOf 192) 15 = .ok (.iconst 1, 1) := by decide +kernel
theorem d_192_16 : decode (codeOf 192) 16 = .ok (.goto 4, 3) := by decide +kernel
theorem d_192_19 : decode (codeOf 192) 19 = .ok (.iconst 0, 1) := by decide +kernel
theorem d_192_20 : decode (codeOf 192) 20 = .ok (.ireturn, 1) := by decide +kernel
theorem d_193_0 : decode (codeOf 193) 0 = .ok (.aload_n 0, 1) := by decide +kernel
theorem d_193_1 : decode (codeOf 193) 1 = .ok (.iload_n 1, 1) := by decide +kernel
theorem d_193_2 : decode (codeOf 193) 2 = .ok (.invokevirtual 172, 3) := by decide +kernel
theorem d_193_5 : decode (codeOf 193) 5 = .ok (.ifCond .ne 5, 3) := by decide +kernel
theorem d_193_8 : decode (codeOf 193) 8 = .ok (.iconst (-1), 1) := by decide +kernel
theorem d_193_9 : decode (codeOf 193) 9 = .ok (.ireturn, 1) := by decide +kernel
theorem d_193_10 : decode (codeOf 193) 10 = .ok (.aload_n 0, 1) := by decide +kernel
theorem d_193_11 : decode (codeOf 193) 11 = .ok (.iconst 0, 1) := by decide +kernel
theorem d_193_12 : decode (codeOf 193) 12 = .ok (.iload_n 1, 1) := by decide +kernel
theorem d_193_13 : decode (codeOf 193) 13 = .ok (.bipush 9, 2) := by decide +kernel
theorem d_193_15 : decode (codeOf 193) 15 = .ok (.invokevirtual 274, 3) := by decide +kernel
theorem d_193_18 : decode (codeOf 193) 18 = .ok (.aload_n 0, 1) := by decide +kernel
theorem d_193_19 : decode (codeOf 193) 19 = .ok (.getfield 265, 3) := by decide +kernel
theorem d_193_22 : decode (codeOf 193) 22 = .ok (.ireturn, 1) := by decide +kernel
theorem d_194_0 : decode (codeOf 194) 0 = .ok (.aload_n 0, 1) := by decide +kernel
theorem d_194_1 : decode (codeOf 194) 1 = .ok (.iload_n 1, 1) := by decide +kernel
theorem d_194_2 : decode (codeOf 194) 2 = .ok (.invokevirtual 172, 3) := by decide +kernel
theorem d_194_5 : decode (codeOf 194) 5 = .ok (.ifCond .ne 5, 3) := by decide +kernel
theorem d_194_8 : decode (codeOf 194) 8 = .ok (.iconst (-1), 1) := by decide +kernel
theorem d_194_9 : decode (codeOf 194) 9 = .ok (.ireturn, 1) := by decide +kernel
theorem d_194_10 : decode (codeOf 194) 10 = .ok (.aload_n 0, 1) := by decide +kernel
theorem d_194_11 : decode (codeOf 194) 11 = .ok (.iconst 0, 1) := by decide +kernel
theorem d_194_12 : decode (codeOf 194) 12 = .ok (.iload_n 1, 1) := by decide +kernel
theorem d_194_13 : decode (codeOf 194) 13 = .ok (.bipush 9, 2) := by decide +kernel
theorem d_194_15 : decode (codeOf 194) 15 = .ok (.invokevirtual 274, 3) := by decide +kernel
theorem d_194_18 : decode (codeOf 194) 18 = .ok (.aload_n 0, 1) := by decide +kernel
theorem d_194_19 : decode (codeOf 194) 19 = .ok (.getfield 262, 3) := by decide +kernel
theorem d_194_22 : decode (codeOf 194) 22 = .ok (.ifCond .ne 8, 3) := by decide +kernel
theorem d_194_25 : decode (codeOf 194) 25 = .ok (.bipush (-4), 2) := by decide +kernel
theorem d_194_27 : decode (codeOf 194) 27 = .ok (.goto 7, 3) := by decide +kernel
theorem d_194_30 : decode (codeOf 194) 30 = .ok (.aload_n 0, 1) := by decide +kernel
theorem d_194_31 : decode (codeOf 194) 31 = .ok (.getfield 262, 3) := by decide +kernel
theorem d_194_34 : decode (codeOf 194) 34 = .ok (.ireturn, 1) := by decide +kernel
theorem d_195_0 : decode (codeOf 195) 0 = .ok (.aload_n 0, 1) := by decide +kernel
theorem d_195_1 : decode (codeOf 195) 1 = .ok (.iload_n 1, 1) := by decide +kernel
theorem d_195_2 : decode (codeOf 195) 2 = .ok (.invokevirtual 172, 3) := by decide +kernel
theorem d_195_5 : decode (codeOf 195) 5 = .ok (.ifCond .eq 31, 3) := by decide +kernel
theorem d_195_8 : decode (codeOf 195) 8 = .ok (.iload_n 2, 1) := by decide +kernel
theorem d_195_9 : decode (codeOf 195) 9 = .ok (.i2l, 1) := by decide +kernel
theorem d_195_10 : decode (codeOf 195) 10 = .ok (.lconst 0, 1) := by decide +kernel
theorem d_195_11 : decode (codeOf 195) 11 = .ok (.aload_n 0, 1) := by decide +kernel
theorem d_195_12 : decode (codeOf 195) 12 = .ok (.iconst 0, 1) := by decide +kernel
theorem d_195_13 : decode (codeOf 195) 13 = .ok (.iload_n 1, 1) := by decide +kernel
theorem d_195_14 : decode (codeOf 195) 14 = .ok (.invokevirtual 176, 3) := by decide +kernel
theorem d_195_17 : decode (codeOf 195) 17 = .ok (.i2l, 1) := by decide +kernel
theorem d_195_18 : decode (codeOf 195) 18 = .ok (.invokestatic 106, 3) := by decide +kernel
theorem d_195_21 : decode (codeOf 195) 21 = .ok (.ifCond .eq 15, 3) := by decide +kernel
theorem d_195_24 : decode (codeOf 195) 24 = .ok (.iload_n 3, 1) := by decide +kernel
theorem d_195_25 : decode (codeOf 195) 25 = .ok (.i2l, 1) := by decide +kernel
theorem d_195_26 : decode (codeOf 195) 26 = .ok (.lconst 0, 1) := by decide +kernel
theorem d_195_27 : decode (codeOf 195) 27 = .ok (.ldc2_w 277, 3) := by decide +kernel
theorem d_195_30 : decode (codeOf 195) 30 = .ok (.invokestatic 106, 3) := by decide +kernel
theorem d_195_33 : decode (codeOf 195) 33 = .ok (.ifCond .ne 5, 3) := by decide +kernel
theorem d_195_36 : decode (codeOf 195) 36 = .ok (.iconst (-1), 1) := by decide +kernel
theorem d_195_37 : decode (codeOf 195) 37 = .ok (.ireturn, 1) := by decide +kernel
theorem d_195_38 : decode (codeOf 195) 38 = .ok (.aload_n 0, 1) := by decide +kernel
theorem d_195_39 : decode (codeOf 195) 39 = .ok (.iconst 0, 1) := by decide +kernel
theorem d_195_40 : decode (codeOf 195) 40 = .ok (.iload_n 1, 1) := by decide +kernel
theorem d_195_41 : decode (codeOf 195) 41 = .ok (.iload_n 2, 1) := by decide +kernel
theorem d_195_42 : decode (codeOf 195) 42 = .ok (.invokevirtual 274, 3) := by decide +kernel
theorem d_195_45 : decode (codeOf 195) 45 = .ok (.aload_n 0, 1) := by decide +kernel
theorem d_195_46 : decode (codeOf 195) 46 = .ok (.getfield 262, 3) := by decide +kernel
theorem d_195_49 : decode (codeOf 195) 49 = .ok (.ifCond .le 6, 3) := by decide +kernel
theorem d_195_52 : decode (codeOf 195) 52 = .ok (.bipush (-4), 2) := by decide +kernel
theorem d_195_54 : decode (codeOf 195) 54 = .ok (.ireturn, 1) := by decide +kernel
theorem d_195_55 : decode (codeOf 195) 55 = .ok (.iload_n 3, 1) := by decide +kernel
theorem d_195_56 : decode (codeOf 195) 56 = .ok (.iconst 4, 1) := by decide +kernel
theorem d_195_57 : decode (codeOf 195) 57 = .ok (.if_icmp .ge 12, 3) := by decide +kernel
theorem d_195_60 : decode (codeOf 195) 60 = .ok (.aload_n 0, 1) := by decide +kernel
theorem d_195_61 : decode (codeOf 195) 61 = .ok (.getfield 44, 3) := by decide +kernel
theorem d_195_64 : decode (codeOf 195) 64 = .ok (.iload_n 3, 1) := by decide +kernel
theorem d_195_65 : decode (codeOf 195) 65 = .ok (.iaload, 1) := by decide +kernel
theorem d_195_66 : decode (codeOf 195) 66 = .ok (.goto 45, 3) := by decide +kernel
theorem d_195_69 : decode (codeOf 195) 69 = .ok (.iload_n 3, 1) := by decide +kernel
theorem d_195_70 : decode (codeOf 195) 70 = .ok (.iconst 4, 1) := by decide +kernel
theorem d_195_71 : decode (codeOf 195) 71 = .ok (.if_icmp .ne 10, 3) := by decide +kernel
theorem d_195_74 : decode (codeOf 195) 74 = .ok (.aload_n 0, 1) := by decide +kernel
theorem d_195_75 : decode (codeOf 195) 75 = .ok (.getfield 213, 3) := by decide +kernel
theorem d_195_78 : decode (codeOf 195) 78 = .ok (.goto 33, 3) := by decide +kernel
theorem d_195_81 : decode (codeOf 195) 81 = .ok (.iload_n 3, 1) := by decide +kernel
theorem d_195_82 : decode (codeOf 195) 82 = .ok (.iconst 5, 1) := by decide +kernel
theorem d_195_83 : decode (codeOf 195) 83 = .ok (.isub, 1) := by decide +kernel
theorem d_195_84 : decode (codeOf 195) 84 = .ok (.aload_n 0, 1) := by decide +kernel
theorem d_195_85 : decode (codeOf 195) 85 = .ok (.getfield 213, 3) := by decide +kernel
theorem d_195_88 : decode (codeOf 195) 88 = .ok (.if_icmp .ge 21, 3) := by decide +kernel
theorem d_195_91 : decode (codeOf 195) 91 = .ok (.aload_n 0, 1) := by decide +kernel
theorem d_195_92 : decode (codeOf 195) 92 = .ok (.getfield 47, 3) := by decide +kernel
theorem d_195_95 : decode (codeOf 195) 95 = .ok (.aload_n 0, 1) := by decide +kernel
theorem d_195_96 : decode (codeOf 195) 96 = .ok (.getfield 213, 3) := by decide +kernel
theorem d_195_99 : decode (codeOf 195) 99 = .ok (.iconst 1, 1) := by decide +kernel
theorem d_195_100 : decode (codeOf 195) 100 = .ok (.isub, 1) := by decide +kernel
theorem d_195_101 : decode (codeOf 195) 101 = .ok (.iload_n 3, 1) := by decide +kernel
theorem d_195_102 : decode (codeOf 195) 102 = .ok (.iconst 5, 1) := by decide +kernel
theorem d_195_103 : decode (codeOf 195) 103 = .ok (.isub, 1) := by decide +kernel
theorem d_195_104 : decode (codeOf 195) 104 = .ok (.isub, 1) := by decide +kernel
theorem d_195_105 : decode (codeOf 195) 105 = .ok (.iaload, 1) := by decide +kernel
theorem d_195_106 : decode (codeOf 195) 106 = .ok (.goto 5, 3) := by decide +kernel
theorem d_195_109 : decode (codeOf 195) 109 = .ok (.bipush (-4), 2) := by decide +kernel
theorem d_195_111 : decode (codeOf 195) 111 = .ok (.ireturn, 1) := by decide +kernel
theorem d_196_0 : decode (codeOf 196) 0 = .ok (.iconst 0, 1) := by decide +kernel
theorem d_196_1 : decode (codeOf 196) 1 = .ok (.istore_n 2, 1) := by decide +kernel
theorem d_196_2 : decode (codeOf 196) 2 = .ok (.iconst 0, 1) := by decide +kernel
theorem d_196_3 : decode (codeOf 196) 3 = .ok (.istore_n 3, 1) := by decide +kernel
theorem d_196_4 : decode (codeOf 196) 4 = .ok (.iload_n 3, 1) := by decide +kernel
theorem d_196_5 : decode (codeOf 196) 5 = .ok (.aload_n 0, 1) := by decide +kernel
theorem d_196_6 : decode (codeOf 196) 6 = .ok (.getfield 93, 3) := by decide +kernel
theorem d_196_9 : decode (codeOf 196) 9 = .ok (.if_icmp .ge 28, 3) := by decide +kernel
theorem d_196_12 : decode (codeOf 196) 12 = .ok (.iload_n 2, 1) := by decide +kernel
theorem d_196_13 : decode (codeOf 196) 13 = .ok (.aload_n 0, 1) := by decide +kernel
theorem d_196_14 : decode (codeOf 196) 14 = .ok (.iload_n 1, 1) := by decide +kernel
theorem d_196_15 : decode (codeOf 196) 15 = .ok (.iload_n 3, 1) := by decide +kernel
theorem d_196_16 : decode (codeOf 196) 16 = .ok (.invokevirtual 279, 3) := by decide +kernel
theorem d_196_19 : decode (codeOf 196) 19 = .ok (.ifCond .eq 9, 3) := by decide +kernel
theorem d_196_22 : decode (codeOf 196) 22 = .ok (.iconst 1, 1) := by decide +kernel
theorem d_196_23 : decode (codeOf 196) 23 = .ok (.iload_n 3, 1) := by decide +kernel
theorem d_196_24 : decode (codeOf 196) 24 = .ok (.ishl, 1) := by decide +kernel
theorem d_196_25 : decode (codeOf 196) 25 = .ok (.goto 4, 3) := by decide +kernel
theorem d_196_28 : decode (codeOf 196) 28 = .ok (.iconst 0, 1) := by decide +kernel
theorem d_196_29 : decode (codeOf 196) 29 = .ok (.ior, 1) := by decide +kernel
theorem d_196_30 : decode (codeOf 196) 30 = .ok (.istore_n 2, 1) := by decide +kernel
theorem d_196_31 : decode (codeOf 196) 31 = .ok (.iinc 3 1, 3) := by decide +kernel
theorem d_196_34 : decode (codeOf 196) 34 = .ok (.goto (-30), 3) := by decide +kernel
theorem d_196_37 : decode (codeOf 196) 37 = .ok (.iload_n 2, 1) := by decide +kernel
theorem d_196_38 : decode (codeOf 196) 38 = .ok (.ireturn, 1) := by decide +kernel
theorem d_197_0 : decode (codeOf 197) 0 = .ok (.aload_n 0, 1) := by decide +kernel
theorem d_197_1 : decode (codeOf 197) 1 = .ok (.iconst 0, 1) := by decide +kernel
theorem d_197_2 : decode (codeOf 197) 2 = .ok (.invokevirtual 282, 3) := by decide +kernel
theorem d_197_5 : decode (codeOf 197) 5 = .ok (.ireturn, 1) := by decide +kernel
theorem d_198_0 : decode (codeOf 198) 0 = .ok (.aload_n 0, 1) := by decide +kernel
theorem d_198_1 : decode (codeOf 198) 1 = .ok (.iload_n 1, 1) := by decide +kernel
theorem d_198_2 : decode (codeOf 198) 2 = .ok (.invokevirtual 172, 3) := by decide +kernel
theorem d_198_5 : decode (codeOf 198) 5 = .ok (.ifCond .ne 5, 3) := by decide +kernel
theorem d_198_8 : decode (codeOf 198) 8 = .ok (.iconst (-1), 1) := by decide +kernel
theorem d_198_9 : decode (codeOf 198) 9 = .ok (.ireturn, 1) := by decide +kernel
theorem d_198_10 : decode (codeOf 198) 10 = .ok (.iconst 0, 1) := by decide +kernel
theorem d_198_11 : decode (codeOf 198) 11 = .ok (.istore_n 2, 1) := by decide +kernel
theorem d_198_12 : decode (codeOf 198) 12 = .ok (.iconst 0, 1) := by decide +kernel
theorem d_198_13 : decode (codeOf 198) 13 = .ok (.istore_n 3, 1) := by decide +kernel
theorem d_198_14 : decode (codeOf 198) 14 = .ok (.iload_n 3, 1) := by decide +kernel
theorem d_198_15 : decode (codeOf 198) 15 = .ok (.aload_n 0, 1) := by decide +kernel
theorem d_198_16 : decode (codeOf 198) 16 = .ok (.getfield 93, 3) := by decide +kernel
theorem d_198_19 : decode (codeOf 198) 19 = .ok (.if_icmp .ge 34, 3) := by decide +kernel
theorem d_198_22 : decode (codeOf 198) 22 = .ok (.aload_n 0, 1) := by decide +kernel
theorem d_198_23 : decode (codeOf 198) 23 = .ok (.iconst 0, 1) := by decide +kernel
theorem d_198_24 : decode (codeOf 198) 24 = .ok (.iload_n 1, 1) := by decide +kernel
theorem d_198_25 : decode (codeOf 198) 25 = .ok (.invokevirtual 259, 3) := by decide +kernel
theorem d_198_28 : decode (codeOf 198) 28 = .ok (.iload_n 2, 1) := by decide +kernel
theorem d_198_29 : decode (codeOf 198) 29 = .ok (.aload_n 0, 1) := by decide +kernel
theorem d_198_30 : decode (codeOf 198) 30 = .ok (.iconst 0, 1) := by decide +kernel
theorem d_198_31 : decode (codeOf 198) 31 = .ok (.iload_n 3, 1) := by decide +kernel
theorem d_198_32 : decode (codeOf 198) 32 = .ok (.invokevirtual 256, 3) := by decide +kernel
theorem d_198_35 : decode (codeOf 198) 35 = .ok (.ifCond .ne 9, 3) := by decide +kernel
theorem d_198_38 : decode (codeOf 198) 38 = .ok (.iconst 1, 1) := by decide +kernel
theorem d_198_39 : decode (codeOf 198) 39 = .ok (.iload_n 3, 1) := by decide +kernel
theorem d_198_40 : decode (codeOf 198) 40 = .ok (.ishl, 1) := by decide +kernel
theorem d_198_41 : decode (codeOf 198) 41 = .ok (.goto 4, 3) := by decide +kernel
theorem d_198_44 : decode (codeOf 198) 44 = .ok (.iconst 0, 1) := by decide +kernel
theorem d_198_45 : decode (codeOf 198) 45 = .ok (.ior, 1) := by decide +kernel
theorem d_198_46 : decode (codeOf 198) 46 = .ok (.istore_n 2, 1) := by decide +kernel
theorem d_198_47 : decode (codeOf 198) 47 = .ok (.iinc 3 1, 3) := by decide +kernel
theorem d_198_50 : decode (codeOf 198) 50 = .ok (.goto (-36), 3) := by decide +kernel
theorem d_198_53 : decode (codeOf 198) 53 = .ok (.iload_n 2, 1) := by decide +kernel
theorem d_198_54 : decode (codeOf 198) 54 = .ok (.ireturn, 1) := by decide +kernel
theorem d_199_0 : decode (codeOf 199) 0 = .ok (.aload_n 0, 1) := by decide +kernel
theorem d_199_1 : decode (codeOf 199) 1 = .ok (.iload_n 1, 1) := by decide +kernel
theorem d_199_2 : decode (codeOf 199) 2 = .ok (.invokevirtual 172, 3) := by decide +kernel
theorem d_199_5 : decode (codeOf 199) 5 = .ok (.ifCond .eq 15, 3) := by decide +kernel
theorem d_199_8 : decode (codeOf 199) 8 = .ok (.iload_n 2, 1) := by decide +kernel
theorem d_199_9 : decode (codeOf 199) 9 = .ok (.i2l, 1) := by decide +kernel
theorem d_199_10 : decode (codeOf 199) 10 = .ok (.lconst 0, 1) := by decide +kernel
theorem d_199_11 : decode (codeOf 199) 11 = .ok (.ldc2_w 191, 3) := by decide +kernel
theorem d_199_14 : decode (codeOf 199) 14 = .ok (.invokestatic 106, 3) := by decide +kernel
theorem d_199_17 : decode (codeOf 199) 17 = .ok (.ifCond .ne 5, 3) := by decide +kernel
theorem d_199_20 : decode (codeOf 199) 20 = .ok (.iconst (-1), 1) := by decide +kernel
theorem d_199_21 : decode (codeOf 199) 21 = .ok (.ireturn, 1) := by decide +kernel
theorem d_199_22 : decode (codeOf 199) 22 = .ok (.iconst 0, 1) := by decide +kernel
theorem d_199_23 : decode (codeOf 199) 23 = .ok (.istore_n 3, 1) := by decide +kernel
theorem d_199_24 : decode (codeOf 199) 24 = .ok (.iconst 0, 1) := by decide +kernel
theorem d_199_25 : decode (codeOf 199) 25 = .ok (.istore 4, 2) := by decide +kernel
theorem d_199_27 : decode (codeOf 199) 27 = .ok (.iload 4, 2) := by decide +kernel
theorem d_199_29 : decode (codeOf 199) 29 = .ok (.bipush 10, 2) := by decide +kernel
theorem d_199_31 : decode (codeOf 199) 31 = .ok (.if_icmp .ge 72, 3) := by decide +kernel
theorem d_199_34 : decode (codeOf 199) 34 = .ok (.aload_n 0, 1) := by decide +kernel
theorem d_199_35 : decode (codeOf 199) 35 = .ok (.iload 4, 2) := by decide +kernel
theorem d_199_37 : decode (codeOf 199) 37 = .ok (.invokevirtual 206, 3) := by decide +kernel
theorem d_199_40 : decode (codeOf 199) 40 = .ok (.ifCond .eq 57, 3) := by decide +kernel
theorem d_199_43 : decode (codeOf 199) 43 = .ok (.aload_n 0, 1) := by decide +kernel
theorem d_199_44 : decode (codeOf 199) 44 = .ok (.iconst 0, 1) := by decide +kernel
theorem d_199_45 : decode (codeOf 199) 45 = .ok (.sipush 1320, 3) := by decide +kernel
theorem d_199_48 : decode (codeOf 199) 48 = .ok (.invokevirtual 196, 3) := by decide +kernel
theorem d_199_51 : decode (codeOf 199) 51 = .ok (.aload_n 0, 1) := by decide +kernel
theorem d_199_52 : decode (codeOf 199) 52 = .ok (.getfield 37, 3) := by decide +kernel
theorem d_199_55 : decode (codeOf 199) 55 = .ok (.sipush 1320, 3) := by decide +kernel
theorem d_199_58 : decode (codeOf 199) 58 = .ok (.bipush 30, 2) := by decide +kernel
theorem d_199_60 : decode (codeOf 199) 60 = .ok (.iload_n 1, 1) := by decide +kernel
theorem d_199_61 : decode (codeOf 199) 61 = .ok (.imul, 1) := by decide +kernel
theorem d_199_62 : decode (codeOf 199) 62 = .ok (.iadd, 1) := by decide +kernel
theorem d_199_63 : decode (codeOf 199) 63 = .ok (.iload_n 2, 1) := by decide +kernel
theorem d_199_64 : decode (codeOf 199) 64 = .ok (.iadd, 1) := by decide +kernel
theorem d_199_65 : decode (codeOf 199) 65 = .ok (.iload 4, 2) := by decide +kernel
theorem d_199_67 : decode (codeOf 199) 67 = .ok (.iastore, 1) := by decide +kernel
theorem d_199_68 : decode (codeOf 199) 68 = .ok (.iload_n 3, 1) := by decide +kernel
theorem d_199_69 : decode (codeOf 199) 69 = .ok (.aload_n 0, 1) := by decide +kernel
theorem d_199_70 : decode (codeOf 199) 70 = .ok (.sipush 1320, 3) := by decide +kernel
theorem d_199_73 : decode (codeOf 199) 73 = .ok (.invokevirtual 282, 3) := by decide +kernel
theorem d_199_76 : decode (codeOf 199) 76 = .ok (.iconst 1, 1) := by decide +kernel
theorem d_199_77 : decode (codeOf 199) 77 = .ok (.aload_n 0, 1) := by decide +kernel
theorem d_199_78 : decode (codeOf 199) 78 = .ok (.getfield 93, 3) := by decide +kernel
theorem d_199_81 : decode (codeOf 199) 81 = .ok (.ishl, 1) := by decide +kernel
theorem d_199_82 : decode (codeOf 199) 82 = .ok (.iconst 1, 1) := by decide +kernel
theorem d_199_83 : decode (codeOf 199) 83 = .ok (.isub, 1) := by decide +kernel
theorem d_199_84 : decode (codeOf 199) 84 = .ok (.if_icmp .ne 10, 3) := by decide +kernel
theorem d_199_87 : decode (codeOf 199) 87 = .ok (.iconst 1, 1) := by decide +kernel
theorem d_199_88 : decode (codeOf 199) 88 = .ok (.iload 4, 2) := by decide +kernel
theorem d_199_90 : decode (codeOf 199) 90 = .ok (.ishl, 1) := by decide +kernel
theorem d_199_91 : decode (codeOf 199) 91 = .ok (.goto 4, 3) := by decide +kernel
theorem d_199_94 : decode (codeOf 199) 94 = .ok (.iconst 0, 1) := by decide +kernel
theorem d_199_95 : decode (codeOf 199) 95 = .ok (.ior, 1) := by decide +kernel
theorem d_199_96 : decode (codeOf 199) 96 = .ok (.istore_n 3, 1) := by decide +kernel
theorem d_199_97 : decode (codeOf 199) 97 = .ok (.iinc 4 1, 3) := by decide +kernel
theorem d_199_100 : decode (codeOf 199) 100 = .ok (.goto (-73), 3) := by decide +kernel
theorem d_199_103 : decode (codeOf 199) 103 = .ok (.iload_n 3, 1) := by decide +kernel
theorem d_199_104 : decode (codeOf 199) 104 = .ok (.ireturn, 1) := by decide +kernel
theorem d_200_0 : decode (codeOf 200) 0 = .ok (.iconst 1, 1) := by decide +kernel
theorem d_200_1 : decode (codeOf 200) 1 = .ok (.istore_n 1, 1) := by decide +kernel
theorem d_200_2 : decode (codeOf 200) 2 = .ok (.iconst 0, 1) := by decide +kernel
theorem d_200_3 : decode (codeOf 200) 3 = .ok (.istore_n 2, 1) := by decide +kernel
theorem d_200_4 : decode (codeOf 200) 4 = .ok (.iload_n 2, 1) := by decide +kernel
theorem d_200_5 : decode (codeOf 200) 5 = .ok (.iconst 4, 1) := by decide +kernel
theorem d_200_6 : decode (codeOf 200) 6 = .ok (.if_icmp .ge 93, 3) := by decide +kernel
theorem d_200_9 : decode (codeOf 200) 9 = .ok (.iconst 0, 1) := by decide +kernel
theorem d_200_10 : decode (codeOf 200) 10 = .ok (.istore_n 3, 1) := by decide +kernel
theorem d_200_11 : decode (codeOf 200) 11 = .ok (.iload_n 3, 1) := by decide +kernel
theorem d_200_12 : decode (codeOf 200) 12 = .ok (.aload_n 0, 1) := by decide +kernel
theorem d_200_13 : decode (codeOf 200) 13 = .ok (.getfield 93, 3) := by decide +kernel
theorem d_200_16 : decode (codeOf 200) 16 = .ok (.if_icmp .ge 77, 3) := by decide +kernel
theorem d_200_19 : decode (codeOf 200) 19 = .ok (.iconst 0, 1) := by decide +kernel
theorem d_200_20 : decode (codeOf 200) 20 = .ok (.istore 4, 2) := by decide +kernel
theorem d_200_22 : decode (codeOf 200) 22 = .ok (.iload 4, 2) := by decide +kernel
theorem d_200_24 : decode (codeOf 200) 24 = .ok (.aload_n 0, 1) := by decide +kernel
theorem d_200_25 : decode (codeOf 200) 25 = .ok (.iconst 0, 1) := by decide +kernel
theorem d_200_26 : decode (codeOf 200) 26 = .ok (.iload_n 3, 1) := by decide +kernel
theorem d_200_27 : decode (codeOf 200) 27 = .ok (.invokevirtual 176, 3) := by decide +kernel
theorem d_200_30 : decode (codeOf 200) 30 = .ok (.if_icmp .ge 57, 3) := by decide +kernel
theorem d_200_33 : decode (codeOf 200) 33 = .ok (.iload_n 1, 1) := by decide +kernel
theorem d_200_34 : decode (codeOf 200) 34 = .ok (.iload_n 3, 1) := by decide +kernel
theorem d_200_35 : decode (codeOf 200) 35 = .ok (.invokestatic 237, 3) := by decide +kernel
theorem d_200_38 : decode (codeOf 200) 38 = .ok (.ifCond .eq 49, 3) := by decide +kernel
theorem d_200_41 : decode (codeOf 200) 41 = .ok (.iconst 0, 1) := by decide +kernel
theorem d_200_42 : decode (codeOf 200) 42 = .ok (.iload_n 3, 1) := by decide +kernel
theorem d_200_43 : decode (codeOf 200) 43 = .ok (.iload 4, 2) := by decide +kernel
theorem d_200_45 : decode (codeOf 200) 45 = .ok (.invokestatic 193, 3) := by decide +kernel
theorem d_200_48 : decode (codeOf 200) 48 = .ok (.istore 5, 2) := by decide +kernel
theorem d_200_50 : decode (codeOf 200) 50 = .ok (.iload_n 1, 1) := by decide +kernel
theorem d_200_51 : decode (codeOf 200) 51 = .ok (.aload_n 0, 1) := by decide +kernel
theorem d_200_52 : decode (codeOf 200) 52 = .ok (.getfield 37, 3) := by decide +kernel
theorem d_200_55 : decode (codeOf 200) 55 = .ok (.iload 5, 2) := by decide +kernel
theorem d_200_57 : decode (codeOf 200) 57 = .ok (.iaload, 1) := by decide +kernel
theorem d_200_58 : decode (codeOf 200) 58 = .ok (.aload_n 0, 1) := by decide +kernel
theorem d_200_59 : decode (codeOf 200) 59 = .ok (.getfield 37, 3) := by decide +kernel
theorem d_200_62 : decode (codeOf 200) 62 = .ok (.iload 5, 2) := by decide +kernel
theorem d_200_64 : decode (codeOf 200) 64 = .ok (.iconst 1, 1) := by decide +kernel
theorem d_200_65 : decode (codeOf 200) 65 = .ok (.iadd, 1) := by decide +kernel
theorem d_200_66 : decode (codeOf 200) 66 = .ok (.iaload, 1) := by decide +kernel
theorem d_200_67 : decode (codeOf 200) 67 = .ok (.aload_n 0, 1) := by decide +kernel
theorem d_200_68 : decode (codeOf 200) 68 = .ok (.getfield 37, 3) := by decide +kernel
theorem d_200_71 : decode (codeOf 200) 71 = .ok (.iload 5, 2) := by decide +kernel
theorem d_200_73 : decode (codeOf 200) 73 = .ok (.iconst 2, 1) := by decide +kernel
theorem d_200_74 : decode (codeOf 200) 74 = .ok (.iadd, 1) := by decide +kernel
theorem d_200_75 : decode (codeOf 200) 75 = .ok (.iaload, 1) := by decide +kernel
theorem d_200_76 : decode (codeOf 200) 76 = .ok (.invokestatic 151, 3) := by decide +kernel
theorem d_200_79 : decode (codeOf 200) 79 = .ok (.ior, 1) := by decide +kernel
theorem d_200_80 : decode (codeOf 200) 80 = .ok (.istore_n 1, 1) := by decide +kernel
theorem d_200_81 : decode (codeOf 200) 81 = .ok (.iinc 4 1, 3) := by decide +kernel
theorem d_200_84 : decode (codeOf 200) 84 = .ok (.goto (-62), 3) := by decide +kernel
theorem d_200_87 : decode (codeOf 200) 87 = .ok (.iinc 3 1, 3) := by decide +kernel
theorem d_200_90 : decode (codeOf 200) 90 = .ok (.goto (-79), 3) := by decide +kernel
theorem d_200_93 : decode (codeOf 200) 93 = .ok (.iinc 2 1, 3) := by decide +kernel
theorem d_200_96 : decode (codeOf 200) 96 = .ok (.goto (-92), 3) := by decide +kernel
theorem d_200_99 : decode (codeOf 200) 99 = .ok (.iload_n 1, 1) := by decide +kernel
theorem d_200_100 : decode (codeOf 200) 100 = .ok (.ireturn, 1) := by decide +kernel
theorem d_201_0 : decode (codeOf 201) 0 = .ok (.aload_n 0, 1) := by decide +kernel
theorem d_201_1 : decode (codeOf 201) 1 = .ok (.iload_n 1, 1) := by decide +kernel
theorem d_201_2 : decode (codeOf 201) 2 = .ok (.invokevirtual 172, 3) := by decide +kernel
theorem d_201_5 : decode (codeOf 201) 5 = .ok (.ifCond .eq 13, 3) := by decide +kernel
theorem d_201_8 : decode (codeOf 201) 8 = .ok (.iload_n 2, 1) := by decide +kernel
theorem d_201_9 : decode (codeOf 201) 9 = .ok (.i2l, 1) := by decide +kernel
theorem d_201_10 : decode (codeOf 201) 10 = .ok (.lconst 0, 1) := by decide +kernel
theorem d_201_11 : decode (codeOf 201) 11 = .ok (.lconst 1, 1) := by decide +kernel
theorem d_201_12 : decode (codeOf 201) 12 = .ok (.invokestatic 106, 3) := by decide +kernel
theorem d_201_15 : decode (codeOf 201) 15 = .ok (.ifCond .ne 5, 3) := by decide +kernel
theorem d_201_18 : decode (codeOf 201) 18 = .ok (.iconst (-1), 1) := by decide +kernel
theorem d_201_19 : decode (codeOf 201) 19 = .ok (.ireturn, 1) := by decide +kernel
theorem d_201_20 : decode (codeOf 201) 20 = .ok (.aload_n 0, 1) := by decide +kernel
theorem d_201_21 : decode (codeOf 201) 21 = .ok (.iconst 0, 1) := by decide +kernel
theorem d_201_22 : decode (codeOf 201) 22 = .ok (.iload_n 1, 1) := by decide +kernel
theorem d_201_23 : decode (codeOf 201) 23 = .ok (.bipush 9, 2) := by decide +kernel
theorem d_201_25 : decode (codeOf 201) 25 = .ok (.invokevirtual 274, 3) := by decide +kernel
theorem d_201_28 : decode (codeOf 201) 28 = .ok (.aload_n 0, 1) := by decide +kernel
theorem d_201_29 : decode (codeOf 201) 29 = .ok (.getfield 265, 3) := by decide +kernel
theorem d_201_32 : decode (codeOf 201) 32 = .ok (.istore_n 3, 1) := by decide +kernel
theorem d_201_33 : decode (codeOf 201) 33 = .ok (.aload_n 0, 1) := by decide +kernel
theorem d_201_34 : decode (codeOf 201) 34 = .ok (.getfield 262, 3) := by decide +kernel
theorem d_201_37 : decode (codeOf 201) 37 = .ok (.ifCond .eq 13, 3) := by decide +kernel
theorem d_201_40 : decode (codeOf 201) 40 = .ok (.iload_n 3, 1) := by decide +kernel
theorem d_201_41 : decode (codeOf 201) 41 = .ok (.aload_n 0, 1) := by decide +kernel
theorem d_201_42 : decode (codeOf 201) 42 = .ok (.iconst 0, 1) := by decide +kernel
theorem d_201_43 : decode (codeOf 201) 43 = .ok (.iload_n 1, 1) := by decide +kernel
theorem d_201_44 : decode (codeOf 201) 44 = .ok (.invokevirtual 176, 3) := by decide +kernel
theorem d_201_47 : decode (codeOf 201) 47 = .ok (.if_icmp .ne 6, 3) := by decide +kernel
theorem d_201_50 : decode (codeOf 201) 50 = .ok (.bipush (-2), 2) := by decide +kernel
theorem d_201_52 : decode (codeOf 201) 52 = .ok (.ireturn, 1) := by decide +kernel
theorem d_201_53 : decode (codeOf 201) 53 = .ok (.iconst 0, 1) := by decide +kernel
theorem d_201_54 : decode (codeOf 201) 54 = .ok (.istore 4, 2) := by decide +kernel
theorem d_201_56 : decode (codeOf 201) 56 = .ok (.bipush (-4), 2) := by decide +kernel
theorem d_201_58 : decode (codeOf 201) 58 = .ok (.istore 5, 2) := by decide +kernel
theorem d_201_60 : decode (codeOf 201) 60 = .ok (.iconst 0, 1) := by decide +kernel
theorem d_201_61 : decode (codeOf 201) 61 = .ok (.istore 6, 2) := by decide +kernel
theorem d_201_63 : decode (codeOf 201) 63 = .ok (.iload 6, 2) := by decide +kernel
theorem d_201_65 : decode (codeOf 201) 65 = .ok (.sipush 896, 3) := by decide +kernel
theorem d_201_68 : decode (codeOf 201) 68 = .ok (.if_icmp .ge 141, 3) := by decide +kernel
theorem d_201_71 : decode (codeOf 201) 71 = .ok (.iload 6, 2) := by decide +kernel
theorem d_201_73 : decode (codeOf 201) 73 = .ok (.bipush 64, 2) := by decide +kernel
theorem d_201_75 : decode (codeOf 201) 75 = .ok (.idiv, 1) := by decide +kernel
theorem d_201_76 : decode (codeOf 201) 76 = .ok (.istore 7, 2) := by decide +kernel
theorem d_201_78 : decode (codeOf 201) 78 = .ok (.iload 6, 2) := by decide +kernel
theorem d_201_80 : decode (codeOf 201) 80 = .ok (.bipush 16, 2) := by decide +kernel
theorem d_201_82 : decode (codeOf 201) 82 = .ok (.idiv, 1) := by decide +kernel
theorem d_201_83 : decode (codeOf 201) 83 = .ok (.iconst 4, 1) := by decide +kernel
theorem d_201_84 : decode (codeOf 201) 84 = .ok (.irem, 1) := by decide +kernel
theorem d_201_85 : decode (codeOf 201) 85 = .ok (.istore 8, 2) := by decide +kernel
theorem d_201_87 : decode (codeOf 201) 87 = .ok (.iload 6, 2) := by decide +kernel
theorem d_201_89 : decode (codeOf 201) 89 = .ok (.iconst 4, 1) := by decide +kernel
theorem d_201_90 : decode (codeOf 201) 90 = .ok (.idiv, 1) := by decide +kernel
theorem d_201_91 : decode (codeOf 201) 91 = .ok (.iconst 4, 1) := by decide +kernel
theorem d_201_92 : decode (codeOf 201) 92 = .ok (.irem, 1) := by decide +kernel
theorem d_201_93 : decode (codeOf 201) 93 = .ok (.istore 9, 2) := by decide +kernel
theorem d_201_95 : decode (codeOf 201) 95 = .ok (.iload 6, 2) := by decide +kernel
theorem d_201_97 : decode (codeOf 201) 97 = .ok (.iconst 4, 1) := by decide +kernel
theorem d_201_98 : decode (codeOf 201) 98 = .ok (.irem, 1) := by decide +kernel
theorem d_201_99 : decode (codeOf 201) 99 = .ok (.istore 10, 2) := by decide +kernel
theorem d_201_101 : decode (codeOf 201) 101 = .ok (.iload 7, 2) := by decide +kernel
theorem d_201_103 : decode (codeOf 201) 103 = .ok (.iload 8, 2) := by decide +kernel
theorem d_201_105 : decode (codeOf 201) 105 = .ok (.iload 9, 2) := by decide +kernel
theorem d_201_107 : decode (codeOf 201) 107 = .ok (.iload 10, 2) := by decide +kernel
theorem d_201_109 : decode (codeOf 201) 109 = .ok (.aload_n 0, 1) := by decide +kernel
theorem d_201_110 : decode (codeOf 201) 110 = .ok (.getfield 90, 3) := by decide +kernel
theorem d_201_113 : decode (codeOf 201) 113 = .ok (.aload_n 0, 1) := by decide +kernel
theorem d_201_114 : decode (codeOf 201) 114 = .ok (.getfield 93, 3) := by decide +kernel
theorem d_201_117 : decode (codeOf 201) 117 = .ok (.invokestatic 147, 3) := by decide +kernel
theorem d_201_120 : decode (codeOf 201) 120 = .ok (.ifCond .eq 83, 3) := by decide +kernel
theorem d_201_123 : decode (codeOf 201) 123 = .ok (.iload 7, 2) := by decide +kernel
theorem d_201_125 : decode (codeOf 201) 125 = .ok (.iconst 1, 1) := by decide +kernel
theorem d_201_126 : decode (codeOf 201) 126 = .ok (.if_icmp .ne 8, 3) := by decide +kernel
theorem d_201_129 : decode (codeOf 201) 129 = .ok (.iload 9, 2) := by decide +kernel
theorem d_201_131 : decode (codeOf 201) 131 = .ok (.ifCond .ne 72, 3) := by decide +kernel
theorem d_201_134 : decode (codeOf 201) 134 = .ok (.aload_n 0, 1) := by decide +kernel
theorem d_201_135 : decode (codeOf 201) 135 = .ok (.iconst 0, 1) := by decide +kernel
theorem d_201_136 : decode (codeOf 201) 136 = .ok (.sipush 1320, 3) := by decide +kernel
theorem d_201_139 : decode (codeOf 201) 139 = .ok (.invokevirtual 196, 3) := by decide +kernel
theorem d_201_142 : decode (codeOf 201) 142 = .ok (.aload_n 0, 1) := by decide +kernel
theorem d_201_143 : decode (codeOf 201) 143 = .ok (.sipush 1320, 3) := by decide +kernel
theorem d_201_146 : decode (codeOf 201) 146 = .ok (.iload_n 1, 1) := by decide +kernel
theorem d_201_147 : decode (codeOf 201) 147 = .ok (.iload_n 3, 1) := by decide +kernel
theorem d_201_148 : decode (codeOf 201) 148 = .ok (.iload 7, 2) := by decide +kernel
theorem d_201_150 : decode (codeOf 201) 150 = .ok (.iload 8, 2) := by decide +kernel
theorem d_201_152 : decode (codeOf 201) 152 = .ok (.iload 9, 2) := by decide +kernel
theorem d_201_154 : decode (codeOf 201) 154 = .ok (.iload 10, 2) := by decide +kernel
theorem d_201_156 : decode (codeOf 201) 156 = .ok (.invokevirtual 202, 3) := by decide +kernel
theorem d_201_159 : decode (codeOf 201) 159 = .ok (.aload_n 0, 1) := by decide +kernel
theorem d_201_160 : decode (codeOf 201) 160 = .ok (.sipush 1320, 3) := by decide +kernel
theorem d_201_163 : decode (codeOf 201) 163 = .ok (.iload_n 1, 1) := by decide +kernel
theorem d_201_164 : decode (codeOf 201) 164 = .ok (.invokevirtual 279, 3) := by decide +kernel
theorem d_201_167 : decode (codeOf 201) 167 = .ok (.istore 11, 2) := by decide +kernel
theorem d_201_169 : decode (codeOf 201) 169 = .ok (.iload 4, 2) := by decide +kernel
theorem d_201_171 : decode (codeOf 201) 171 = .ok (.iload 11, 2) := by decide +kernel
theorem d_201_173 : decode (codeOf 201) 173 = .ok (.ifCond .eq 7, 3) := by decide +kernel
theorem d_201_176 : decode (codeOf 201) 176 = .ok (.iconst 1, 1) := by decide +kernel
theorem d_201_177 : decode (codeOf 201) 177 = .ok (.goto 4, 3) := by decide +kernel
theorem d_201_180 : decode (codeOf 201) 180 = .ok (.iconst 0, 1) := by decide +kernel
theorem d_201_181 : decode (codeOf 201) 181 = .ok (.iadd, 1) := by decide +kernel
theorem d_201_182 : decode (codeOf 201) 182 = .ok (.istore 4, 2) := by decide +kernel
theorem d_201_184 : decode (codeOf 201) 184 = .ok (.iload 11, 2) := by decide +kernel
theorem d_201_186 : decode (codeOf 201) 186 = .ok (.ifCond .eq 13, 3) := by decide +kernel
theorem d_201_189 : decode (codeOf 201) 189 = .ok (.iload 5, 2) := by decide +kernel
theorem d_201_191 : decode (codeOf 201) 191 = .ok (.ifCond .ge 8, 3) := by decide +kernel
theorem d_201_194 : decode (codeOf 201) 194 = .ok (.iload 6, 2) := by decide +kernel
theorem d_201_196 : decode (codeOf 201) 196 = .ok (.goto 5, 3) := by decide +kernel
theorem d_201_199 : decode (codeOf 201) 199 = .ok (.iload 5, 2) := by decide +kernel
theorem d_201_201 : decode (codeOf 201) 201 = .ok (.istore 5, 2) := by decide +kernel
theorem d_201_203 : decode (codeOf 201) 203 = .ok (.iinc 6 1, 3) := by decide +kernel
theorem d_201_206 : decode (codeOf 201) 206 = .ok (.goto (-143), 3) := by decide +kernel
theorem d_201_209 : decode (codeOf 201) 209 = .ok (.iload_n 2, 1) := by decide +kernel
theorem d_201_210 : decode (codeOf 201) 210 = .ok (.ifCond .ne 8, 3) := by decide +kernel
theorem d_201_213 : decode (codeOf 201) 213 = .ok (.iload 4, 2) := by decide +kernel
theorem d_201_215 : decode (codeOf 201) 215 = .ok (.goto 5, 3) := by decide +kernel
theorem d_201_218 : decode (codeOf 201) 218 = .ok (.iload 5, 2) := by decide +kernel
theorem d_201_220 : decode (codeOf 201) 220 = .ok (.ireturn, 1) := by decide +kernel
theorem d_202_0 : decode (codeOf 202) 0 = .ok (.iload_n 0, 1) := by decide +kernel
theorem d_202_1 : decode (codeOf 202) 1 = .ok (.iconst 2, 1) := by decide +kernel
theorem d_202_2 : decode (codeOf 202) 2 = .ok (.if_icmp .ge 7, 3) := by decide +kernel
theorem d_202_5 : decode (codeOf 202) 5 = .ok (.iload_n 1, 1) := by decide +kernel
theorem d_202_6 : decode (codeOf 202) 6 = .ok (.goto 27, 3) := by decide +kernel
theorem d_202_9 : decode (codeOf 202) 9 = .ok (.iload_n 0, 1) := by decide +kernel
theorem d_202_10 : decode (codeOf 202) 10 = .ok (.bipush 6, 2) := by decide +kernel
theorem d_202_12 : decode (codeOf 202) 12 = .ok (.if_icmp .ge 13, 3) := by decide +kernel
theorem d_202_15 : decode (codeOf 202) 15 = .ok (.sipush 20000, 3) := by decide +kernel
theorem d_202_18 : decode (codeOf 202) 18 = .ok (.iload_n 0, 1) := by decide +kernel
theorem d_202_19 : decode (codeOf 202) 19 = .ok (.iadd, 1) := by decide +kernel
theorem d_202_20 : decode (codeOf 202) 20 = .ok (.iconst 2, 1) := by decide +kernel
theorem d_202_21 : decode (codeOf 202) 21 = .ok (.isub, 1) := by decide +kernel
theorem d_202_22 : decode (codeOf 202) 22 = .ok (.goto 11, 3) := by decide +kernel
theorem d_202_25 : decode (codeOf 202) 25 = .ok (.sipush 30000, 3) := by decide +kernel
theorem d_202_28 : decode (codeOf 202) 28 = .ok (.iload_n 0, 1) := by decide +kernel
theorem d_202_29 : decode (codeOf 202) 29 = .ok (.iadd, 1) := by decide +kernel
theorem d_202_30 : decode (codeOf 202) 30 = .ok (.bipush 6, 2) := by decide +kernel
theorem d_202_32 : decode (codeOf 202) 32 = .ok (.isub, 1) := by decide +kernel
theorem d_202_33 : decode (codeOf 202) 33 = .ok (.ireturn, 1) := by decide +kernel
theorem d_203_0 : decode (codeOf 203) 0 = .ok (.iconst 0, 1) := by decide +kernel
theorem d_203_1 : decode (codeOf 203) 1 = .ok (.istore_n 2, 1) := by decide +kernel
theorem d_203_2 : decode (codeOf 203) 2 = .ok (.iload_n 2, 1) := by decide +kernel
theorem d_203_3 : decode (codeOf 203) 3 = .ok (.aload_n 0, 1) := by decide +kernel
theorem d_203_4 : decode (codeOf 203) 4 = .ok (.getfield 90, 3) := by decide +kernel
theorem d_203_7 : decode (codeOf 203) 7 = .ok (.if_icmp .ge 67, 3) := by decide +kernel
theorem d_203_10 : decode (codeOf 203) 10 = .ok (.aload_n 0, 1) := by decide +kernel
theorem d_203_11 : decode (codeOf 203) 11 = .ok (.getfield 56, 3) := by decide +kernel
theorem d_203_14 : decode (codeOf 203) 14 = .ok (.iload_n 2, 1) := by decide +kernel
theorem d_203_15 : decode (codeOf 203) 15 = .ok (.iload_n 2, 1) := by decide +kernel
theorem d_203_16 : decode (codeOf 203) 16 = .ok (.iastore, 1) := by decide +kernel
theorem d_203_17 : decode (codeOf 203) 17 = .ok (.iconst 0, 1) := by decide +kernel
theorem d_203_18 : decode (codeOf 203) 18 = .ok (.istore_n 3, 1) := by decide +kernel
theorem d_203_19 : decode (codeOf 203) 19 = .ok (.iload_n 3, 1) := by decide +kernel
theorem d_203_20 : decode (codeOf 203) 20 = .ok (.iconst 3, 1) := by decide +kernel
theorem d_203_21 : decode (codeOf 203) 21 = .ok (.if_icmp .ge 47, 3) := by decide +kernel
theorem d_203_24 : decode (codeOf 203) 24 = .ok (.aload_n 0, 1) := by decide +kernel
theorem d_203_25 : decode (codeOf 203) 25 = .ok (.getfield 53, 3) := by decide +kernel
theorem d_203_28 : decode (codeOf 203) 28 = .ok (.iconst 4, 1) := by decide +kernel
theorem d_203_29 : decode (codeOf 203) 29 = .ok (.iload_n 2, 1) := by decide +kernel
theorem d_203_30 : decode (codeOf 203) 30 = .ok (.imul, 1) := by decide +kernel
theorem d_203_31 : decode (codeOf 203) 31 = .ok (.iload_n 3, 1) := by decide +kernel
theorem d_203_32 : decode (codeOf 203) 32 = .ok (.iadd, 1) := by decide +kernel
theorem d_203_33 : decode (codeOf 203) 33 = .ok (.iload_n 3, 1) := by decide +kernel
theorem d_203_34 : decode (codeOf 203) 34 = .ok (.aload_n 0, 1) := by decide +kernel
theorem d_203_35 : decode (codeOf 203) 35 = .ok (.getfield 7, 3) := by decide +kernel
theorem d_203_38 : decode (codeOf 203) 38 = .ok (.iload_n 2, 1) := by decide +kernel
theorem d_203_39 : decode (codeOf 203) 39 = .ok (.iaload, 1) := by decide +kernel
theorem d_203_40 : decode (codeOf 203) 40 = .ok (.if_icmp .ge 20, 3) := by decide +kernel
theorem d_203_43 : decode (codeOf 203) 43 = .ok (.aload_n 0, 1) := by decide +kernel
theorem d_203_44 : decode (codeOf 203) 44 = .ok (.getfield 13, 3) := by decide +kernel
theorem d_203_47 : decode (codeOf 203) 47 = .ok (.iconst 3, 1) := by decide +kernel
theorem d_203_48 : decode (codeOf 203) 48 = .ok (.iload_n 2, 1) := by decide +kernel
theorem d_203_49 : decode (codeOf 203) 49 = .ok (.imul, 1) := by decide +kernel
theorem d_203_50 : decode (codeOf 203) 50 = .ok (.iload_n 3, 1) := by decide +kernel
theorem d_203_51 : decode (codeOf 203) 51 = .ok (.iadd, 1) := by decide +kernel
theorem d_203_52 : decode (codeOf 203) 52 = .ok (.iaload, 1) := by decide +kernel
theorem d_203_53 : decode (codeOf 203) 53 = .ok (.iload_n 1, 1) := by decide +kernel
theorem d_203_54 : decode (codeOf 203) 54 = .ok (.invokestatic 285, 3) := by decide +kernel
theorem d_203_57 : decode (codeOf 203) 57 = .ok (.goto 4, 3) := by decide +kernel
theorem d_203_60 : decode (codeOf 203) 60 = .ok (.iconst (-1), 1) := by decide +kernel
theorem d_203_61 : decode (codeOf 203) 61 = .ok (.iastore, 1) := by decide +kernel
theorem d_203_62 : decode (codeOf 203) 62 = .ok (.iinc 3 1, 3) := by decide +kernel
theorem d_203_65 : decode (codeOf 203) 65 = .ok (.goto (-46), 3) := by decide +kernel
theorem d_203_68 : decode (codeOf 203) 68 = .ok (.iinc 2 1, 3) := by decide +kernel
theorem d_203_71 : decode (codeOf 203) 71 = .ok (.goto (-69), 3) := by decide +kernel
theorem d_203_74 : decode (codeOf 203) 74 = .ok (.aload_n 0, 1) := by decide +kernel
theorem d_203_75 : decode (codeOf 203) 75 = .ok (.iconst 0, 1) := by decide +kernel
theorem d_203_76 : decode (codeOf 203) 76 = .ok (.putfield 288, 3) := by decide +kernel
theorem d_203_79 : decode (codeOf 203) 79 = .ok (.iconst 0, 1) := by decide +kernel
theorem d_203_80 : decode (codeOf 203) 80 = .ok (.istore_n 2, 1) := by decide +kernel
theorem d_203_81 : decode (codeOf 203) 81 = .ok (.iload_n 2, 1) := by decide +kernel
theorem d_203_82 : decode (codeOf 203) 82 = .ok (.iconst 4, 1) := by decide +kernel
theorem d_203_83 : decode (codeOf 203) 83 = .ok (.if_icmp .ge 25, 3) := by decide +kernel
theorem d_203_86 : decode (codeOf 203) 86 = .ok (.aload_n 0, 1) := by decide +kernel
theorem d_203_87 : decode (codeOf 203) 87 = .ok (.getfield 50, 3) := by decide +kernel
theorem d_203_90 : decode (codeOf 203) 90 = .ok (.iload_n 2, 1) := by decide +kernel
theorem d_203_91 : decode (codeOf 203) 91 = .ok (.aload_n 0, 1) := by decide +kernel
theorem d_203_92 : decode (codeOf 203) 92 = .ok (.getfield 37, 3) := by decide +kernel
theorem d_203_95 : decode (codeOf 203) 95 = .ok (.iload_n 2, 1) := by decide +kernel
theorem d_203_96 : decode (codeOf 203) 96 = .ok (.iaload, 1) := by decide +kernel
theorem d_203_97 : decode (codeOf 203) 97 = .ok (.iload_n 1, 1) := by decide +kernel
theorem d_203_98 : decode (codeOf 203) 98 = .ok (.invokestatic 285, 3) := by decide +kernel
theorem d_203_101 : decode (codeOf 203) 101 = .ok (.iastore, 1) := by decide +kernel
theorem d_203_102 : decode (codeOf 203) 102 = .ok (.iinc 2 1, 3) := by decide +kernel
theorem d_203_105 : decode (codeOf 203) 105 = .ok (.goto (-24), 3) := by decide +kernel
theorem d_203_108 : decode (codeOf 203) 108 = .ok (.aload_n 0, 1) := by decide +kernel
theorem d_203_109 : decode (codeOf 203) 109 = .ok (.aload_n 0, 1) := by decide +kernel
theorem d_203_110 : decode (codeOf 203) 110 = .ok (.getfield 16, 3) := by decide +kernel
theorem d_203_113 : decode (codeOf 203) 113 = .ok (.iconst 0, 1) := by decide +kernel
theorem d_203_114 : decode (codeOf 203) 114 = .ok (.iaload, 1) := by decide +kernel
theorem d_203_115 : decode (codeOf 203) 115 = .ok (.putfield 291, 3) := by decide +kernel
theorem d_203_118 : decode (codeOf 203) 118 = .ok (.iconst 0, 1) := by decide +kernel
theorem d_203_119 : decode (codeOf 203) 119 = .ok (.istore_n 2, 1) := by decide +kernel
theorem d_203_120 : decode (codeOf 203) 120 = .ok (.iload_n 2, 1) := by decide +kernel
theorem d_203_121 : decode (codeOf 203) 121 = .ok (.aload_n 0, 1) := by decide +kernel
theorem d_203_122 : decode (codeOf 203) 122 = .ok (.getfield 291, 3) := by decide +kernel
theorem d_203_125 : decode (codeOf 203) 125 = .ok (.if_icmp .ge 32, 3) := by decide +kernel
theorem d_203_128 : decode (codeOf 203) 128 = .ok (.aload_n 0, 1) := by decide +kernel
theorem d_203_129 : decode (codeOf 203) 129 = .ok (.getfield 59, 3) := by decide +kernel
theorem d_203_132 : decode (codeOf 203) 132 = .ok (.aload_n 0, 1) := by decide +kernel
theorem d_203_133 : decode (codeOf 203) 133 = .ok (.getfield 291, 3) := by decide +kernel
theorem d_203_136 : decode (codeOf 203) 136 = .ok (.iconst 1, 1) := by decide +kernel
theorem d_203_137 : decode (codeOf 203) 137 = .ok (.isub, 1) := by decide +kernel
theorem d_203_138 : decode (codeOf 203) 138 = .ok (.iload_n 2, 1) := by decide +kernel
theorem d_203_139 : decode (codeOf 203) 139 = .ok (.isub, 1) := by decide +kernel
theorem d_203_140 : decode (codeOf 203) 140 = .ok (.aload_n 0, 1) := by decide +kernel
theorem d_203_141 : decode (codeOf 203) 141 = .ok (.getfield 19, 3) := by decide +kernel
theorem d_203_144 : decode (codeOf 203) 144 = .ok (.iload_n 2, 1) := by decide +kernel
theorem d_203_145 : decode (codeOf 203) 145 = .ok (.iaload, 1) := by decide +kernel
theorem d_203_146 : decode (codeOf 203) 146 = .ok (.iload_n 1, 1) := by decide +kernel
theorem d_203_147 : decode (codeOf 203) 147 = .ok (.invokestatic 285, 3) := by decide +kernel
theorem d_203_150 : decode (codeOf 203) 150 = .ok (.iastore, 1) := by decide +kernel
theorem d_203_151 : decode (codeOf 203) 151 = .ok (.iinc 2 1, 3) := by decide +kernel
theorem d_203_154 : decode (codeOf 203) 154 = .ok (.goto (-34), 3) := by decide +kernel
theorem d_203_157 : decode (codeOf 203) 157 = .ok (.aload_n 0, 1) := by decide +kernel
theorem d_203_158 : decode (codeOf 203) 158 = .ok (.iconst 0, 1) := by decide +kernel
theorem d_203_159 : decode (codeOf 203) 159 = .ok (.putfield 294, 3) := by decide +kernel
theorem d_203_162 : decode (codeOf 203) 162 = .ok (.aload_n 0, 1) := by decide +kernel
theorem d_203_163 : decode (codeOf 203) 163 = .ok (.iconst 0, 1) := by decide +kernel
theorem d_203_164 : decode (codeOf 203) 164 = .ok (.putfield 297, 3) := by decide +kernel
theorem d_203_167 : decode (codeOf 203) 167 = .ok (.aload_n 0, 1) := by decide +kernel
theorem d_203_168 : decode (codeOf 203) 168 = .ok (.iconst 0, 1) := by decide +kernel
theorem d_203_169 : decode (codeOf 203) 169 = .ok (.putfield 300, 3) := by decide +kernel
theorem d_203_172 : decode (codeOf 203) 172 = .ok (.return_, 1) := by decide +kernel
theorem d_204_0 : decode (codeOf 204) 0 = .ok (.iload_n 0, 1) := by decide +kernel
theorem d_204_1 : decode (codeOf 204) 1 = .ok (.sipush 20000, 3) := by decide +kernel
theorem d_204_4 : decode (codeOf 204) 4 = .ok (.if_icmp .ge 7, 3) := by decide +kernel
theorem d_204_7 : decode (codeOf 204) 7 = .ok (.iconst 1, 1) := by decide +kernel
theorem d_204_8 : decode (codeOf 204) 8 = .ok (.goto 4, 3) := by decide +kernel
theorem d_204_11 : decode (codeOf 204) 11 = .ok (.iconst 0, 1) := by decide +kernel
theorem d_204_12 : decode (codeOf 204) 12 = .ok (.ireturn, 1) := by decide +kernel
theorem d_205_0 : decode (codeOf 205) 0 = .ok (.iload_n 0, 1) := by decide +kernel
theorem d_205_1 : decode (codeOf 205) 1 = .ok (.i2l, 1) := by decide +kernel
theorem d_205_2 : decode (codeOf 205) 2 = .ok (.ldc2_w 303, 3) := by decide +kernel
theorem d_205_5 : decode (codeOf 205) 5 = .ok (.ldc2_w 305, 3) := by decide +kernel
theorem d_205_8 : decode (codeOf 205) 8 = .ok (.invokestatic 106, 3) := by decide +kernel
theorem d_205_11 : decode (codeOf 205) 11 = .ok (.ireturn, 1) := by decide +kernel
theorem d_206_0 : decode (codeOf 206) 0 = .ok (.aload_n 0, 1) := by decide +kernel
theorem d_206_1 : decode (codeOf 206) 1 = .ok (.iload_n 1, 1) := by decide +kernel
theorem d_206_2 : decode (codeOf 206) 2 = .ok (.putfield 294, 3) := by decide +kernel
theorem d_206_5 : decode (codeOf 206) 5 = .ok (.aload_n 0, 1) := by decide +kernel
theorem d_206_6 : decode (codeOf 206) 6 = .ok (.iconst 0, 1) := by decide +kernel
theorem d_206_7 : decode (codeOf 206) 7 = .ok (.putfield 297, 3) := by decide +kernel
theorem d_206_10 : decode (codeOf 206) 10 = .ok (.return_, 1) := by decide +kernel
theorem d_207_0 : decode (codeOf 207) 0 = .ok (.aload_n 0, 1) := by decide +kernel
theorem d_207_1 : decode (codeOf 207) 1 = .ok (.getfield 50, 3) := by decide +kernel
theorem d_207_4 : decode (codeOf 207) 4 = .ok (.iload_n 1, 1) := by decide +kernel
theorem d_207_5 : decode (codeOf 207) 5 = .ok (.iload_n 2, 1) := by decide +kernel
theorem d_207_6 : decode (codeOf 207) 6 = .ok (.iastore, 1) := by decide +kernel
theorem d_207_7 : decode (codeOf 207) 7 = .ok (.aload_n 0, 1) := by decide +kernel
theorem d_207_8 : decode (codeOf 207) 8 = .ok (.dup, 1) := by decide +kernel
theorem d_207_9 : decode (codeOf 207) 9 = .ok (.getfield 297, 3) := by decide +kernel
theorem d_207_12 : decode (codeOf 207) 12 = .ok (.iconst 1, 1) := by decide +kernel
theorem d_207_13 : decode (codeOf 207) 13 = .ok (.iadd, 1) := by decide +kernel
theorem d_207_14 : decode (codeOf 207) 14 = .ok (.putfield 297, 3) := by decide +kernel
theorem d_207_17 : decode (codeOf 207) 17 = .ok (.return_, 1) := by decide +kernel
theorem d_208_0 : decode (codeOf 208) 0 = .ok (.aload_n 0, 1) := by decide +kernel
theorem d_208_1 : decode (codeOf 208) 1 = .ok (.getfield 288, 3) := by decide +kernel
theorem d_208_4 : decode (codeOf 208) 4 = .ok (.bipush 8, 2) := by decide +kernel
theorem d_208_6 : decode (codeOf 208) 6 = .ok (.if_icmp .ne 9, 3) := by decide +kernel
theorem d_208_9 : decode (codeOf 208) 9 = .ok (.aload_n 0, 1) := by decide +kernel
theorem d_208_10 : decode (codeOf 208) 10 = .ok (.iconst 3, 1) := by decide +kernel
theorem d_208_11 : decode (codeOf 208) 11 = .ok (.putfield 300, 3) := by decide +kernel
theorem d_208_14 : decode (codeOf 208) 14 = .ok (.return_, 1) := by decide +kernel
theorem d_208_15 : decode (codeOf 208) 15 = .ok (.iconst 4, 1) := by decide +kernel
theorem d_208_16 : decode (codeOf 208) 16 = .ok (.aload_n 0, 1) := by decide +kernel
theorem d_208_17 : decode (codeOf 208) 17 = .ok (.getfield 288, 3) := by decide +kernel
theorem d_208_20 : decode (codeOf 208) 20 = .ok (.iadd, 1) := by decide +kernel
theorem d_208_21 : decode (codeOf 208) 21 = .ok (.istore_n 3, 1) := by decide +kernel
theorem d_208_22 : decode (codeOf 208) 22 = .ok (.aload_n 0, 1) := by decide +kernel
theorem d_208_23 : decode (codeOf 208) 23 = .ok (.getfield 56, 3) := by decide +kernel
theorem d_208_26 : decode (codeOf 208) 26 = .ok (.iload_n 3, 1) := by decide +kernel
theorem d_208_27 : decode (codeOf 208) 27 = .ok (.iload_n 2, 1) := by decide +kernel
theorem d_208_28 : decode (codeOf 208) 28 = .ok (.iastore, 1) := by decide +kernel
theorem d_208_29 : decode (codeOf 208) 29 = .ok (.iconst 0, 1) := by decide +kernel
theorem d_208_30 : decode (codeOf 208) 30 = .ok (.istore 4, 2) := by decide +kernel
theorem d_208_32 : decode (codeOf 208) 32 = .ok (.iload 4, 2) := by decide +kernel
theorem d_208_34 : decode (codeOf 208) 34 = .ok (.iconst 3, 1) := by decide +kernel
theorem d_208_35 : decode (codeOf 208) 35 = .ok (.if_icmp .ge 21, 3) := by decide +kernel
theorem d_208_38 : decode (codeOf 208) 38 = .ok (.aload_n 0, 1) := by decide +kernel
theorem d_208_39 : decode (codeOf 208) 39 = .ok (.getfield 53, 3) := by decide +kernel
theorem d_208_42 : decode (codeOf 208) 42 = .ok (.iconst 4, 1) := by decide +kernel
theorem d_208_43 : decode (codeOf 208) 43 = .ok (.iload_n 3, 1) := by decide +kernel
theorem d_208_44 : decode (codeOf 208) 44 = .ok (.imul, 1) := by decide +kernel
theorem d_208_45 : decode (codeOf 208) 45 = .ok (.iload 4, 2) := by decide +kernel
theorem d_208_47 : decode (codeOf 208) 47 = .ok (.iadd, 1) := by decide +kernel
theorem d_208_48 : decode (codeOf 208) 48 = .ok (.iconst (-1), 1) := by decide +kernel
theorem d_208_49 : decode (codeOf 208) 49 = .ok (.iastore, 1) := by decide +kernel
theorem d_208_50 : decode (codeOf 208) 50 = .ok (.iinc 4 1, 3) := by decide +kernel
theorem d_208_53 : decode (codeOf 208) 53 = .ok (.goto (-21), 3) := by decide +kernel
theorem d_208_56 : decode (codeOf 208) 56 = .ok (.aload_n 0, 1) := by decide +kernel
theorem d_208_57 : decode (codeOf 208) 57 = .ok (.dup, 1) := by decide +kernel
theorem d_208_58 : decode (codeOf 208) 58 = .ok (.getfield 288, 3) := by decide +kernel
theorem d_208_61 : decode (codeOf 208) 61 = .ok (.iconst 1, 1) := by decide +kernel
theorem d_208_62 : decode (codeOf 208) 62 = .ok (.iadd, 1) := by decide +kernel
theorem d_208_63 : decode (codeOf 208) 63 = .ok (.putfield 288, 3) := by decide +kernel
theorem d_208_66 : decode (codeOf 208) 66 = .ok (.aload_n 0, 1) := by decide +kernel
theorem d_208_67 : decode (codeOf 208) 67 = .ok (.iload_n 1, 1) := by decide +kernel
theorem d_208_68 : decode (codeOf 208) 68 = .ok (.sipush 20000, 3) := by decide +kernel
theorem d_208_71 : decode (codeOf 208) 71 = .ok (.iload_n 3, 1) := by decide +kernel
theorem d_208_72 : decode (codeOf 208) 72 = .ok (.iadd, 1) := by decide +kernel
theorem d_208_73 : decode (codeOf 208) 73 = .ok (.invokevirtual 307, 3) := by decide +kernel
theorem d_208_76 : decode (codeOf 208) 76 = .ok (.return_, 1) := by decide +kernel
theorem d_209_0 : decode (codeOf 209) 0 = .ok (.aload_n 0, 1) := by decide +kernel
theorem d_209_1 : decode (codeOf 209) 1 = .ok (.getfield 50, 3) := by decide +kernel
theorem d_209_4 : decode (codeOf 209) 4 = .ok (.iload_n 1, 1) := by decide +kernel
theorem d_209_5 : decode (codeOf 209) 5 = .ok (.iaload, 1) := by decide +kernel
theorem d_209_6 : decode (codeOf 209) 6 = .ok (.sipush 20000, 3) := by decide +kernel
theorem d_209_9 : decode (codeOf 209) 9 = .ok (.isub, 1) := by decide +kernel
theorem d_209_10 : decode (codeOf 209) 10 = .ok (.istore 4, 2) := by decide +kernel
theorem d_209_12 : decode (codeOf 209) 12 = .ok (.aload_n 0, 1) := by decide +kernel
theorem d_209_13 : decode (codeOf 209) 13 = .ok (.getfield 50, 3) := by decide +kernel
theorem d_209_16 : decode (codeOf 209) 16 = .ok (.iload_n 1, 1) := by decide +kernel
theorem d_209_17 : decode (codeOf 209) 17 = .ok (.iaload, 1) := by decide +kernel
theorem d_209_18 : decode (codeOf 209) 18 = .ok (.invokestatic 310, 3) := by decide +kernel
theorem d_209_21 : decode (codeOf 209) 21 = .ok (.ifCond .eq 19, 3) := by decide +kernel
theorem d_209_24 : decode (codeOf 209) 24 = .ok (.iload_n 2, 1) := by decide +kernel
theorem d_209_25 : decode (codeOf 209) 25 = .ok (.aload_n 0, 1) := by decide +kernel
theorem d_209_26 : decode (codeOf 209) 26 = .ok (.getfield 7, 3) := by decide +kernel
theorem d_209_29 : decode (codeOf 209) 29 = .ok (.aload_n 0, 1) := by decide +kernel
theorem d_209_30 : decode (codeOf 209) 30 = .ok (.getfield 56, 3) := by decide +kernel
theorem d_209_33 : decode (codeOf 209) 33 = .ok (.iload 4, 2) := by decide +kernel
theorem d_209_35 : decode (codeOf 209) 35 = .ok (.iaload, 1) := by decide +kernel
theorem d_209_36 : decode (codeOf 209) 36 = .ok (.iaload, 1) := by decide +kernel
theorem d_209_37 : decode (codeOf 209) 37 = .ok (.if_icmp .lt 9, 3) := by decide +kernel
theorem d_209_40 : decode (codeOf 209) 40 = .ok (.aload_n 0, 1) := by decide +kernel
theorem d_209_41 : decode (codeOf 209) 41 = .ok (.iconst 2, 1) := by decide +kernel
theorem d_209_42 : decode (codeOf 209) 42 = .ok (.putfield 300, 3) := by decide +kernel
theorem d_209_45 : decode (codeOf 209) 45 = .ok (.return_, 1) := by decide +kernel
theorem d_209_46 : decode (codeOf 209) 46 = .ok (.aload_n 0, 1) := by decide +kernel
theorem d_209_47 : decode (codeOf 209) 47 = .ok (.getfield 53, 3) := by decide +kernel
theorem d_209_50 : decode (codeOf 209) 50 = .ok (.iconst 4, 1) := by decide +kernel
theorem d_209_51 : decode (codeOf 209) 51 = .ok (.iload 4, 2) := by decide +kernel
theorem d_209_53 : decode (codeOf 209) 53 = .ok (.imul, 1) := by decide +kernel
theorem d_209_54 : decode (codeOf 209) 54 = .ok (.iload_n 2, 1) := by decide +kernel
theorem d_209_55 : decode (codeOf 209) 55 = .ok (.iadd, 1) := by decide +kernel
theorem d_209_56 : decode (codeOf 209) 56 = .ok (.aload_n 0, 1) := by decide +kernel
theorem d_209_57 : decode (codeOf 209) 57 = .ok (.getfield 50, 3) := by decide +kernel
theorem d_209_60 : decode (codeOf 209) 60 = .ok (.iload_n 3, 1) := by decide +kernel
theorem d_209_61 : decode (codeOf 209) 61 = .ok (.iaload, 1) := by decide +kernel
theorem d_209_62 : decode (codeOf 209) 62 = .ok (.iastore, 1) := by decide +kernel
theorem d_209_63 : decode (codeOf 209) 63 = .ok (.aload_n 0, 1) := by decide +kernel
theorem d_209_64 : decode (codeOf 209) 64 = .ok (.dup, 1) := by decide +kernel
theorem d_209_65 : decode (codeOf 209) 65 = .ok (.getfield 297, 3) := by decide +kernel
theorem d_209_68 : decode (codeOf 209) 68 = .ok (.iconst 1, 1) := by decide +kernel
theorem d_209_69 : decode (codeOf 209) 69 = .ok (.iadd, 1) := by decide +kernel
theorem d_209_70 : decode (codeOf 209) 70 = .ok (.putfield 297, 3) := by decide +kernel
theorem d_209_73 : decode (codeOf 209) 73 = .ok (.return_, 1) := by decide +kernel
theorem d_210_0 : decode (codeOf 210) 0 = .ok (.aload_n 0, 1) := by decide +kernel
theorem d_210_1 : decode (codeOf 210) 1 = .ok (.getfield 50, 3) := by decide +kernel
theorem d_210_4 : decode (codeOf 210) 4 = .ok (.iload_n 2, 1) := by decide +kernel
theorem d_210_5 : decode (codeOf 210) 5 = .ok (.iaload, 1) := by decide +kernel
theorem d_210_6 : decode (codeOf 210) 6 = .ok (.sipush 20000, 3) := by decide +kernel
theorem d_210_9 : decode (codeOf 210) 9 = .ok (.isub, 1) := by decide +kernel
theorem d_210_10 : decode (codeOf 210) 10 = .ok (.istore 4, 2) := by decide +kernel
theorem d_210_12 : decode (codeOf 210) 12 = .ok (.aload_n 0, 1) := by decide +kernel
theorem d_210_13 : decode (codeOf 210) 13 = .ok (.getfield 50, 3) := by decide +kernel
theorem d_210_16 : decode (codeOf 210) 16 = .ok (.iload_n 2, 1) := by decide +kernel
theorem d_210_17 : decode (codeOf 210) 17 = .ok (.iaload, 1) := by decide +kernel
theorem d_210_18 : decode (codeOf 210) 18 = .ok (.invokestatic 310, 3) := by decide +kernel
theorem d_210_21 : decode (codeOf 210) 21 = .ok (.ifCond .eq 33, 3) := by decide +kernel
theorem d_210_24 : decode (codeOf 210) 24 = .ok (.iload_n 3, 1) := by decide +kernel
theorem d_210_25 : decode (codeOf 210) 25 = .ok (.aload_n 0, 1) := by decide +kernel
theorem d_210_26 : decode (codeOf 210) 26 = .ok (.getfield 7, 3) := by decide +kernel
theorem d_210_29 : decode (codeOf 210) 29 = .ok (.aload_n 0, 1) := by decide +kernel
theorem d_210_30 : decode (codeOf 210) 30 = .ok (.getfield 56, 3) := by decide +kernel
theorem d_210_33 : decode (codeOf 210) 33 = .ok (.iload 4, 2) := by decide +kernel
theorem d_210_35 : decode (codeOf 210) 35 = .ok (.iaload, 1) := by decide +kernel
theorem d_210_36 : decode (codeOf 210) 36 = .ok (.iaload, 1) := by decide +kernel
theorem d_210_37 : decode (codeOf 210) 37 = .ok (.if_icmp .ge 17, 3) := by decide +kernel
theorem d_210_40 : decode (codeOf 210) 40 = .ok (.aload_n 0, 1) := by decide +kernel
theorem d_210_41 : decode (codeOf 210) 41 = .ok (.getfield 53, 3) := by decide +kernel
theorem d_210_44 : decode (codeOf 210) 44 = .ok (.iconst 4, 1) := by decide +kernel
theorem d_210_45 : decode (codeOf 210) 45 = .ok (.iload 4, 2) := by decide +kernel
theorem d_210_47 : decode (codeOf 210) 47 = .ok (.imul, 1) := by decide +kernel
theorem d_210_48 : decode (codeOf 210) 48 = .ok (.iload_n 3, 1) := by decide +kernel
theorem d_210_49 : decode (codeOf 210) 49 = .ok (.iadd, 1) := by decide +kernel
theorem d_210_50 : decode (codeOf 210) 50 = .ok (.iaload, 1) := by decide +kernel
theorem d_210_51 : decode (codeOf 210) 51 = .ok (.ifCond .ge 9, 3) := by decide +kernel
theorem d_210_54 : decode (codeOf 210) 54 = .ok (.aload_n 0, 1) := by decide +kernel
theorem d_210_55 : decode (codeOf 210) 55 = .ok (.iconst 2, 1) := by decide +kernel
theorem d_210_56 : decode (codeOf 210) 56 = .ok (.putfield 300, 3) := by decide +kernel
theorem d_210_59 : decode (codeOf 210) 59 = .ok (.return_, 1) := by decide +kernel
theorem d_210_60 : decode (codeOf 210) 60 = .ok (.aload_n 0, 1) := by decide +kernel
theorem d_210_61 : decode (codeOf 210) 61 = .ok (.iload_n 1, 1) := by decide +kernel
theorem d_210_62 : decode (codeOf 210) 62 = .ok (.aload_n 0, 1) := by decide +kernel
theorem d_210_63 : decode (codeOf 210) 63 = .ok (.getfield 53, 3) := by decide +kernel
theorem d_210_66 : decode (codeOf 210) 66 = .ok (.iconst 4, 1) := by decide +kernel
theorem d_210_67 : decode (codeOf 210) 67 = .ok (.iload 4, 2) := by decide +kernel
theorem d_210_69 : decode (codeOf 210) 69 = .ok (.imul, 1) := by decide +kernel
theorem d_210_70 : decode (codeOf 210) 70 = .ok (.iload_n 3, 1) := by decide +kernel
theorem d_210_71 : decode (codeOf 210) 71 = .ok (.iadd, 1) := by decide +kernel
theorem d_210_72 : decode (codeOf 210) 72 = .ok (.iaload, 1) := by decide +kernel
theorem d_210_73 : decode (codeOf 210) 73 = .ok (.invokevirtual 307, 3) := by decide +kernel
theorem d_210_76 : decode (codeOf 210) 76 = .ok (.return_, 1) := by decide +kernel
theorem d_211_0 : decode (codeOf 211) 0 = .ok (.aload_n 0, 1) := by decide +kernel
theorem d_211_1 : decode (codeOf 211) 1 = .ok (.getfield 291, 3) := by decide +kernel
theorem d_211_4 : decode (codeOf 211) 4 = .ok (.bipush 16, 2) := by decide +kernel
theorem d_211_6 : decode (codeOf 211) 6 = .ok (.if_icmp .ne 9, 3) := by decide +kernel
theorem d_211_9 : decode (codeOf 211) 9 = .ok (.aload_n 0, 1) := by decide +kernel
theorem d_211_10 : decode (codeOf 211) 10 = .ok (.iconst 3, 1) := by decide +kernel
theorem d_211_11 : decode (codeOf 211) 11 = .ok (.putfield 300, 3) := by decide +kernel
theorem d_211_14 : decode (codeOf 211) 14 = .ok (.return_, 1) := by decide +kernel
theorem d_211_15 : decode (codeOf 211) 15 = .ok (.aload_n 0, 1) := by decide +kernel
theorem d_211_16 : decode (codeOf 211) 16 = .ok (.getfield 59, 3) := by decide +kernel
theorem d_211_19 : decode (codeOf 211) 19 = .ok (.aload_n 0, 1) := by decide +kernel
theorem d_211_20 : decode (codeOf 211) 20 = .ok (.getfield 291, 3) := by decide +kernel
theorem d_211_23 : decode (codeOf 211) 23 = .ok (.aload_n 0, 1) := by decide +kernel
theorem d_211_24 : decode (codeOf 211) 24 = .ok (.getfield 50, 3) := by decide +kernel
theorem d_211_27 : decode (codeOf 211) 27 = .ok (.iload_n 1, 1) := by decide +kernel
theorem d_211_28 : decode (codeOf 211) 28 = .ok (.iaload, 1) := by decide +kernel
theorem d_211_29 : decode (codeOf 211) 29 = .ok (.iastore, 1) := by decide +kernel
theorem d_211_30 : decode (codeOf 211) 30 = .ok (.aload_n 0, 1) := by decide +kernel
theorem d_211_31 : decode (codeOf 211) 31 = .ok (.dup, 1) := by decide +kernel
theorem d_211_32 : decode (codeOf 211) 32 = .ok (.getfield 291, 3) := by decide +kernel
theorem d_211_35 : decode (codeOf 211) 35 = .ok (.iconst 1, 1) := by decide +kernel
theorem d_211_36 : decode (codeOf 211) 36 = .ok (.iadd, 1) := by decide +kernel
theorem d_211_37 : decode (codeOf 211) 37 = .ok (.putfield 291, 3) := by decide +kernel
theorem d_211_40 : decode (codeOf 211) 40 = .ok (.aload_n 0, 1) := by decide +kernel
theorem d_211_41 : decode (codeOf 211) 41 = .ok (.dup, 1) := by decide +kernel
theorem d_211_42 : decode (codeOf 211) 42 = .ok (.getfield 297, 3) := by decide +kernel
theorem d_211_45 : decode (codeOf 211) 45 = .ok (.iconst 1, 1) := by decide +kernel
theorem d_211_46 : decode (codeOf 211) 46 = .ok (.iadd, 1) := by decide +kernel
theorem d_211_47 : decode (codeOf 211) 47 = .ok (.putfield 297, 3) := by decide +kernel
theorem d_211_50 : decode (codeOf 211) 50 = .ok (.return_, 1) := by decide +kernel
theorem d_212_0 : decode (codeOf 212) 0 = .ok (.aload_n 0, 1) := by decide +kernel
theorem d_212_1 : decode (codeOf 212) 1 = .ok (.getfield 291, 3) := by decide +kernel
theorem d_212_4 : decode (codeOf 212) 4 = .ok (.ifCond .ne 9, 3) := by decide +kernel
theorem d_212_7 : decode (codeOf 212) 7 = .ok (.aload_n 0, 1) := by decide +kernel
theorem d_212_8 : decode (codeOf 212) 8 = .ok (.iconst 2, 1) := by decide +kernel
theorem d_212_9 : decode (codeOf 212) 9 = .ok (.putfield 300, 3) := by decide +kernel
theorem d_212_12 : decode (codeOf 212) 12 = .ok (.return_, 1) := by decide +kernel
theorem d_212_13 : decode (codeOf 212) 13 = .ok (.aload_n 0, 1) := by decide +kernel
theorem d_212_14 : decode (codeOf 212) 14 = .ok (.dup, 1) := by decide +kernel
theorem d_212_15 : decode (codeOf 212) 15 = .ok (.getfield 291, 3) := by decide +kernel
theorem d_212_18 : decode (codeOf 212) 18 = .ok (.iconst 1, 1) := by decide +kernel
theorem d_212_19 : decode (codeOf 212) 19 = .ok (.isub, 1) := by decide +kernel
theorem d_212_20 : decode (codeOf 212) 20 = .ok (.putfield 291, 3) := by decide +kernel
theorem d_212_23 : decode (codeOf 212) 23 = .ok (.aload_n 0, 1) := by decide +kernel
theorem d_212_24 : decode (codeOf 212) 24 = .ok (.iload_n 1, 1) := by decide +kernel
theorem d_212_25 : decode (codeOf 212) 25 = .ok (.aload_n 0, 1) := by decide +kernel
theorem d_212_26 : decode (codeOf 212) 26 = .ok (.getfield 59, 3) := by decide +kernel
theorem d_212_29 : decode (codeOf 212) 29 = .ok (.aload_n 0, 1) := by decide +kernel
theorem d_212_30 : decode (codeOf 212) 30 = .ok (.getfield 291, 3) := by decide +kernel
theorem d_212_33 : decode (codeOf 212) 33 = .ok (.iaload, 1) := by decide +kernel
theorem d_212_34 : decode (codeOf 212) 34 = .ok (.invokevirtual 307, 3) := by decide +kernel
theorem d_212_37 : decode (codeOf 212) 37 = .ok (.return_, 1) := by decide +kernel
theorem d_213_0 : decode (codeOf 213) 0 = .ok (.aload_n 0, 1) := by decide +kernel
theorem d_213_1 : decode (codeOf 213) 1 = .ok (.getfield 50, 3) := by decide +kernel
theorem d_213_4 : decode (codeOf 213) 4 = .ok (.iload_n 1, 1) := by decide +kernel
theorem d_213_5 : decode (codeOf 213) 5 = .ok (.iaload, 1) := by decide +kernel
theorem d_213_6 : decode (codeOf 213) 6 = .ok (.invokestatic 313, 3) := by decide +kernel
theorem d_213_9 : decode (codeOf 213) 9 = .ok (.ifCond .eq 15, 3) := by decide +kernel
theorem d_213_12 : decode (codeOf 213) 12 = .ok (.aload_n 0, 1) := by decide +kernel
theorem d_213_13 : decode (codeOf 213) 13 = .ok (.getfield 50, 3) := by decide +kernel
theorem d_213_16 : decode (codeOf 213) 16 = .ok (.iload_n 2, 1) := by decide +kernel
theorem d_213_17 : decode (codeOf 213) 17 = .ok (.iaload, 1) := by decide +kernel
theorem d_213_18 : decode (codeOf 213) 18 = .ok (.invokestatic 313, 3) := by decide +kernel
theorem d_213_21 : decode (codeOf 213) 21 = .ok (.ifCond .ne 9, 3) := by decide +kernel
theorem d_213_24 : decode (codeOf 213) 24 = .ok (.aload_n 0, 1) := by decide +kernel
theorem d_213_25 : decode (codeOf 213) 25 = .ok (.iconst 2, 1) := by decide +kernel
theorem d_213_26 : decode (codeOf 213) 26 = .ok (.putfield 300, 3) := by decide +kernel
theorem d_213_29 : decode (codeOf 213) 29 = .ok (.return_, 1) := by decide +kernel
theorem d_213_30 : decode (codeOf 213) 30 = .ok (.aload_n 0, 1) := by decide +kernel
theorem d_213_31 : decode (codeOf 213) 31 = .ok (.iload_n 1, 1) := by decide +kernel
theorem d_213_32 : decode (codeOf 213) 32 = .ok (.aload_n 0, 1) := by decide +kernel
theorem d_213_33 : decode (codeOf 213) 33 = .ok (.getfield 50, 3) := by decide +kernel
theorem d_213_36 : decode (codeOf 213) 36 = .ok (.iload_n 1, 1) := by decide +kernel
theorem d_213_37 : decode (codeOf 213) 37 = .ok (.iaload, 1) := by decide +kernel
theorem d_213_38 : decode (codeOf 213) 38 = .ok (.aload_n 0, 1) := by decide +kernel
theorem d_213_39 : decode (codeOf 213) 39 = .ok (.getfield 50, 3) := by decide +kernel
theorem d_213_42 : decode (codeOf 213) 42 = .ok (.iload_n 2, 1) := by decide +kernel
theorem d_213_43 : decode (codeOf 213) 43 = .ok (.iaload, 1) := by decide +kernel
theorem d_213_44 : decode (codeOf 213) 44 = .ok (.iadd, 1) := by decide +kernel
theorem d_213_45 : decode (codeOf 213) 45 = .ok (.sipush 10000, 3) := by decide +kernel
theorem d_213_48 : decode (codeOf 213) 48 = .ok (.irem, 1) := by decide +kernel
theorem d_213_49 : decode (codeOf 213) 49 = .ok (.invokevirtual 307, 3) := by decide +kernel
theorem d_213_52 : decode (codeOf 213) 52 = .ok (.return_, 1) := by decide +kernel
theorem d_214_0 : decode (codeOf 214) 0 = .ok (.aload_n 0, 1) := by decide +kernel
theorem d_214_1 : decode (codeOf 214) 1 = .ok (.getfield 50, 3) := by decide +kernel
theorem d_214_4 : decode (codeOf 214) 4 = .ok (.iload_n 1, 1) := by decide +kernel
theorem d_214_5 : decode (codeOf 214) 5 = .ok (.iaload, 1) := by decide +kernel
theorem d_214_6 : decode (codeOf 214) 6 = .ok (.invokestatic 313, 3) := by decide +kernel
theorem d_214_9 : decode (codeOf 214) 9 = .ok (.ifCond .ne 11, 3) := by decide +kernel
theorem d_214_12 : decode (codeOf 214) 12 = .ok (.aload_n 0, 1) := by decide +kernel
theorem d_214_13 : decode (codeOf 214) 13 = .ok (.iconst 2, 1) := by decide +kernel
theorem d_214_14 : decode (codeOf 214) 14 = .ok (.putfield 300, 3) := by decide +kernel
theorem d_214_17 : decode (codeOf 214) 17 = .ok (.goto 30, 3) := by decide +kernel
theorem d_214_20 : decode (codeOf 214) 20 = .ok (.aload_n 0, 1) := by decide +kernel
theorem d_214_21 : decode (codeOf 214) 21 = .ok (.getfield 50, 3) := by decide +kernel
theorem d_214_24 : decode (codeOf 214) 24 = .ok (.iload_n 1, 1) := by decide +kernel
theorem d_214_25 : decode (codeOf 214) 25 = .ok (.iaload, 1) := by decide +kernel
theorem d_214_26 : decode (codeOf 214) 26 = .ok (.ifCond .eq 11, 3) := by decide +kernel
theorem d_214_29 : decode (codeOf 214) 29 = .ok (.aload_n 0, 1) := by decide +kernel
theorem d_214_30 : decode (codeOf 214) 30 = .ok (.iload_n 2, 1) := by decide +kernel
theorem d_214_31 : decode (codeOf 214) 31 = .ok (.invokevirtual 316, 3) := by decide +kernel
theorem d_214_34 : decode (codeOf 214) 34 = .ok (.goto 13, 3) := by decide +kernel
theorem d_214_37 : decode (codeOf 214) 37 = .ok (.aload_n 0, 1) := by decide +kernel
theorem d_214_38 : decode (codeOf 214) 38 = .ok (.dup, 1) := by decide +kernel
theorem d_214_39 : decode (codeOf 214) 39 = .ok (.getfield 297, 3) := by decide +kernel
theorem d_214_42 : decode (codeOf 214) 42 = .ok (.iconst 1, 1) := by decide +kernel
theorem d_214_43 : decode (codeOf 214) 43 = .ok (.iadd, 1) := by decide +kernel
theorem d_214_44 : decode (codeOf 214) 44 = .ok (.putfield 297, 3) := by decide +kernel
theorem d_214_47 : decode (codeOf 214) 47 = .ok (.return_, 1) := by decide +kernel
theorem d_215_0 : decode (codeOf 215) 0 = .ok (.aload_n 0, 1) := by decide +kernel
theorem d_215_1 : decode (codeOf 215) 1 = .ok (.getfield 50, 3) := by decide +kernel
theorem d_215_4 : decode (codeOf 215) 4 = .ok (.iload_n 1, 1) := by decide +kernel
theorem d_215_5 : decode (codeOf 215) 5 = .ok (.iaload, 1) := by decide +kernel
theorem d_215_6 : decode (codeOf 215) 6 = .ok (.sipush 30000, 3) := by decide +kernel
theorem d_215_9 : decode (codeOf 215) 9 = .ok (.if_icmp .ge 11, 3) := by decide +kernel
theorem d_215_12 : decode (codeOf 215) 12 = .ok (.aload_n 0, 1) := by decide +kernel
theorem d_215_13 : decode (codeOf 215) 13 = .ok (.iconst 2, 1) := by decide +kernel
theorem d_215_14 : decode (codeOf 215) 14 = .ok (.putfield 300, 3) := by decide +kernel
theorem d_215_17 : decode (codeOf 215) 17 = .ok (.goto 17, 3) := by decide +kernel
theorem d_215_20 : decode (codeOf 215) 20 = .ok (.aload_n 0, 1) := by decide +kernel
theorem d_215_21 : decode (codeOf 215) 21 = .ok (.aload_n 0, 1) := by decide +kernel
theorem d_215_22 : decode (codeOf 215) 22 = .ok (.getfield 50, 3) := by decide +kernel
theorem d_215_25 : decode (codeOf 215) 25 = .ok (.iload_n 1, 1) := by decide +kernel
theorem d_215_26 : decode (codeOf 215) 26 = .ok (.iaload, 1) := by decide +kernel
theorem d_215_27 : decode (codeOf 215) 27 = .ok (.sipush 30000, 3) := by decide +kernel
theorem d_215_30 : decode (codeOf 215) 30 = .ok (.isub, 1) := by decide +kernel
theorem d_215_31 : decode (codeOf 215) 31 = .ok (.invokevirtual 316, 3) := by decide +kernel
theorem d_215_34 : decode (codeOf 215) 34 = .ok (.return_, 1) := by decide +kernel
theorem d_216_0 : decode (codeOf 216) 0 = .ok (.aload_n 0, 1) := by decide +kernel
theorem d_216_1 : decode (codeOf 216) 1 = .ok (.getfield 297, 3) := by decide +kernel
theorem d_216_4 : decode (codeOf 216) 4 = .ok (.aload_n 0, 1) := by decide +kernel
theorem d_216_5 : decode (codeOf 216) 5 = .ok (.iconst 0, 1) := by decide +kernel
theorem d_216_6 : decode (codeOf 216) 6 = .ok (.aload_n 0, 1) := by decide +kernel
theorem d_216_7 : decode (codeOf 216) 7 = .ok (.getfield 294, 3) := by decide +kernel
theorem d_216_10 : decode (codeOf 216) 10 = .ok (.invokevirtual 176, 3) := by decide +kernel
theorem d_216_13 : decode (codeOf 216) 13 = .ok (.if_icmp .ne 9, 3) := by decide +kernel
theorem d_216_16 : decode (codeOf 216) 16 = .ok (.aload_n 0, 1) := by decide +kernel
theorem d_216_17 : decode (codeOf 216) 17 = .ok (.iconst 2, 1) := by decide +kernel
theorem d_216_18 : decode (codeOf 216) 18 = .ok (.putfield 300, 3) := by decide +kernel
theorem d_216_21 : decode (codeOf 216) 21 = .ok (.return_, 1) := by decide +kernel
theorem d_216_22 : decode (codeOf 216) 22 = .ok (.iconst 0, 1) := by decide +kernel
theorem d_216_23 : decode (codeOf 216) 23 = .ok (.aload_n 0, 1) := by decide +kernel
theorem d_216_24 : decode (codeOf 216) 24 = .ok (.getfield 294, 3) := by decide +kernel
theorem d_216_27 : decode (codeOf 216) 27 = .ok (.aload_n 0, 1) := by decide +kernel
theorem d_216_28 : decode (codeOf 216) 28 = .ok (.getfield 297, 3) := by decide +kernel
theorem d_216_31 : decode (codeOf 216) 31 = .ok (.invokestatic 193, 3) := by decide +kernel
theorem d_216_34 : decode (codeOf 216) 34 = .ok (.istore_n 1, 1) := by decide +kernel
theorem d_216_35 : decode (codeOf 216) 35 = .ok (.aload_n 0, 1) := by decide +kernel
theorem d_216_36 : decode (codeOf 216) 36 = .ok (.getfield 37, 3) := by decide +kernel
theorem d_216_39 : decode (codeOf 216) 39 = .ok (.iload_n 1, 1) := by decide +kernel
theorem d_216_40 : decode (codeOf 216) 40 = .ok (.iconst 1, 1) := by decide +kernel
theorem d_216_41 : decode (codeOf 216) 41 = .ok (.iadd, 1) := by decide +kernel
theorem d_216_42 : decode (codeOf 216) 42 = .ok (.iaload, 1) := by decide +kernel
theorem d_216_43 : decode (codeOf 216) 43 = .ok (.istore_n 2, 1) := by decide +kernel
theorem d_216_44 : decode (codeOf 216) 44 = .ok (.aload_n 0, 1) := by decide +kernel
theorem d_216_45 : decode (codeOf 216) 45 = .ok (.getfield 37, 3) := by decide +kernel
theorem d_216_48 : decode (codeOf 216) 48 = .ok (.iload_n 1, 1) := by decide +kernel
theorem d_216_49 : decode (codeOf 216) 49 = .ok (.iconst 2, 1) := by decide +kernel
theorem d_216_50 : decode (codeOf 216) 50 = .ok (.iadd, 1) := by decide +kernel
theorem d_216_51 : decode (codeOf 216) 51 = .ok (.iaload, 1) := by decide +kernel
theorem d_216_52 : decode (codeOf 216) 52 = .ok (.istore_n 3, 1) := by decide +kernel
theorem d_216_53 : decode (codeOf 216) 53 = .ok (.aload_n 0, 1) := by decide +kernel
theorem d_216_54 : decode (codeOf 216) 54 = .ok (.getfield 37, 3) := by decide +kernel
theorem d_216_57 : decode (codeOf 216) 57 = .ok (.iload_n 1, 1) := by decide +kernel
theorem d_216_58 : decode (codeOf 216) 58 = .ok (.iconst 3, 1) := by decide +kernel
theorem d_216_59 : decode (codeOf 216) 59 = .ok (.iadd, 1) := by decide +kernel
theorem d_216_60 : decode (codeOf 216) 60 = .ok (.iaload, 1) := by decide +kernel
theorem d_216_61 : decode (codeOf 216) 61 = .ok (.istore 4, 2) := by decide +kernel
theorem d_216_63 : decode (codeOf 216) 63 = .ok (.aload_n 0, 1) := by decide +kernel
theorem d_216_64 : decode (codeOf 216) 64 = .ok (.getfield 37, 3) := by decide +kernel
theorem d_216_67 : decode (codeOf 216) 67 = .ok (.iload_n 1, 1) := by decide +kernel
theorem d_216_68 : decode (codeOf 216) 68 = .ok (.iaload, 1) := by decide +kernel
theorem d_216_69 : decode (codeOf 216) 69 = .ok (.tableswitch 203 0 12 #[67, 81, 90, 99, 108, 119, 130, 138, 146, 159, 167, 176, 195], 67) := by decide +kernel
theorem d_216_136 : decode (codeOf 216) 136 = .ok (.aload_n 0, 1) := by decide +kernel
theorem d_216_137 : decode (codeOf 216) 137 = .ok (.iload_n 2, 1) := by decide +kernel
theorem d_216_138 : decode (codeOf 216) 138 = .ok (.aload_n 0, 1) := by decide +kernel
theorem d_216_139 : decode (codeOf 216) 139 = .ok (.getfield 50, 3) := by decide +kernel
theorem d_216_142 : decode (codeOf 216) 142 = .ok (.iload_n 3, 1) := by decide +kernel
theorem d_216_143 : decode (codeOf 216) 143 = .ok (.iaload, 1) := by decide +kernel
theorem d_216_144 : decode (codeOf 216) 144 = .ok (.invokevirtual 307, 3) := by decide +kernel
theorem d_216_147 : decode (codeOf 216) 147 = .ok (.goto 146, 3) := by decide +kernel
theorem d_216_150 : decode (codeOf 216) 150 = .ok (.aload_n 0, 1) := by decide +kernel
theorem d_216_151 : decode (codeOf 216) 151 = .ok (.iload_n 2, 1) := by decide +kernel
theorem d_216_152 : decode (codeOf 216) 152 = .ok (.iload_n 3, 1) := by decide +kernel
theorem d_216_153 : decode (codeOf 216) 153 = .ok (.invokevirtual 307, 3) := by decide +kernel
theorem d_216_156 : decode (codeOf 216) 156 = .ok (.goto 137, 3) := by decide +kernel
theorem d_216_159 : decode (codeOf 216) 159 = .ok (.aload_n 0, 1) := by decide +kernel
theorem d_216_160 : decode (codeOf 216) 160 = .ok (.iload_n 2, 1) := by decide +kernel
theorem d_216_161 : decode (codeOf 216) 161 = .ok (.iload_n 3, 1) := by decide +kernel
theorem d_216_162 : decode (codeOf 216) 162 = .ok (.invokevirtual 320, 3) := by decide +kernel
theorem d_216_165 : decode (codeOf 216) 165 = .ok (.goto 128, 3) := by decide +kernel
theorem d_216_168 : decode (codeOf 216) 168 = .ok (.aload_n 0, 1) := by decide +kernel
theorem d_216_169 : decode (codeOf 216) 169 = .ok (.iload_n 2, 1) := by decide +kernel
theorem d_216_170 : decode (codeOf 216) 170 = .ok (.iload_n 3, 1) := by decide +kernel
theorem d_216_171 : decode (codeOf 216) 171 = .ok (.invokevirtual 323, 3) := by decide +kernel
theorem d_216_174 : decode (codeOf 216) 174 = .ok (.goto 119, 3) := by decide +kernel
theorem d_216_177 : decode (codeOf 216) 177 = .ok (.aload_n 0, 1) := by decide +kernel
theorem d_216_178 : decode (codeOf 216) 178 = .ok (.iload_n 2, 1) := by decide +kernel
theorem d_216_179 : decode (codeOf 216) 179 = .ok (.iload_n 3, 1) := by decide +kernel
theorem d_216_180 : decode (codeOf 216) 180 = .ok (.iload 4, 2) := by decide +kernel
theorem d_216_182 : decode (codeOf 216) 182 = .ok (.invokevirtual 326, 3) := by decide +kernel
theorem d_216_185 : decode (codeOf 216) 185 = .ok (.goto 108, 3) := by decide +kernel
theorem d_216_188 : decode (codeOf 216) 188 = .ok (.aload_n 0, 1) := by decide +kernel
theorem d_216_189 : decode (codeOf 216) 189 = .ok (.iload_n 2, 1) := by decide +kernel
theorem d_216_190 : decode (codeOf 216) 190 = .ok (.iload_n 3, 1) := by decide +kernel
theorem d_216_191 : decode (codeOf 216) 191 = .ok (.iload 4, 2) := by decide +kernel
theorem d_216_193 : decode (codeOf 216) 193 = .ok (.invokevirtual 329, 3) := by decide +kernel
theorem d_216_196 : decode (codeOf 216) 196 = .ok (.goto 97, 3) := by decide +kernel
theorem d_216_199 : decode (codeOf 216) 199 = .ok (.aload_n 0, 1) := by decide +kernel
theorem d_216_200 : decode (codeOf 216) 200 = .ok (.iload_n 2, 1) := by decide +kernel
theorem d_216_201 : decode (codeOf 216) 201 = .ok (.invokevirtual 332, 3) := by decide +kernel
theorem d_216_204 : decode (codeOf 216) 204 = .ok (.goto 89, 3) := by decide +kernel
theorem d_216_207 : decode (codeOf 216) 207 = .ok (.aload_n 0, 1) := by decide +kernel
theorem d_216_208 : decode (codeOf 216) 208 = .ok (.iload_n 2, 1) := by decide +kernel
theorem d_216_209 : decode (codeOf 216) 209 = .ok (.invokevirtual 335, 3) := by decide +kernel
theorem d_216_212 : decode (codeOf 216) 212 = .ok (.goto 81, 3) := by decide +kernel
theorem d_216_215 : decode (codeOf 216) 215 = .ok (.aload_n 0, 1) := by decide +kernel
theorem d_216_216 : decode (codeOf 216) 216 = .ok (.iload_n 2, 1) := by decide +kernel
theorem d_216_217 : decode (codeOf 216) 217 = .ok (.sipush 30000, 3) := by decide +kernel
theorem d_216_220 : decode (codeOf 216) 220 = .ok (.iload_n 3, 1) := by decide +kernel
theorem d_216_221 : decode (codeOf 216) 221 = .ok (.iadd, 1) := by decide +kernel
theorem d_216_222 : decode (codeOf 216) 222 = .ok (.invokevirtual 307, 3) := by decide +kernel
theorem d_216_225 : decode (codeOf 216) 225 = .ok (.goto 68, 3) := by decide +kernel
theorem d_216_228 : decode (codeOf 216) 228 = .ok (.aload_n 0, 1) := by decide +kernel
theorem d_216_229 : decode (codeOf 216) 229 = .ok (.iload_n 2, 1) := by decide +kernel
theorem d_216_230 : decode (codeOf 216) 230 = .ok (.invokevirtual 316, 3) := by decide +kernel
theorem d_216_233 : decode (codeOf 216) 233 = .ok (.goto 60, 3) := by decide +kernel
theorem d_216_236 : decode (codeOf 216) 236 = .ok (.aload_n 0, 1) := by decide +kernel
theorem d_216_237 : decode (codeOf 216) 237 = .ok (.iload_n 2, 1) := by decide +kernel
theorem d_216_238 : decode (codeOf 216) 238 = .ok (.iload_n 3, 1) := by decide +kernel
theorem d_216_239 : decode (codeOf 216) 239 = .ok (.invokevirtual 338, 3) := by decide +kernel
theorem d_216_242 : decode (codeOf 216) 242 = .ok (.goto 51, 3) := by decide +kernel
theorem d_216_245 : decode (codeOf 216) 245 = .ok (.aload_n 0, 1) := by decide +kernel
theorem d_216_246 : decode (codeOf 216) 246 = .ok (.getfield 50, 3) := by decide +kernel
theorem d_216_249 : decode (codeOf 216) 249 = .ok (.iconst 3, 1) := by decide +kernel
theorem d_216_250 : decode (codeOf 216) 250 = .ok (.sipush 30000, 3) := by decide +kernel
theorem d_216_253 : decode (codeOf 216) 253 = .ok (.iload_n 3, 1) := by decide +kernel
theorem d_216_254 : decode (codeOf 216) 254 = .ok (.iadd, 1) := by decide +kernel
theorem d_216_255 : decode (codeOf 216) 255 = .ok (.iastore, 1) := by decide +kernel
theorem d_216_256 : decode (codeOf 216) 256 = .ok (.aload_n 0, 1) := by decide +kernel
theorem d_216_257 : decode (codeOf 216) 257 = .ok (.iload_n 2, 1) := by decide +kernel
theorem d_216_258 : decode (codeOf 216) 258 = .ok (.invokevirtual 316, 3) := by decide +kernel
theorem d_216_261 : decode (codeOf 216) 261 = .ok (.goto 32, 3) := by decide +kernel
theorem d_216_264 : decode (codeOf 216) 264 = .ok (.aload_n 0, 1) := by decide +kernel
theorem d_216_265 : decode (codeOf 216) 265 = .ok (.iload_n 2, 1) := by decide +kernel
theorem d_216_266 : decode (codeOf 216) 266 = .ok (.invokevirtual 341, 3) := by decide +kernel
theorem d_216_269 : decode (codeOf 216) 269 = .ok (.goto 24, 3) := by decide +kernel
theorem d_216_272 : decode (codeOf 216) 272 = .ok (.aload_n 0, 1) := by decide +kernel
theorem d_216_273 : decode (codeOf 216) 273 = .ok (.aload_n 0, 1) := by decide +kernel
theorem d_216_274 : decode (codeOf 216) 274 = .ok (.getfield 50, 3) := by decide +kernel
theorem d_216_277 : decode (codeOf 216) 277 = .ok (.iconst 0, 1) := by decide +kernel
theorem d_216_278 : decode (codeOf 216) 278 = .ok (.iaload, 1) := by decide +kernel
theorem d_216_279 : decode (codeOf 216) 279 = .ok (.invokestatic 313, 3) := by decide +kernel
theorem d_216_282 : decode (codeOf 216) 282 = .ok (.ifCond .eq 7, 3) := by decide +kernel
theorem d_216_285 : decode (codeOf 216) 285 = .ok (.iconst 1, 1) := by decide +kernel
theorem d_216_286 : decode (codeOf 216) 286 = .ok (.goto 4, 3) := by decide +kernel
theorem d_216_289 : decode (codeOf 216) 289 = .ok (.iconst 2, 1) := by decide +kernel
theorem d_216_290 : decode (codeOf 216) 290 = .ok (.putfield 300, 3) := by decide +kernel
theorem d_216_293 : decode (codeOf 216) 293 = .ok (.return_, 1) := by decide +kernel
theorem d_217_0 : decode (codeOf 217) 0 = .ok (.iload_n 1, 1) := by decide +kernel
theorem d_217_1 : decode (codeOf 217) 1 = .ok (.i2l, 1) := by decide +kernel
theorem d_217_2 : decode (codeOf 217) 2 = .ok (.lconst 0, 1) := by decide +kernel
theorem d_217_3 : decode (codeOf 217) 3 = .ok (.ldc2_w 344, 3) := by decide +kernel
theorem d_217_6 : decode (codeOf 217) 6 = .ok (.invokestatic 106, 3) := by decide +kernel
theorem d_217_9 : decode (codeOf 217) 9 = .ok (.ifCond .eq 27, 3) := by decide +kernel
theorem d_217_12 : decode (codeOf 217) 12 = .ok (.iload_n 2, 1) := by decide +kernel
theorem d_217_13 : decode (codeOf 217) 13 = .ok (.i2l, 1) := by decide +kernel
theorem d_217_14 : decode (codeOf 217) 14 = .ok (.lconst 0, 1) := by decide +kernel
theorem d_217_15 : decode (codeOf 217) 15 = .ok (.ldc2_w 346, 3) := by decide +kernel
theorem d_217_18 : decode (codeOf 217) 18 = .ok (.invokestatic 106, 3) := by decide +kernel
theorem d_217_21 : decode (codeOf 217) 21 = .ok (.ifCond .eq 15, 3) := by decide +kernel
theorem d_217_24 : decode (codeOf 217) 24 = .ok (.iload_n 3, 1) := by decide +kernel
theorem d_217_25 : decode (codeOf 217) 25 = .ok (.i2l, 1) := by decide +kernel
theorem d_217_26 : decode (codeOf 217) 26 = .ok (.lconst 0, 1) := by decide +kernel
theorem d_217_27 : decode (codeOf 217) 27 = .ok (.ldc2_w 348, 3) := by decide +kernel
theorem d_217_30 : decode (codeOf 217) 30 = .ok (.invokestatic 106, 3) := by decide +kernel
theorem d_217_33 : decode (codeOf 217) 33 = .ok (.ifCond .ne 5, 3) := by decide +kernel
theorem d_217_36 : decode (codeOf 217) 36 = .ok (.iconst (-1), 1) := by decide +kernel
theorem d_217_37 : decode (codeOf 217) 37 = .ok (.ireturn, 1) := by decide +kernel
theorem d_217_38 : decode (codeOf 217) 38 = .ok (.aload_n 0, 1) := by decide +kernel
theorem d_217_39 : decode (codeOf 217) 39 = .ok (.iload_n 1, 1) := by decide +kernel
theorem d_217_40 : decode (codeOf 217) 40 = .ok (.invokevirtual 350, 3) := by decide +kernel
theorem d_217_43 : decode (codeOf 217) 43 = .ok (.iconst 0, 1) := by decide +kernel
theorem d_217_44 : decode (codeOf 217) 44 = .ok (.istore 4, 2) := by decide +kernel
theorem d_217_46 : decode (codeOf 217) 46 = .ok (.iconst 0, 1) := by decide +kernel
theorem d_217_47 : decode (codeOf 217) 47 = .ok (.istore 5, 2) := by decide +kernel
theorem d_217_49 : decode (codeOf 217) 49 = .ok (.iload 5, 2) := by decide +kernel
theorem d_217_51 : decode (codeOf 217) 51 = .ok (.iload_n 2, 1) := by decide +kernel
theorem d_217_52 : decode (codeOf 217) 52 = .ok (.if_icmp .ge 38, 3) := by decide +kernel
theorem d_217_55 : decode (codeOf 217) 55 = .ok (.aload_n 0, 1) := by decide +kernel
theorem d_217_56 : decode (codeOf 217) 56 = .ok (.getfield 300, 3) := by decide +kernel
theorem d_217_59 : decode (codeOf 217) 59 = .ok (.ifCond .ne 31, 3) := by decide +kernel
theorem d_217_62 : decode (codeOf 217) 62 = .ok (.aload_n 0, 1) := by decide +kernel
theorem d_217_63 : decode (codeOf 217) 63 = .ok (.invokevirtual 353, 3) := by decide +kernel
theorem d_217_66 : decode (codeOf 217) 66 = .ok (.iload 4, 2) := by decide +kernel
theorem d_217_68 : decode (codeOf 217) 68 = .ok (.aload_n 0, 1) := by decide +kernel
theorem d_217_69 : decode (codeOf 217) 69 = .ok (.getfield 300, 3) := by decide +kernel
theorem d_217_72 : decode (codeOf 217) 72 = .ok (.iconst 2, 1) := by decide +kernel
theorem d_217_73 : decode (codeOf 217) 73 = .ok (.if_icmp .ge 7, 3) := by decide +kernel
theorem d_217_76 : decode (codeOf 217) 76 = .ok (.iconst 1, 1) := by decide +kernel
theorem d_217_77 : decode (codeOf 217) 77 = .ok (.goto 4, 3) := by decide +kernel
theorem d_217_80 : decode (codeOf 217) 80 = .ok (.iconst 0, 1) := by decide +kernel
theorem d_217_81 : decode (codeOf 217) 81 = .ok (.iadd, 1) := by decide +kernel
theorem d_217_82 : decode (codeOf 217) 82 = .ok (.istore 4, 2) := by decide +kernel
theorem d_217_84 : decode (codeOf 217) 84 = .ok (.iinc 5 1, 3) := by decide +kernel
theorem d_217_87 : decode (codeOf 217) 87 = .ok (.goto (-38), 3) := by decide +kernel
theorem d_217_90 : decode (codeOf 217) 90 = .ok (.iload_n 3, 1) := by decide +kernel
theorem d_217_91 : decode (codeOf 217) 91 = .ok (.ifCond .ne 10, 3) := by decide +kernel
theorem d_217_94 : decode (codeOf 217) 94 = .ok (.aload_n 0, 1) := by decide +kernel
theorem d_217_95 : decode (codeOf 217) 95 = .ok (.getfield 300, 3) := by decide +kernel
theorem d_217_98 : decode (codeOf 217) 98 = .ok (.goto 60, 3) := by decide +kernel
theorem d_217_101 : decode (codeOf 217) 101 = .ok (.iload_n 3, 1) := by decide +kernel
theorem d_217_102 : decode (codeOf 217) 102 = .ok (.iconst 1, 1) := by decide +kernel
theorem d_217_103 : decode (codeOf 217) 103 = .ok (.if_icmp .ne 8, 3) := by decide +kernel
theorem d_217_106 : decode (codeOf 217) 106 = .ok (.iload 4, 2) := by decide +kernel
theorem d_217_108 : decode (codeOf 217) 108 = .ok (.goto 50, 3) := by decide +kernel
theorem d_217_111 : decode (codeOf 217) 111 = .ok (.iload_n 3, 1) := by decide +kernel
theorem d_217_112 : decode (codeOf 217) 112 = .ok (.iconst 2, 1) := by decide +kernel
theorem d_217_113 : decode (codeOf 217) 113 = .ok (.if_icmp .ne 10, 3) := by decide +kernel
theorem d_217_116 : decode (codeOf 217) 116 = .ok (.aload_n 0, 1) := by decide +kernel
theorem d_217_117 : decode (codeOf 217) 117 = .ok (.getfield 294, 3) := by decide +kernel
theorem d_217_120 : decode (codeOf 217) 120 = .ok (.goto 38, 3) := by decide +kernel
theorem d_217_123 : decode (codeOf 217) 123 = .ok (.iload_n 3, 1) := by decide +kernel
theorem d_217_124 : decode (codeOf 217) 124 = .ok (.iconst 3, 1) := by decide +kernel
theorem d_217_125 : decode (codeOf 217) 125 = .ok (.if_icmp .ne 10, 3) := by decide +kernel
theorem d_217_128 : decode (codeOf 217) 128 = .ok (.aload_n 0, 1) := by decide +kernel
theorem d_217_129 : decode (codeOf 217) 129 = .ok (.getfield 297, 3) := by decide +kernel
theorem d_217_132 : decode (codeOf 217) 132 = .ok (.goto 26, 3) := by decide +kernel
theorem d_217_135 : decode (codeOf 217) 135 = .ok (.aload_n 0, 1) := by decide +kernel
theorem d_217_136 : decode (codeOf 217) 136 = .ok (.getfield 50, 3) := by decide +kernel
theorem d_217_139 : decode (codeOf 217) 139 = .ok (.iconst 0, 1) := by decide +kernel
theorem d_217_140 : decode (codeOf 217) 140 = .ok (.iaload, 1) := by decide +kernel
theorem d_217_141 : decode (codeOf 217) 141 = .ok (.invokestatic 313, 3) := by decide +kernel
theorem d_217_144 : decode (codeOf 217) 144 = .ok (.ifCond .eq 12, 3) := by decide +kernel
theorem d_217_147 : decode (codeOf 217) 147 = .ok (.aload_n 0, 1) := by decide +kernel
theorem d_217_148 : decode (codeOf 217) 148 = .ok (.getfield 50, 3) := by decide +kernel
theorem d_217_151 : decode (codeOf 217) 151 = .ok (.iconst 0, 1) := by decide +kernel
theorem d_217_152 : decode (codeOf 217) 152 = .ok (.iaload, 1) := by decide +kernel
theorem d_217_153 : decode (codeOf 217) 153 = .ok (.goto 5, 3) := by decide +kernel
theorem d_217_156 : decode (codeOf 217) 156 = .ok (.bipush (-4), 2) := by decide +kernel
theorem d_217_158 : decode (codeOf 217) 158 = .ok (.ireturn, 1) := by decide +kernel
theorem d_218_0 : decode (codeOf 218) 0 = .ok (.iload_n 1, 1) := by decide +kernel
theorem d_218_1 : decode (codeOf 218) 1 = .ok (.i2l, 1) := by decide +kernel
theorem d_218_2 : decode (codeOf 218) 2 = .ok (.lconst 0, 1) := by decide +kernel
theorem d_218_3 : decode (codeOf 218) 3 = .ok (.ldc2_w 356, 3) := by decide +kernel
theorem d_218_6 : decode (codeOf 218) 6 = .ok (.invokestatic 106, 3) := by decide +kernel
theorem d_218_9 : decode (codeOf 218) 9 = .ok (.ifCond .eq 25, 3) := by decide +kernel
theorem d_218_12 : decode (codeOf 218) 12 = .ok (.iload_n 2, 1) := by decide +kernel
theorem d_218_13 : decode (codeOf 218) 13 = .ok (.i2l, 1) := by decide +kernel
theorem d_218_14 : decode (codeOf 218) 14 = .ok (.lconst 1, 1) := by decide +kernel
theorem d_218_15 : decode (codeOf 218) 15 = .ok (.ldc2_w 358, 3) := by decide +kernel
theorem d_218_18 : decode (codeOf 218) 18 = .ok (.invokestatic 106, 3) := by decide +kernel
theorem d_218_21 : decode (codeOf 218) 21 = .ok (.ifCond .eq 13, 3) := by decide +kernel
theorem d_218_24 : decode (codeOf 218) 24 = .ok (.iload_n 3, 1) := by decide +kernel
theorem d_218_25 : decode (codeOf 218) 25 = .ok (.i2l, 1) := by decide +kernel
theorem d_218_26 : decode (codeOf 218) 26 = .ok (.lconst 0, 1) := by decide +kernel
theorem d_218_27 : decode (codeOf 218) 27 = .ok (.lconst 1, 1) := by decide +kernel
theorem d_218_28 : decode (codeOf 218) 28 = .ok (.invokestatic 106, 3) := by decide +kernel
theorem d_218_31 : decode (codeOf 218) 31 = .ok (.ifCond .ne 5, 3) := by decide +kernel
theorem d_218_34 : decode (codeOf 218) 34 = .ok (.iconst (-1), 1) := by decide +kernel
theorem d_218_35 : decode (codeOf 218) 35 = .ok (.ireturn, 1) := by decide +kernel
theorem d_218_36 : decode (codeOf 218) 36 = .ok (.aload_n 0, 1) := by decide +kernel
theorem d_218_37 : decode (codeOf 218) 37 = .ok (.iconst 0, 1) := by decide +kernel
theorem d_218_38 : decode (codeOf 218) 38 = .ok (.sipush 1320, 3) := by decide +kernel
theorem d_218_41 : decode (codeOf 218) 41 = .ok (.invokevirtual 196, 3) := by decide +kernel
theorem d_218_44 : decode (codeOf 218) 44 = .ok (.iconst 0, 1) := by decide +kernel
theorem d_218_45 : decode (codeOf 218) 45 = .ok (.istore 4, 2) := by decide +kernel
theorem d_218_47 : decode (codeOf 218) 47 = .ok (.iconst 0, 1) := by decide +kernel
theorem d_218_48 : decode (codeOf 218) 48 = .ok (.istore 5, 2) := by decide +kernel
theorem d_218_50 : decode (codeOf 218) 50 = .ok (.iload 5, 2) := by decide +kernel
theorem d_218_52 : decode (codeOf 218) 52 = .ok (.iload_n 2, 1) := by decide +kernel
theorem d_218_53 : decode (codeOf 218) 53 = .ok (.if_icmp .ge 181, 3) := by decide +kernel
theorem d_218_56 : decode (codeOf 218) 56 = .ok (.ldc2_w 360, 3) := by decide +kernel
theorem d_218_59 : decode (codeOf 218) 59 = .ok (.iload_n 1, 1) := by decide +kernel
theorem d_218_60 : decode (codeOf 218) 60 = .ok (.i2l, 1) := by decide +kernel
theorem d_218_61 : decode (codeOf 218) 61 = .ok (.lmul, 1) := by decide +kernel
theorem d_218_62 : decode (codeOf 218) 62 = .ok (.ldc2_w 362, 3) := by decide +kernel
theorem d_218_65 : decode (codeOf 218) 65 = .ok (.iload 5, 2) := by decide +kernel
theorem d_218_67 : decode (codeOf 218) 67 = .ok (.i2l, 1) := by decide +kernel
theorem d_218_68 : decode (codeOf 218) 68 = .ok (.lmul, 1) := by decide +kernel
theorem d_218_69 : decode (codeOf 218) 69 = .ok (.ladd, 1) := by decide +kernel
theorem d_218_70 : decode (codeOf 218) 70 = .ok (.lconst 1, 1) := by decide +kernel
theorem d_218_71 : decode (codeOf 218) 71 = .ok (.ladd, 1) := by decide +kernel
theorem d_218_72 : decode (codeOf 218) 72 = .ok (.lstore 6, 2) := by decide +kernel
theorem d_218_74 : decode (codeOf 218) 74 = .ok (.lload 6, 2) := by decide +kernel
theorem d_218_76 : decode (codeOf 218) 76 = .ok (.lload 6, 2) := by decide +kernel
theorem d_218_78 : decode (codeOf 218) 78 = .ok (.lmul, 1) := by decide +kernel
theorem d_218_79 : decode (codeOf 218) 79 = .ok (.ldc2_w 364, 3) := by decide +kernel
theorem d_218_82 : decode (codeOf 218) 82 = .ok (.lrem, 1) := by decide +kernel
theorem d_218_83 : decode (codeOf 218) 83 = .ok (.l2i, 1) := by decide +kernel
theorem d_218_84 : decode (codeOf 218) 84 = .ok (.istore 8, 2) := by decide +kernel
theorem d_218_86 : decode (codeOf 218) 86 = .ok (.iload 8, 2) := by decide +kernel
theorem d_218_88 : decode (codeOf 218) 88 = .ok (.aload_n 0, 1) := by decide +kernel
theorem d_218_89 : decode (codeOf 218) 89 = .ok (.getfield 93, 3) := by decide +kernel
theorem d_218_92 : decode (codeOf 218) 92 = .ok (.irem, 1) := by decide +kernel
theorem d_218_93 : decode (codeOf 218) 93 = .ok (.istore 9, 2) := by decide +kernel
theorem d_218_95 : decode (codeOf 218) 95 = .ok (.iload 8, 2) := by decide +kernel
theorem d_218_97 : decode (codeOf 218) 97 = .ok (.bipush 64, 2) := by decide +kernel
theorem d_218_99 : decode (codeOf 218) 99 = .ok (.idiv, 1) := by decide +kernel
theorem d_218_100 : decode (codeOf 218) 100 = .ok (.iconst 5, 1) := by decide +kernel
theorem d_218_101 : decode (codeOf 218) 101 = .ok (.irem, 1) := by decide +kernel
theorem d_218_102 : decode (codeOf 218) 102 = .ok (.istore 10, 2) := by decide +kernel
theorem d_218_104 : decode (codeOf 218) 104 = .ok (.iload 8, 2) := by decide +kernel
theorem d_218_106 : decode (codeOf 218) 106 = .ok (.sipush 512, 3) := by decide +kernel
theorem d_218_109 : decode (codeOf 218) 109 = .ok (.idiv, 1) := by decide +kernel
theorem d_218_110 : decode (codeOf 218) 110 = .ok (.iconst 4, 1) := by decide +kernel
theorem d_218_111 : decode (codeOf 218) 111 = .ok (.irem, 1) := by decide +kernel
theorem d_218_112 : decode (codeOf 218) 112 = .ok (.istore 11, 2) := by decide +kernel
theorem d_218_114 : decode (codeOf 218) 114 = .ok (.iload 8, 2) := by decide +kernel
theorem d_218_116 : decode (codeOf 218) 116 = .ok (.sipush 2048, 3) := by decide +kernel
theorem d_218_119 : decode (codeOf 218) 119 = .ok (.idiv, 1) := by decide +kernel
theorem d_218_120 : decode (codeOf 218) 120 = .ok (.iconst 4, 1) := by decide +kernel
theorem d_218_121 : decode (codeOf 218) 121 = .ok (.irem, 1) := by decide +kernel
theorem d_218_122 : decode (codeOf 218) 122 = .ok (.istore 12, 2) := by decide +kernel
theorem d_218_124 : decode (codeOf 218) 124 = .ok (.aload_n 0, 1) := by decide +kernel
theorem d_218_125 : decode (codeOf 218) 125 = .ok (.sipush 1320, 3) := by decide +kernel
