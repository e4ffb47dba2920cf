theorem d_150_124 : decode (codeOf 150) 124 = .ok (.goto 4, 3) := by decide +kernel
theorem d_150_127 : decode (codeOf 150) 127 = .ok (.iconst 0, 1) := by decide +kernel
theorem d_150_128 : decode (codeOf 150) 128 = .ok (.putfield 124, 3) := by decide +kernel
theorem d_150_131 : decode (codeOf 150) 131 = .ok (.aload_n 0, 1) := by decide +kernel
theorem d_150_132 : decode (codeOf 150) 132 = .ok (.getfield 124, 3) := by decide +kernel
theorem d_150_135 : decode (codeOf 150) 135 = .ok (.ifCond .ne 23, 3) := by decide +kernel
theorem d_150_138 : decode (codeOf 150) 138 = .ok (.aload_n 0, 1) := by decide +kernel
theorem d_150_139 : decode (codeOf 150) 139 = .ok (.getfield 22, 3) := by decide +kernel
theorem d_150_142 : decode (codeOf 150) 142 = .ok (.aload_n 0, 1) := by decide +kernel
theorem d_150_143 : decode (codeOf 150) 143 = .ok (.getfield 80, 3) := by decide +kernel
theorem d_150_146 : decode (codeOf 150) 146 = .ok (.iload_n 1, 1) := by decide +kernel
theorem d_150_147 : decode (codeOf 150) 147 = .ok (.iastore, 1) := by decide +kernel
theorem d_150_148 : decode (codeOf 150) 148 = .ok (.aload_n 0, 1) := by decide +kernel
theorem d_150_149 : decode (codeOf 150) 149 = .ok (.dup, 1) := by decide +kernel
theorem d_150_150 : decode (codeOf 150) 150 = .ok (.getfield 80, 3) := by decide +kernel
theorem d_150_153 : decode (codeOf 150) 153 = .ok (.iconst 1, 1) := by decide +kernel
theorem d_150_154 : decode (codeOf 150) 154 = .ok (.iadd, 1) := by decide +kernel
theorem d_150_155 : decode (codeOf 150) 155 = .ok (.putfield 80, 3) := by decide +kernel
theorem d_150_158 : decode (codeOf 150) 158 = .ok (.return_, 1) := by decide +kernel
theorem d_151_0 : decode (codeOf 151) 0 = .ok (.aload_n 0, 1) := by decide +kernel
theorem d_151_1 : decode (codeOf 151) 1 = .ok (.aload_n 0, 1) := by decide +kernel
theorem d_151_2 : decode (codeOf 151) 2 = .ok (.getfield 84, 3) := by decide +kernel
theorem d_151_5 : decode (codeOf 151) 5 = .ok (.iconst 4, 1) := by decide +kernel
theorem d_151_6 : decode (codeOf 151) 6 = .ok (.if_icmp .ne 7, 3) := by decide +kernel
theorem d_151_9 : decode (codeOf 151) 9 = .ok (.iconst 1, 1) := by decide +kernel
theorem d_151_10 : decode (codeOf 151) 10 = .ok (.goto 4, 3) := by decide +kernel
theorem d_151_13 : decode (codeOf 151) 13 = .ok (.iconst 0, 1) := by decide +kernel
theorem d_151_14 : decode (codeOf 151) 14 = .ok (.putfield 124, 3) := by decide +kernel
theorem d_151_17 : decode (codeOf 151) 17 = .ok (.aload_n 0, 1) := by decide +kernel
theorem d_151_18 : decode (codeOf 151) 18 = .ok (.getfield 124, 3) := by decide +kernel
theorem d_151_21 : decode (codeOf 151) 21 = .ok (.ifCond .eq 4, 3) := by decide +kernel
theorem d_151_24 : decode (codeOf 151) 24 = .ok (.return_, 1) := by decide +kernel
theorem d_151_25 : decode (codeOf 151) 25 = .ok (.iconst 0, 1) := by decide +kernel
theorem d_151_26 : decode (codeOf 151) 26 = .ok (.istore_n 1, 1) := by decide +kernel
theorem d_151_27 : decode (codeOf 151) 27 = .ok (.iload_n 1, 1) := by decide +kernel
theorem d_151_28 : decode (codeOf 151) 28 = .ok (.iconst 4, 1) := by decide +kernel
theorem d_151_29 : decode (codeOf 151) 29 = .ok (.if_icmp .ge 27, 3) := by decide +kernel
theorem d_151_32 : decode (codeOf 151) 32 = .ok (.aload_n 0, 1) := by decide +kernel
theorem d_151_33 : decode (codeOf 151) 33 = .ok (.getfield 34, 3) := by decide +kernel
theorem d_151_36 : decode (codeOf 151) 36 = .ok (.bipush 30, 2) := by decide +kernel
theorem d_151_38 : decode (codeOf 151) 38 = .ok (.aload_n 0, 1) := by decide +kernel
theorem d_151_39 : decode (codeOf 151) 39 = .ok (.getfield 84, 3) := by decide +kernel
theorem d_151_42 : decode (codeOf 151) 42 = .ok (.imul, 1) := by decide +kernel
theorem d_151_43 : decode (codeOf 151) 43 = .ok (.iload_n 1, 1) := by decide +kernel
theorem d_151_44 : decode (codeOf 151) 44 = .ok (.iadd, 1) := by decide +kernel
theorem d_151_45 : decode (codeOf 151) 45 = .ok (.aload_n 0, 1) := by decide +kernel
theorem d_151_46 : decode (codeOf 151) 46 = .ok (.invokevirtual 136, 3) := by decide +kernel
theorem d_151_49 : decode (codeOf 151) 49 = .ok (.iastore, 1) := by decide +kernel
theorem d_151_50 : decode (codeOf 151) 50 = .ok (.iinc 1 1, 3) := by decide +kernel
theorem d_151_53 : decode (codeOf 151) 53 = .ok (.goto (-26), 3) := by decide +kernel
theorem d_151_56 : decode (codeOf 151) 56 = .ok (.aload_n 0, 1) := by decide +kernel
theorem d_151_57 : decode (codeOf 151) 57 = .ok (.invokevirtual 140, 3) := by decide +kernel
theorem d_151_60 : decode (codeOf 151) 60 = .ok (.iconst 0, 1) := by decide +kernel
theorem d_151_61 : decode (codeOf 151) 61 = .ok (.istore_n 1, 1) := by decide +kernel
theorem d_151_62 : decode (codeOf 151) 62 = .ok (.aload_n 0, 1) := by decide +kernel
theorem d_151_63 : decode (codeOf 151) 63 = .ok (.getfield 124, 3) := by decide +kernel
theorem d_151_66 : decode (codeOf 151) 66 = .ok (.ifCond .ne 56, 3) := by decide +kernel
theorem d_151_69 : decode (codeOf 151) 69 = .ok (.aload_n 0, 1) := by decide +kernel
theorem d_151_70 : decode (codeOf 151) 70 = .ok (.invokevirtual 130, 3) := by decide +kernel
theorem d_151_73 : decode (codeOf 151) 73 = .ok (.ifCond .eq 49, 3) := by decide +kernel
theorem d_151_76 : decode (codeOf 151) 76 = .ok (.aload_n 0, 1) := by decide +kernel
theorem d_151_77 : decode (codeOf 151) 77 = .ok (.iload_n 1, 1) := by decide +kernel
theorem d_151_78 : decode (codeOf 151) 78 = .ok (.iconst 3, 1) := by decide +kernel
theorem d_151_79 : decode (codeOf 151) 79 = .ok (.if_icmp .ne 7, 3) := by decide +kernel
theorem d_151_82 : decode (codeOf 151) 82 = .ok (.iconst 1, 1) := by decide +kernel
theorem d_151_83 : decode (codeOf 151) 83 = .ok (.goto 4, 3) := by decide +kernel
theorem d_151_86 : decode (codeOf 151) 86 = .ok (.iconst 0, 1) := by decide +kernel
theorem d_151_87 : decode (codeOf 151) 87 = .ok (.putfield 124, 3) := by decide +kernel
theorem d_151_90 : decode (codeOf 151) 90 = .ok (.aload_n 0, 1) := by decide +kernel
theorem d_151_91 : decode (codeOf 151) 91 = .ok (.invokevirtual 136, 3) := by decide +kernel
theorem d_151_94 : decode (codeOf 151) 94 = .ok (.istore_n 2, 1) := by decide +kernel
theorem d_151_95 : decode (codeOf 151) 95 = .ok (.aload_n 0, 1) := by decide +kernel
theorem d_151_96 : decode (codeOf 151) 96 = .ok (.getfield 124, 3) := by decide +kernel
theorem d_151_99 : decode (codeOf 151) 99 = .ok (.ifCond .ne 17, 3) := by decide +kernel
theorem d_151_102 : decode (codeOf 151) 102 = .ok (.aload_n 0, 1) := by decide +kernel
theorem d_151_103 : decode (codeOf 151) 103 = .ok (.getfield 31, 3) := by decide +kernel
theorem d_151_106 : decode (codeOf 151) 106 = .ok (.iconst 3, 1) := by decide +kernel
theorem d_151_107 : decode (codeOf 151) 107 = .ok (.aload_n 0, 1) := by decide +kernel
theorem d_151_108 : decode (codeOf 151) 108 = .ok (.getfield 84, 3) := by decide +kernel
theorem d_151_111 : decode (codeOf 151) 111 = .ok (.imul, 1) := by decide +kernel
theorem d_151_112 : decode (codeOf 151) 112 = .ok (.iload_n 1, 1) := by decide +kernel
theorem d_151_113 : decode (codeOf 151) 113 = .ok (.iadd, 1) := by decide +kernel
theorem d_151_114 : decode (codeOf 151) 114 = .ok (.iload_n 2, 1) := by decide +kernel
theorem d_151_115 : decode (codeOf 151) 115 = .ok (.iastore, 1) := by decide +kernel
theorem d_151_116 : decode (codeOf 151) 116 = .ok (.iinc 1 1, 3) := by decide +kernel
theorem d_151_119 : decode (codeOf 151) 119 = .ok (.goto (-57), 3) := by decide +kernel
theorem d_151_122 : decode (codeOf 151) 122 = .ok (.aload_n 0, 1) := by decide +kernel
theorem d_151_123 : decode (codeOf 151) 123 = .ok (.invokevirtual 140, 3) := by decide +kernel
theorem d_151_126 : decode (codeOf 151) 126 = .ok (.aload_n 0, 1) := by decide +kernel
theorem d_151_127 : decode (codeOf 151) 127 = .ok (.getfield 34, 3) := by decide +kernel
theorem d_151_130 : decode (codeOf 151) 130 = .ok (.bipush 30, 2) := by decide +kernel
theorem d_151_132 : decode (codeOf 151) 132 = .ok (.aload_n 0, 1) := by decide +kernel
theorem d_151_133 : decode (codeOf 151) 133 = .ok (.getfield 84, 3) := by decide +kernel
theorem d_151_136 : decode (codeOf 151) 136 = .ok (.imul, 1) := by decide +kernel
theorem d_151_137 : decode (codeOf 151) 137 = .ok (.iconst 4, 1) := by decide +kernel
theorem d_151_138 : decode (codeOf 151) 138 = .ok (.iadd, 1) := by decide +kernel
theorem d_151_139 : decode (codeOf 151) 139 = .ok (.aload_n 0, 1) := by decide +kernel
theorem d_151_140 : decode (codeOf 151) 140 = .ok (.iconst 0, 1) := by decide +kernel
theorem d_151_141 : decode (codeOf 151) 141 = .ok (.iconst 1, 1) := by decide +kernel
theorem d_151_142 : decode (codeOf 151) 142 = .ok (.invokevirtual 143, 3) := by decide +kernel
theorem d_151_145 : decode (codeOf 151) 145 = .ok (.iastore, 1) := by decide +kernel
theorem d_151_146 : decode (codeOf 151) 146 = .ok (.aload_n 0, 1) := by decide +kernel
theorem d_151_147 : decode (codeOf 151) 147 = .ok (.getfield 28, 3) := by decide +kernel
theorem d_151_150 : decode (codeOf 151) 150 = .ok (.aload_n 0, 1) := by decide +kernel
theorem d_151_151 : decode (codeOf 151) 151 = .ok (.getfield 84, 3) := by decide +kernel
theorem d_151_154 : decode (codeOf 151) 154 = .ok (.iload_n 1, 1) := by decide +kernel
theorem d_151_155 : decode (codeOf 151) 155 = .ok (.iastore, 1) := by decide +kernel
theorem d_151_156 : decode (codeOf 151) 156 = .ok (.aload_n 0, 1) := by decide +kernel
theorem d_151_157 : decode (codeOf 151) 157 = .ok (.dup, 1) := by decide +kernel
theorem d_151_158 : decode (codeOf 151) 158 = .ok (.getfield 84, 3) := by decide +kernel
theorem d_151_161 : decode (codeOf 151) 161 = .ok (.iconst 1, 1) := by decide +kernel
theorem d_151_162 : decode (codeOf 151) 162 = .ok (.iadd, 1) := by decide +kernel
theorem d_151_163 : decode (codeOf 151) 163 = .ok (.putfield 84, 3) := by decide +kernel
theorem d_151_166 : decode (codeOf 151) 166 = .ok (.return_, 1) := by decide +kernel
theorem d_152_0 : decode (codeOf 152) 0 = .ok (.aload_n 0, 1) := by decide +kernel
theorem d_152_1 : decode (codeOf 152) 1 = .ok (.aload_n 0, 1) := by decide +kernel
theorem d_152_2 : decode (codeOf 152) 2 = .ok (.getfield 84, 3) := by decide +kernel
theorem d_152_5 : decode (codeOf 152) 5 = .ok (.ifCond .eq 24, 3) := by decide +kernel
theorem d_152_8 : decode (codeOf 152) 8 = .ok (.aload_n 0, 1) := by decide +kernel
theorem d_152_9 : decode (codeOf 152) 9 = .ok (.getfield 34, 3) := by decide +kernel
theorem d_152_12 : decode (codeOf 152) 12 = .ok (.bipush 30, 2) := by decide +kernel
theorem d_152_14 : decode (codeOf 152) 14 = .ok (.aload_n 0, 1) := by decide +kernel
theorem d_152_15 : decode (codeOf 152) 15 = .ok (.getfield 84, 3) := by decide +kernel
theorem d_152_18 : decode (codeOf 152) 18 = .ok (.iconst 1, 1) := by decide +kernel
theorem d_152_19 : decode (codeOf 152) 19 = .ok (.isub, 1) := by decide +kernel
theorem d_152_20 : decode (codeOf 152) 20 = .ok (.imul, 1) := by decide +kernel
theorem d_152_21 : decode (codeOf 152) 21 = .ok (.iconst 5, 1) := by decide +kernel
theorem d_152_22 : decode (codeOf 152) 22 = .ok (.iadd, 1) := by decide +kernel
theorem d_152_23 : decode (codeOf 152) 23 = .ok (.iaload, 1) := by decide +kernel
theorem d_152_24 : decode (codeOf 152) 24 = .ok (.bipush 6, 2) := by decide +kernel
theorem d_152_26 : decode (codeOf 152) 26 = .ok (.if_icmp .ne 7, 3) := by decide +kernel
theorem d_152_29 : decode (codeOf 152) 29 = .ok (.iconst 1, 1) := by decide +kernel
theorem d_152_30 : decode (codeOf 152) 30 = .ok (.goto 4, 3) := by decide +kernel
theorem d_152_33 : decode (codeOf 152) 33 = .ok (.iconst 0, 1) := by decide +kernel
theorem d_152_34 : decode (codeOf 152) 34 = .ok (.putfield 124, 3) := by decide +kernel
theorem d_152_37 : decode (codeOf 152) 37 = .ok (.aload_n 0, 1) := by decide +kernel
theorem d_152_38 : decode (codeOf 152) 38 = .ok (.iconst 0, 1) := by decide +kernel
theorem d_152_39 : decode (codeOf 152) 39 = .ok (.bipush 13, 2) := by decide +kernel
theorem d_152_41 : decode (codeOf 152) 41 = .ok (.invokevirtual 143, 3) := by decide +kernel
theorem d_152_44 : decode (codeOf 152) 44 = .ok (.istore_n 1, 1) := by decide +kernel
theorem d_152_45 : decode (codeOf 152) 45 = .ok (.aload_n 0, 1) := by decide +kernel
theorem d_152_46 : decode (codeOf 152) 46 = .ok (.invokevirtual 140, 3) := by decide +kernel
theorem d_152_49 : decode (codeOf 152) 49 = .ok (.aload_n 0, 1) := by decide +kernel
theorem d_152_50 : decode (codeOf 152) 50 = .ok (.iconst 0, 1) := by decide +kernel
theorem d_152_51 : decode (codeOf 152) 51 = .ok (.bipush 99, 2) := by decide +kernel
theorem d_152_53 : decode (codeOf 152) 53 = .ok (.invokevirtual 143, 3) := by decide +kernel
theorem d_152_56 : decode (codeOf 152) 56 = .ok (.istore_n 2, 1) := by decide +kernel
theorem d_152_57 : decode (codeOf 152) 57 = .ok (.aload_n 0, 1) := by decide +kernel
theorem d_152_58 : decode (codeOf 152) 58 = .ok (.invokevirtual 140, 3) := by decide +kernel
theorem d_152_61 : decode (codeOf 152) 61 = .ok (.aload_n 0, 1) := by decide +kernel
theorem d_152_62 : decode (codeOf 152) 62 = .ok (.iconst 0, 1) := by decide +kernel
theorem d_152_63 : decode (codeOf 152) 63 = .ok (.bipush 99, 2) := by decide +kernel
theorem d_152_65 : decode (codeOf 152) 65 = .ok (.invokevirtual 143, 3) := by decide +kernel
theorem d_152_68 : decode (codeOf 152) 68 = .ok (.istore_n 3, 1) := by decide +kernel
theorem d_152_69 : decode (codeOf 152) 69 = .ok (.aload_n 0, 1) := by decide +kernel
theorem d_152_70 : decode (codeOf 152) 70 = .ok (.invokevirtual 140, 3) := by decide +kernel
theorem d_152_73 : decode (codeOf 152) 73 = .ok (.aload_n 0, 1) := by decide +kernel
theorem d_152_74 : decode (codeOf 152) 74 = .ok (.iconst 0, 1) := by decide +kernel
theorem d_152_75 : decode (codeOf 152) 75 = .ok (.bipush 99, 2) := by decide +kernel
theorem d_152_77 : decode (codeOf 152) 77 = .ok (.invokevirtual 143, 3) := by decide +kernel
theorem d_152_80 : decode (codeOf 152) 80 = .ok (.istore 4, 2) := by decide +kernel
theorem d_152_82 : decode (codeOf 152) 82 = .ok (.aload_n 0, 1) := by decide +kernel
theorem d_152_83 : decode (codeOf 152) 83 = .ok (.aload_n 0, 1) := by decide +kernel
theorem d_152_84 : decode (codeOf 152) 84 = .ok (.getfield 124, 3) := by decide +kernel
theorem d_152_87 : decode (codeOf 152) 87 = .ok (.ifCond .ne 19, 3) := by decide +kernel
theorem d_152_90 : decode (codeOf 152) 90 = .ok (.iload_n 1, 1) := by decide +kernel
theorem d_152_91 : decode (codeOf 152) 91 = .ok (.iload_n 2, 1) := by decide +kernel
theorem d_152_92 : decode (codeOf 152) 92 = .ok (.iload_n 3, 1) := by decide +kernel
theorem d_152_93 : decode (codeOf 152) 93 = .ok (.iload 4, 2) := by decide +kernel
theorem d_152_95 : decode (codeOf 152) 95 = .ok (.aload_n 0, 1) := by decide +kernel
theorem d_152_96 : decode (codeOf 152) 96 = .ok (.getfield 80, 3) := by decide +kernel
theorem d_152_99 : decode (codeOf 152) 99 = .ok (.iconst 4, 1) := by decide +kernel
theorem d_152_100 : decode (codeOf 152) 100 = .ok (.invokestatic 147, 3) := by decide +kernel
theorem d_152_103 : decode (codeOf 152) 103 = .ok (.ifCond .ne 7, 3) := by decide +kernel
theorem d_152_106 : decode (codeOf 152) 106 = .ok (.iconst 1, 1) := by decide +kernel
theorem d_152_107 : decode (codeOf 152) 107 = .ok (.goto 4, 3) := by decide +kernel
theorem d_152_110 : decode (codeOf 152) 110 = .ok (.iconst 0, 1) := by decide +kernel
theorem d_152_111 : decode (codeOf 152) 111 = .ok (.putfield 124, 3) := by decide +kernel
theorem d_152_114 : decode (codeOf 152) 114 = .ok (.aload_n 0, 1) := by decide +kernel
theorem d_152_115 : decode (codeOf 152) 115 = .ok (.getfield 124, 3) := by decide +kernel
theorem d_152_118 : decode (codeOf 152) 118 = .ok (.ifCond .ne 27, 3) := by decide +kernel
theorem d_152_121 : decode (codeOf 152) 121 = .ok (.aload_n 0, 1) := by decide +kernel
theorem d_152_122 : decode (codeOf 152) 122 = .ok (.dup, 1) := by decide +kernel
theorem d_152_123 : decode (codeOf 152) 123 = .ok (.getfield 87, 3) := by decide +kernel
theorem d_152_126 : decode (codeOf 152) 126 = .ok (.iload_n 1, 1) := by decide +kernel
theorem d_152_127 : decode (codeOf 152) 127 = .ok (.iload_n 2, 1) := by decide +kernel
theorem d_152_128 : decode (codeOf 152) 128 = .ok (.iload_n 3, 1) := by decide +kernel
theorem d_152_129 : decode (codeOf 152) 129 = .ok (.invokestatic 151, 3) := by decide +kernel
theorem d_152_132 : decode (codeOf 152) 132 = .ok (.ior, 1) := by decide +kernel
theorem d_152_133 : decode (codeOf 152) 133 = .ok (.putfield 87, 3) := by decide +kernel
theorem d_152_136 : decode (codeOf 152) 136 = .ok (.aload_n 0, 1) := by decide +kernel
theorem d_152_137 : decode (codeOf 152) 137 = .ok (.iload_n 1, 1) := by decide +kernel
theorem d_152_138 : decode (codeOf 152) 138 = .ok (.iload_n 2, 1) := by decide +kernel
theorem d_152_139 : decode (codeOf 152) 139 = .ok (.iload_n 3, 1) := by decide +kernel
theorem d_152_140 : decode (codeOf 152) 140 = .ok (.iload 4, 2) := by decide +kernel
theorem d_152_142 : decode (codeOf 152) 142 = .ok (.invokevirtual 73, 3) := by decide +kernel
theorem d_152_145 : decode (codeOf 152) 145 = .ok (.return_, 1) := by decide +kernel
theorem d_153_0 : decode (codeOf 153) 0 = .ok (.iload_n 0, 1) := by decide +kernel
theorem d_153_1 : decode (codeOf 153) 1 = .ok (.bipush 9, 2) := by decide +kernel
theorem d_153_3 : decode (codeOf 153) 3 = .ok (.if_icmp .ne 9, 3) := by decide +kernel
theorem d_153_6 : decode (codeOf 153) 6 = .ok (.iconst 1, 1) := by decide +kernel
theorem d_153_7 : decode (codeOf 153) 7 = .ok (.iload_n 1, 1) := by decide +kernel
theorem d_153_8 : decode (codeOf 153) 8 = .ok (.ishl, 1) := by decide +kernel
theorem d_153_9 : decode (codeOf 153) 9 = .ok (.goto 38, 3) := by decide +kernel
theorem d_153_12 : decode (codeOf 153) 12 = .ok (.iload_n 0, 1) := by decide +kernel
theorem d_153_13 : decode (codeOf 153) 13 = .ok (.bipush 8, 2) := by decide +kernel
theorem d_153_15 : decode (codeOf 153) 15 = .ok (.if_icmp .eq 9, 3) := by decide +kernel
theorem d_153_18 : decode (codeOf 153) 18 = .ok (.iload_n 0, 1) := by decide +kernel
theorem d_153_19 : decode (codeOf 153) 19 = .ok (.bipush 10, 2) := by decide +kernel
theorem d_153_21 : decode (codeOf 153) 21 = .ok (.if_icmp .ne 9, 3) := by decide +kernel
theorem d_153_24 : decode (codeOf 153) 24 = .ok (.iconst 1, 1) := by decide +kernel
theorem d_153_25 : decode (codeOf 153) 25 = .ok (.iload_n 2, 1) := by decide +kernel
theorem d_153_26 : decode (codeOf 153) 26 = .ok (.ishl, 1) := by decide +kernel
theorem d_153_27 : decode (codeOf 153) 27 = .ok (.goto 20, 3) := by decide +kernel
theorem d_153_30 : decode (codeOf 153) 30 = .ok (.iload_n 0, 1) := by decide +kernel
theorem d_153_31 : decode (codeOf 153) 31 = .ok (.bipush 11, 2) := by decide +kernel
theorem d_153_33 : decode (codeOf 153) 33 = .ok (.if_icmp .ne 13, 3) := by decide +kernel
theorem d_153_36 : decode (codeOf 153) 36 = .ok (.iconst 1, 1) := by decide +kernel
theorem d_153_37 : decode (codeOf 153) 37 = .ok (.iload_n 1, 1) := by decide +kernel
theorem d_153_38 : decode (codeOf 153) 38 = .ok (.ishl, 1) := by decide +kernel
theorem d_153_39 : decode (codeOf 153) 39 = .ok (.iconst 1, 1) := by decide +kernel
theorem d_153_40 : decode (codeOf 153) 40 = .ok (.iload_n 2, 1) := by decide +kernel
theorem d_153_41 : decode (codeOf 153) 41 = .ok (.ishl, 1) := by decide +kernel
theorem d_153_42 : decode (codeOf 153) 42 = .ok (.ior, 1) := by decide +kernel
theorem d_153_43 : decode (codeOf 153) 43 = .ok (.goto 4, 3) := by decide +kernel
theorem d_153_46 : decode (codeOf 153) 46 = .ok (.iconst 0, 1) := by decide +kernel
theorem d_153_47 : decode (codeOf 153) 47 = .ok (.ireturn, 1) := by decide +kernel
theorem d_154_0 : decode (codeOf 154) 0 = .ok (.iload_n 0, 1) := by decide +kernel
theorem d_154_1 : decode (codeOf 154) 1 = .ok (.bipush 9, 2) := by decide +kernel
theorem d_154_3 : decode (codeOf 154) 3 = .ok (.if_icmp .eq 9, 3) := by decide +kernel
theorem d_154_6 : decode (codeOf 154) 6 = .ok (.iload_n 0, 1) := by decide +kernel
theorem d_154_7 : decode (codeOf 154) 7 = .ok (.bipush 11, 2) := by decide +kernel
theorem d_154_9 : decode (codeOf 154) 9 = .ok (.if_icmp .ne 10, 3) := by decide +kernel
theorem d_154_12 : decode (codeOf 154) 12 = .ok (.iload 5, 2) := by decide +kernel
theorem d_154_14 : decode (codeOf 154) 14 = .ok (.iconst 1, 1) := by decide +kernel
theorem d_154_15 : decode (codeOf 154) 15 = .ok (.isub, 1) := by decide +kernel
theorem d_154_16 : decode (codeOf 154) 16 = .ok (.goto 14, 3) := by decide +kernel
theorem d_154_19 : decode (codeOf 154) 19 = .ok (.iload_n 0, 1) := by decide +kernel
theorem d_154_20 : decode (codeOf 154) 20 = .ok (.bipush 13, 2) := by decide +kernel
theorem d_154_22 : decode (codeOf 154) 22 = .ok (.if_icmp .ne 7, 3) := by decide +kernel
theorem d_154_25 : decode (codeOf 154) 25 = .ok (.iconst 0, 1) := by decide +kernel
theorem d_154_26 : decode (codeOf 154) 26 = .ok (.goto 4, 3) := by decide +kernel
theorem d_154_29 : decode (codeOf 154) 29 = .ok (.iconst 3, 1) := by decide +kernel
theorem d_154_30 : decode (codeOf 154) 30 = .ok (.istore 6, 2) := by decide +kernel
theorem d_154_32 : decode (codeOf 154) 32 = .ok (.iload_n 0, 1) := by decide +kernel
theorem d_154_33 : decode (codeOf 154) 33 = .ok (.ifCond .eq 13, 3) := by decide +kernel
theorem d_154_36 : decode (codeOf 154) 36 = .ok (.iload_n 0, 1) := by decide +kernel
theorem d_154_37 : decode (codeOf 154) 37 = .ok (.iconst 2, 1) := by decide +kernel
theorem d_154_38 : decode (codeOf 154) 38 = .ok (.if_icmp .eq 8, 3) := by decide +kernel
theorem d_154_41 : decode (codeOf 154) 41 = .ok (.iload_n 0, 1) := by decide +kernel
theorem d_154_42 : decode (codeOf 154) 42 = .ok (.iconst 5, 1) := by decide +kernel
theorem d_154_43 : decode (codeOf 154) 43 = .ok (.if_icmp .ne 7, 3) := by decide +kernel
theorem d_154_46 : decode (codeOf 154) 46 = .ok (.iconst 3, 1) := by decide +kernel
theorem d_154_47 : decode (codeOf 154) 47 = .ok (.goto 60, 3) := by decide +kernel
theorem d_154_50 : decode (codeOf 154) 50 = .ok (.iload_n 0, 1) := by decide +kernel
theorem d_154_51 : decode (codeOf 154) 51 = .ok (.iconst 1, 1) := by decide +kernel
theorem d_154_52 : decode (codeOf 154) 52 = .ok (.if_icmp .ne 8, 3) := by decide +kernel
theorem d_154_55 : decode (codeOf 154) 55 = .ok (.bipush 99, 2) := by decide +kernel
theorem d_154_57 : decode (codeOf 154) 57 = .ok (.goto 50, 3) := by decide +kernel
theorem d_154_60 : decode (codeOf 154) 60 = .ok (.iload_n 0, 1) := by decide +kernel
theorem d_154_61 : decode (codeOf 154) 61 = .ok (.iconst 3, 1) := by decide +kernel
theorem d_154_62 : decode (codeOf 154) 62 = .ok (.if_icmp .ne 10, 3) := by decide +kernel
theorem d_154_65 : decode (codeOf 154) 65 = .ok (.iload 4, 2) := by decide +kernel
theorem d_154_67 : decode (codeOf 154) 67 = .ok (.iconst 1, 1) := by decide +kernel
theorem d_154_68 : decode (codeOf 154) 68 = .ok (.isub, 1) := by decide +kernel
theorem d_154_69 : decode (codeOf 154) 69 = .ok (.goto 38, 3) := by decide +kernel
theorem d_154_72 : decode (codeOf 154) 72 = .ok (.iload_n 0, 1) := by decide +kernel
theorem d_154_73 : decode (codeOf 154) 73 = .ok (.iconst 4, 1) := by decide +kernel
theorem d_154_74 : decode (codeOf 154) 74 = .ok (.if_icmp .ne 7, 3) := by decide +kernel
theorem d_154_77 : decode (codeOf 154) 77 = .ok (.iconst 2, 1) := by decide +kernel
theorem d_154_78 : decode (codeOf 154) 78 = .ok (.goto 29, 3) := by decide +kernel
theorem d_154_81 : decode (codeOf 154) 81 = .ok (.iload_n 0, 1) := by decide +kernel
theorem d_154_82 : decode (codeOf 154) 82 = .ok (.bipush 8, 2) := by decide +kernel
theorem d_154_84 : decode (codeOf 154) 84 = .ok (.if_icmp .eq 15, 3) := by decide +kernel
theorem d_154_87 : decode (codeOf 154) 87 = .ok (.iload_n 0, 1) := by decide +kernel
theorem d_154_88 : decode (codeOf 154) 88 = .ok (.bipush 10, 2) := by decide +kernel
theorem d_154_90 : decode (codeOf 154) 90 = .ok (.if_icmp .eq 9, 3) := by decide +kernel
theorem d_154_93 : decode (codeOf 154) 93 = .ok (.iload_n 0, 1) := by decide +kernel
theorem d_154_94 : decode (codeOf 154) 94 = .ok (.bipush 11, 2) := by decide +kernel
theorem d_154_96 : decode (codeOf 154) 96 = .ok (.if_icmp .ne 10, 3) := by decide +kernel
theorem d_154_99 : decode (codeOf 154) 99 = .ok (.iload 5, 2) := by decide +kernel
theorem d_154_101 : decode (codeOf 154) 101 = .ok (.iconst 1, 1) := by decide +kernel
theorem d_154_102 : decode (codeOf 154) 102 = .ok (.isub, 1) := by decide +kernel
theorem d_154_103 : decode (codeOf 154) 103 = .ok (.goto 4, 3) := by decide +kernel
theorem d_154_106 : decode (codeOf 154) 106 = .ok (.iconst 0, 1) := by decide +kernel
theorem d_154_107 : decode (codeOf 154) 107 = .ok (.istore 7, 2) := by decide +kernel
theorem d_154_109 : decode (codeOf 154) 109 = .ok (.iload_n 0, 1) := by decide +kernel
theorem d_154_110 : decode (codeOf 154) 110 = .ok (.iconst 4, 1) := by decide +kernel
theorem d_154_111 : decode (codeOf 154) 111 = .ok (.if_icmp .ne 7, 3) := by decide +kernel
theorem d_154_114 : decode (codeOf 154) 114 = .ok (.iconst 3, 1) := by decide +kernel
theorem d_154_115 : decode (codeOf 154) 115 = .ok (.goto 13, 3) := by decide +kernel
theorem d_154_118 : decode (codeOf 154) 118 = .ok (.iload_n 0, 1) := by decide +kernel
theorem d_154_119 : decode (codeOf 154) 119 = .ok (.iconst 5, 1) := by decide +kernel
theorem d_154_120 : decode (codeOf 154) 120 = .ok (.if_icmp .ne 7, 3) := by decide +kernel
theorem d_154_123 : decode (codeOf 154) 123 = .ok (.iconst 2, 1) := by decide +kernel
theorem d_154_124 : decode (codeOf 154) 124 = .ok (.goto 4, 3) := by decide +kernel
theorem d_154_127 : decode (codeOf 154) 127 = .ok (.iconst 0, 1) := by decide +kernel
theorem d_154_128 : decode (codeOf 154) 128 = .ok (.istore 8, 2) := by decide +kernel
theorem d_154_130 : decode (codeOf 154) 130 = .ok (.iload_n 0, 1) := by decide +kernel
theorem d_154_131 : decode (codeOf 154) 131 = .ok (.i2l, 1) := by decide +kernel
theorem d_154_132 : decode (codeOf 154) 132 = .ok (.lconst 0, 1) := by decide +kernel
theorem d_154_133 : decode (codeOf 154) 133 = .ok (.ldc2_w 155, 3) := by decide +kernel
theorem d_154_136 : decode (codeOf 154) 136 = .ok (.invokestatic 106, 3) := by decide +kernel
theorem d_154_139 : decode (codeOf 154) 139 = .ok (.ifCond .eq 43, 3) := by decide +kernel
theorem d_154_142 : decode (codeOf 154) 142 = .ok (.iload_n 1, 1) := by decide +kernel
theorem d_154_143 : decode (codeOf 154) 143 = .ok (.i2l, 1) := by decide +kernel
theorem d_154_144 : decode (codeOf 154) 144 = .ok (.lconst 0, 1) := by decide +kernel
theorem d_154_145 : decode (codeOf 154) 145 = .ok (.iload 6, 2) := by decide +kernel
theorem d_154_147 : decode (codeOf 154) 147 = .ok (.i2l, 1) := by decide +kernel
theorem d_154_148 : decode (codeOf 154) 148 = .ok (.invokestatic 106, 3) := by decide +kernel
theorem d_154_151 : decode (codeOf 154) 151 = .ok (.ifCond .eq 31, 3) := by decide +kernel
theorem d_154_154 : decode (codeOf 154) 154 = .ok (.iload_n 2, 1) := by decide +kernel
theorem d_154_155 : decode (codeOf 154) 155 = .ok (.i2l, 1) := by decide +kernel
theorem d_154_156 : decode (codeOf 154) 156 = .ok (.lconst 0, 1) := by decide +kernel
theorem d_154_157 : decode (codeOf 154) 157 = .ok (.iload 7, 2) := by decide +kernel
theorem d_154_159 : decode (codeOf 154) 159 = .ok (.i2l, 1) := by decide +kernel
theorem d_154_160 : decode (codeOf 154) 160 = .ok (.invokestatic 106, 3) := by decide +kernel
theorem d_154_163 : decode (codeOf 154) 163 = .ok (.ifCond .eq 19, 3) := by decide +kernel
theorem d_154_166 : decode (codeOf 154) 166 = .ok (.iload_n 3, 1) := by decide +kernel
theorem d_154_167 : decode (codeOf 154) 167 = .ok (.i2l, 1) := by decide +kernel
theorem d_154_168 : decode (codeOf 154) 168 = .ok (.lconst 0, 1) := by decide +kernel
theorem d_154_169 : decode (codeOf 154) 169 = .ok (.iload 8, 2) := by decide +kernel
theorem d_154_171 : decode (codeOf 154) 171 = .ok (.i2l, 1) := by decide +kernel
theorem d_154_172 : decode (codeOf 154) 172 = .ok (.invokestatic 106, 3) := by decide +kernel
theorem d_154_175 : decode (codeOf 154) 175 = .ok (.ifCond .eq 7, 3) := by decide +kernel
theorem d_154_178 : decode (codeOf 154) 178 = .ok (.iconst 1, 1) := by decide +kernel
theorem d_154_179 : decode (codeOf 154) 179 = .ok (.goto 4, 3) := by decide +kernel
theorem d_154_182 : decode (codeOf 154) 182 = .ok (.iconst 0, 1) := by decide +kernel
theorem d_154_183 : decode (codeOf 154) 183 = .ok (.ireturn, 1) := by decide +kernel
theorem d_155_0 : decode (codeOf 155) 0 = .ok (.aload_n 0, 1) := by decide +kernel
theorem d_155_1 : decode (codeOf 155) 1 = .ok (.invokevirtual 62, 3) := by decide +kernel
theorem d_155_4 : decode (codeOf 155) 4 = .ok (.aload_n 0, 1) := by decide +kernel
theorem d_155_5 : decode (codeOf 155) 5 = .ok (.iconst 0, 1) := by decide +kernel
theorem d_155_6 : decode (codeOf 155) 6 = .ok (.putfield 113, 3) := by decide +kernel
theorem d_155_9 : decode (codeOf 155) 9 = .ok (.aload_n 0, 1) := by decide +kernel
theorem d_155_10 : decode (codeOf 155) 10 = .ok (.iconst 0, 1) := by decide +kernel
theorem d_155_11 : decode (codeOf 155) 11 = .ok (.putfield 124, 3) := by decide +kernel
theorem d_155_14 : decode (codeOf 155) 14 = .ok (.aload_n 0, 1) := by decide +kernel
theorem d_155_15 : decode (codeOf 155) 15 = .ok (.getfield 113, 3) := by decide +kernel
theorem d_155_18 : decode (codeOf 155) 18 = .ok (.aload_n 0, 1) := by decide +kernel
theorem d_155_19 : decode (codeOf 155) 19 = .ok (.getfield 110, 3) := by decide +kernel
theorem d_155_22 : decode (codeOf 155) 22 = .ok (.if_icmp .ge 123, 3) := by decide +kernel
theorem d_155_25 : decode (codeOf 155) 25 = .ok (.aload_n 0, 1) := by decide +kernel
theorem d_155_26 : decode (codeOf 155) 26 = .ok (.getfield 124, 3) := by decide +kernel
theorem d_155_29 : decode (codeOf 155) 29 = .ok (.ifCond .ne 116, 3) := by decide +kernel
theorem d_155_32 : decode (codeOf 155) 32 = .ok (.aload_n 0, 1) := by decide +kernel
theorem d_155_33 : decode (codeOf 155) 33 = .ok (.aload_n 0, 1) := by decide +kernel
theorem d_155_34 : decode (codeOf 155) 34 = .ok (.getfield 113, 3) := by decide +kernel
theorem d_155_37 : decode (codeOf 155) 37 = .ok (.putfield 157, 3) := by decide +kernel
theorem d_155_40 : decode (codeOf 155) 40 = .ok (.aload_n 0, 1) := by decide +kernel
theorem d_155_41 : decode (codeOf 155) 41 = .ok (.aload_n 0, 1) := by decide +kernel
theorem d_155_42 : decode (codeOf 155) 42 = .ok (.getfield 113, 3) := by decide +kernel
theorem d_155_45 : decode (codeOf 155) 45 = .ok (.invokevirtual 116, 3) := by decide +kernel
theorem d_155_48 : decode (codeOf 155) 48 = .ok (.istore_n 1, 1) := by decide +kernel
theorem d_155_49 : decode (codeOf 155) 49 = .ok (.aload_n 0, 1) := by decide +kernel
theorem d_155_50 : decode (codeOf 155) 50 = .ok (.dup, 1) := by decide +kernel
theorem d_155_51 : decode (codeOf 155) 51 = .ok (.getfield 113, 3) := by decide +kernel
theorem d_155_54 : decode (codeOf 155) 54 = .ok (.iconst 1, 1) := by decide +kernel
theorem d_155_55 : decode (codeOf 155) 55 = .ok (.iadd, 1) := by decide +kernel
theorem d_155_56 : decode (codeOf 155) 56 = .ok (.putfield 113, 3) := by decide +kernel
theorem d_155_59 : decode (codeOf 155) 59 = .ok (.iload_n 1, 1) := by decide +kernel
theorem d_155_60 : decode (codeOf 155) 60 = .ok (.bipush 115, 2) := by decide +kernel
theorem d_155_62 : decode (codeOf 155) 62 = .ok (.if_icmp .ne 10, 3) := by decide +kernel
theorem d_155_65 : decode (codeOf 155) 65 = .ok (.aload_n 0, 1) := by decide +kernel
theorem d_155_66 : decode (codeOf 155) 66 = .ok (.invokevirtual 160, 3) := by decide +kernel
theorem d_155_69 : decode (codeOf 155) 69 = .ok (.goto 34, 3) := by decide +kernel
theorem d_155_72 : decode (codeOf 155) 72 = .ok (.iload_n 1, 1) := by decide +kernel
theorem d_155_73 : decode (codeOf 155) 73 = .ok (.bipush 108, 2) := by decide +kernel
theorem d_155_75 : decode (codeOf 155) 75 = .ok (.if_icmp .ne 10, 3) := by decide +kernel
theorem d_155_78 : decode (codeOf 155) 78 = .ok (.aload_n 0, 1) := by decide +kernel
theorem d_155_79 : decode (codeOf 155) 79 = .ok (.invokevirtual 163, 3) := by decide +kernel
theorem d_155_82 : decode (codeOf 155) 82 = .ok (.goto 21, 3) := by decide +kernel
theorem d_155_85 : decode (codeOf 155) 85 = .ok (.iload_n 1, 1) := by decide +kernel
theorem d_155_86 : decode (codeOf 155) 86 = .ok (.bipush 105, 2) := by decide +kernel
theorem d_155_88 : decode (codeOf 155) 88 = .ok (.if_icmp .ne 10, 3) := by decide +kernel
theorem d_155_91 : decode (codeOf 155) 91 = .ok (.aload_n 0, 1) := by decide +kernel
theorem d_155_92 : decode (codeOf 155) 92 = .ok (.invokevirtual 166, 3) := by decide +kernel
theorem d_155_95 : decode (codeOf 155) 95 = .ok (.goto 8, 3) := by decide +kernel
theorem d_155_98 : decode (codeOf 155) 98 = .ok (.aload_n 0, 1) := by decide +kernel
theorem d_155_99 : decode (codeOf 155) 99 = .ok (.iconst 1, 1) := by decide +kernel
theorem d_155_100 : decode (codeOf 155) 100 = .ok (.putfield 124, 3) := by decide +kernel
theorem d_155_103 : decode (codeOf 155) 103 = .ok (.aload_n 0, 1) := by decide +kernel
theorem d_155_104 : decode (codeOf 155) 104 = .ok (.aload_n 0, 1) := by decide +kernel
theorem d_155_105 : decode (codeOf 155) 105 = .ok (.getfield 124, 3) := by decide +kernel
theorem d_155_108 : decode (codeOf 155) 108 = .ok (.ifCond .ne 16, 3) := by decide +kernel
theorem d_155_111 : decode (codeOf 155) 111 = .ok (.aload_n 0, 1) := by decide +kernel
theorem d_155_112 : decode (codeOf 155) 112 = .ok (.aload_n 0, 1) := by decide +kernel
theorem d_155_113 : decode (codeOf 155) 113 = .ok (.getfield 113, 3) := by decide +kernel
theorem d_155_116 : decode (codeOf 155) 116 = .ok (.invokevirtual 116, 3) := by decide +kernel
theorem d_155_119 : decode (codeOf 155) 119 = .ok (.bipush 59, 2) := by decide +kernel
theorem d_155_121 : decode (codeOf 155) 121 = .ok (.if_icmp .eq 7, 3) := by decide +kernel
theorem d_155_124 : decode (codeOf 155) 124 = .ok (.iconst 1, 1) := by decide +kernel
theorem d_155_125 : decode (codeOf 155) 125 = .ok (.goto 4, 3) := by decide +kernel
theorem d_155_128 : decode (codeOf 155) 128 = .ok (.iconst 0, 1) := by decide +kernel
theorem d_155_129 : decode (codeOf 155) 129 = .ok (.putfield 124, 3) := by decide +kernel
theorem d_155_132 : decode (codeOf 155) 132 = .ok (.aload_n 0, 1) := by decide +kernel
theorem d_155_133 : decode (codeOf 155) 133 = .ok (.dup, 1) := by decide +kernel
theorem d_155_134 : decode (codeOf 155) 134 = .ok (.getfield 113, 3) := by decide +kernel
theorem d_155_137 : decode (codeOf 155) 137 = .ok (.iconst 1, 1) := by decide +kernel
theorem d_155_138 : decode (codeOf 155) 138 = .ok (.iadd, 1) := by decide +kernel
theorem d_155_139 : decode (codeOf 155) 139 = .ok (.putfield 113, 3) := by decide +kernel
theorem d_155_142 : decode (codeOf 155) 142 = .ok (.goto (-128), 3) := by decide +kernel
theorem d_155_145 : decode (codeOf 155) 145 = .ok (.return_, 1) := by decide +kernel
theorem d_156_0 : decode (codeOf 156) 0 = .ok (.aload_n 0, 1) := by decide +kernel
theorem d_156_1 : decode (codeOf 156) 1 = .ok (.invokevirtual 169, 3) := by decide +kernel
theorem d_156_4 : decode (codeOf 156) 4 = .ok (.aload_n 0, 1) := by decide +kernel
theorem d_156_5 : decode (codeOf 156) 5 = .ok (.getfield 124, 3) := by decide +kernel
theorem d_156_8 : decode (codeOf 156) 8 = .ok (.ifCond .eq 10, 3) := by decide +kernel
theorem d_156_11 : decode (codeOf 156) 11 = .ok (.aload_n 0, 1) := by decide +kernel
theorem d_156_12 : decode (codeOf 156) 12 = .ok (.getfield 157, 3) := by decide +kernel
theorem d_156_15 : decode (codeOf 156) 15 = .ok (.goto 5, 3) := by decide +kernel
theorem d_156_18 : decode (codeOf 156) 18 = .ok (.bipush (-4), 2) := by decide +kernel
theorem d_156_20 : decode (codeOf 156) 20 = .ok (.ireturn, 1) := by decide +kernel
theorem d_157_0 : decode (codeOf 157) 0 = .ok (.aload_n 0, 1) := by decide +kernel
theorem d_157_1 : decode (codeOf 157) 1 = .ok (.invokevirtual 169, 3) := by decide +kernel
theorem d_157_4 : decode (codeOf 157) 4 = .ok (.aload_n 0, 1) := by decide +kernel
theorem d_157_5 : decode (codeOf 157) 5 = .ok (.getfield 124, 3) := by decide +kernel
theorem d_157_8 : decode (codeOf 157) 8 = .ok (.ifCond .ne 22, 3) := by decide +kernel
theorem d_157_11 : decode (codeOf 157) 11 = .ok (.aload_n 0, 1) := by decide +kernel
theorem d_157_12 : decode (codeOf 157) 12 = .ok (.getfield 84, 3) := by decide +kernel
theorem d_157_15 : decode (codeOf 157) 15 = .ok (.ifCond .eq 15, 3) := by decide +kernel
theorem d_157_18 : decode (codeOf 157) 18 = .ok (.aload_n 0, 1) := by decide +kernel
theorem d_157_19 : decode (codeOf 157) 19 = .ok (.getfield 87, 3) := by decide +kernel
theorem d_157_22 : decode (codeOf 157) 22 = .ok (.aload_n 0, 1) := by decide +kernel
theorem d_157_23 : decode (codeOf 157) 23 = .ok (.getfield 84, 3) := by decide +kernel
theorem d_157_26 : decode (codeOf 157) 26 = .ok (.ishr, 1) := by decide +kernel
theorem d_157_27 : decode (codeOf 157) 27 = .ok (.ifCond .eq 6, 3) := by decide +kernel
theorem d_157_30 : decode (codeOf 157) 30 = .ok (.bipush (-2), 2) := by decide +kernel
theorem d_157_32 : decode (codeOf 157) 32 = .ok (.ireturn, 1) := by decide +kernel
theorem d_157_33 : decode (codeOf 157) 33 = .ok (.aload_n 0, 1) := by decide +kernel
theorem d_157_34 : decode (codeOf 157) 34 = .ok (.invokevirtual 77, 3) := by decide +kernel
theorem d_157_37 : decode (codeOf 157) 37 = .ok (.aload_n 0, 1) := by decide +kernel
theorem d_157_38 : decode (codeOf 157) 38 = .ok (.getfield 93, 3) := by decide +kernel
theorem d_157_41 : decode (codeOf 157) 41 = .ok (.ireturn, 1) := by decide +kernel
theorem d_158_0 : decode (codeOf 158) 0 = .ok (.iload_n 1, 1) := by decide +kernel
theorem d_158_1 : decode (codeOf 158) 1 = .ok (.i2l, 1) := by decide +kernel
theorem d_158_2 : decode (codeOf 158) 2 = .ok (.lconst 0, 1) := by decide +kernel
theorem d_158_3 : decode (codeOf 158) 3 = .ok (.aload_n 0, 1) := by decide +kernel
theorem d_158_4 : decode (codeOf 158) 4 = .ok (.getfield 93, 3) := by decide +kernel
theorem d_158_7 : decode (codeOf 158) 7 = .ok (.iconst 1, 1) := by decide +kernel
theorem d_158_8 : decode (codeOf 158) 8 = .ok (.isub, 1) := by decide +kernel
theorem d_158_9 : decode (codeOf 158) 9 = .ok (.i2l, 1) := by decide +kernel
theorem d_158_10 : decode (codeOf 158) 10 = .ok (.invokestatic 106, 3) := by decide +kernel
theorem d_158_13 : decode (codeOf 158) 13 = .ok (.ireturn, 1) := by decide +kernel
theorem d_159_0 : decode (codeOf 159) 0 = .ok (.iload_n 0, 1) := by decide +kernel
theorem d_159_1 : decode (codeOf 159) 1 = .ok (.bipush 30, 2) := by decide +kernel
theorem d_159_3 : decode (codeOf 159) 3 = .ok (.iload_n 1, 1) := by decide +kernel
theorem d_159_4 : decode (codeOf 159) 4 = .ok (.imul, 1) := by decide +kernel
theorem d_159_5 : decode (codeOf 159) 5 = .ok (.iadd, 1) := by decide +kernel
theorem d_159_6 : decode (codeOf 159) 6 = .ok (.bipush 6, 2) := by decide +kernel
theorem d_159_8 : decode (codeOf 159) 8 = .ok (.iadd, 1) := by decide +kernel
theorem d_159_9 : decode (codeOf 159) 9 = .ok (.iconst 4, 1) := by decide +kernel
theorem d_159_10 : decode (codeOf 159) 10 = .ok (.iload_n 2, 1) := by decide +kernel
theorem d_159_11 : decode (codeOf 159) 11 = .ok (.imul, 1) := by decide +kernel
theorem d_159_12 : decode (codeOf 159) 12 = .ok (.iadd, 1) := by decide +kernel
theorem d_159_13 : decode (codeOf 159) 13 = .ok (.ireturn, 1) := by decide +kernel
theorem d_160_0 : decode (codeOf 160) 0 = .ok (.aload_n 0, 1) := by decide +kernel
theorem d_160_1 : decode (codeOf 160) 1 = .ok (.getfield 37, 3) := by decide +kernel
theorem d_160_4 : decode (codeOf 160) 4 = .ok (.iload_n 1, 1) := by decide +kernel
theorem d_160_5 : decode (codeOf 160) 5 = .ok (.bipush 30, 2) := by decide +kernel
theorem d_160_7 : decode (codeOf 160) 7 = .ok (.iload_n 2, 1) := by decide +kernel
theorem d_160_8 : decode (codeOf 160) 8 = .ok (.imul, 1) := by decide +kernel
theorem d_160_9 : decode (codeOf 160) 9 = .ok (.iadd, 1) := by decide +kernel
theorem d_160_10 : decode (codeOf 160) 10 = .ok (.iconst 5, 1) := by decide +kernel
theorem d_160_11 : decode (codeOf 160) 11 = .ok (.iadd, 1) := by decide +kernel
theorem d_160_12 : decode (codeOf 160) 12 = .ok (.iaload, 1) := by decide +kernel
theorem d_160_13 : decode (codeOf 160) 13 = .ok (.ireturn, 1) := by decide +kernel
theorem d_161_0 : decode (codeOf 161) 0 = .ok (.aload_n 0, 1) := by decide +kernel
theorem d_161_1 : decode (codeOf 161) 1 = .ok (.iload_n 1, 1) := by decide +kernel
theorem d_161_2 : decode (codeOf 161) 2 = .ok (.invokevirtual 172, 3) := by decide +kernel
theorem d_161_5 : decode (codeOf 161) 5 = .ok (.ifCond .eq 25, 3) := by decide +kernel
theorem d_161_8 : decode (codeOf 161) 8 = .ok (.iload_n 2, 1) := by decide +kernel
theorem d_161_9 : decode (codeOf 161) 9 = .ok (.i2l, 1) := by decide +kernel
theorem d_161_10 : decode (codeOf 161) 10 = .ok (.lconst 0, 1) := by decide +kernel
theorem d_161_11 : decode (codeOf 161) 11 = .ok (.aload_n 0, 1) := by decide +kernel
theorem d_161_12 : decode (codeOf 161) 12 = .ok (.iconst 0, 1) := by decide +kernel
theorem d_161_13 : decode (codeOf 161) 13 = .ok (.iload_n 1, 1) := by decide +kernel
theorem d_161_14 : decode (codeOf 161) 14 = .ok (.invokevirtual 176, 3) := by decide +kernel
theorem d_161_17 : decode (codeOf 161) 17 = .ok (.iconst 1, 1) := by decide +kernel
theorem d_161_18 : decode (codeOf 161) 18 = .ok (.isub, 1) := by decide +kernel
theorem d_161_19 : decode (codeOf 161) 19 = .ok (.i2l, 1) := by decide +kernel
theorem d_161_20 : decode (codeOf 161) 20 = .ok (.invokestatic 106, 3) := by decide +kernel
theorem d_161_23 : decode (codeOf 161) 23 = .ok (.ifCond .eq 7, 3) := by decide +kernel
theorem d_161_26 : decode (codeOf 161) 26 = .ok (.iconst 1, 1) := by decide +kernel
theorem d_161_27 : decode (codeOf 161) 27 = .ok (.goto 4, 3) := by decide +kernel
theorem d_161_30 : decode (codeOf 161) 30 = .ok (.iconst 0, 1) := by decide +kernel
theorem d_161_31 : decode (codeOf 161) 31 = .ok (.ireturn, 1) := by decide +kernel
theorem d_162_0 : decode (codeOf 162) 0 = .ok (.iload_n 1, 1) := by decide +kernel
theorem d_162_1 : decode (codeOf 162) 1 = .ok (.i2l, 1) := by decide +kernel
theorem d_162_2 : decode (codeOf 162) 2 = .ok (.lconst 0, 1) := by decide +kernel
theorem d_162_3 : decode (codeOf 162) 3 = .ok (.lconst 1, 1) := by decide +kernel
theorem d_162_4 : decode (codeOf 162) 4 = .ok (.invokestatic 106, 3) := by decide +kernel
theorem d_162_7 : decode (codeOf 162) 7 = .ok (.ifCond .ne 39, 3) := by decide +kernel
theorem d_162_10 : decode (codeOf 162) 10 = .ok (.iload_n 1, 1) := by decide +kernel
theorem d_162_11 : decode (codeOf 162) 11 = .ok (.i2l, 1) := by decide +kernel
theorem d_162_12 : decode (codeOf 162) 12 = .ok (.ldc2_w 128, 3) := by decide +kernel
theorem d_162_15 : decode (codeOf 162) 15 = .ok (.iconst 1, 1) := by decide +kernel
theorem d_162_16 : decode (codeOf 162) 16 = .ok (.aload_n 0, 1) := by decide +kernel
theorem d_162_17 : decode (codeOf 162) 17 = .ok (.getfield 90, 3) := by decide +kernel
theorem d_162_20 : decode (codeOf 162) 20 = .ok (.iadd, 1) := by decide +kernel
theorem d_162_21 : decode (codeOf 162) 21 = .ok (.i2l, 1) := by decide +kernel
theorem d_162_22 : decode (codeOf 162) 22 = .ok (.invokestatic 106, 3) := by decide +kernel
theorem d_162_25 : decode (codeOf 162) 25 = .ok (.ifCond .ne 21, 3) := by decide +kernel
theorem d_162_28 : decode (codeOf 162) 28 = .ok (.iload_n 1, 1) := by decide +kernel
theorem d_162_29 : decode (codeOf 162) 29 = .ok (.i2l, 1) := by decide +kernel
theorem d_162_30 : decode (codeOf 162) 30 = .ok (.ldc2_w 179, 3) := by decide +kernel
theorem d_162_33 : decode (codeOf 162) 33 = .ok (.iconst 5, 1) := by decide +kernel
theorem d_162_34 : decode (codeOf 162) 34 = .ok (.aload_n 0, 1) := by decide +kernel
theorem d_162_35 : decode (codeOf 162) 35 = .ok (.getfield 93, 3) := by decide +kernel
theorem d_162_38 : decode (codeOf 162) 38 = .ok (.iadd, 1) := by decide +kernel
theorem d_162_39 : decode (codeOf 162) 39 = .ok (.i2l, 1) := by decide +kernel
theorem d_162_40 : decode (codeOf 162) 40 = .ok (.invokestatic 106, 3) := by decide +kernel
theorem d_162_43 : decode (codeOf 162) 43 = .ok (.ifCond .eq 7, 3) := by decide +kernel
theorem d_162_46 : decode (codeOf 162) 46 = .ok (.iconst 1, 1) := by decide +kernel
theorem d_162_47 : decode (codeOf 162) 47 = .ok (.goto 4, 3) := by decide +kernel
theorem d_162_50 : decode (codeOf 162) 50 = .ok (.iconst 0, 1) := by decide +kernel
theorem d_162_51 : decode (codeOf 162) 51 = .ok (.ireturn, 1) := by decide +kernel
theorem d_163_0 : decode (codeOf 163) 0 = .ok (.iload_n 1, 1) := by decide +kernel
theorem d_163_1 : decode (codeOf 163) 1 = .ok (.i2l, 1) := by decide +kernel
theorem d_163_2 : decode (codeOf 163) 2 = .ok (.lconst 0, 1) := by decide +kernel
theorem d_163_3 : decode (codeOf 163) 3 = .ok (.aload_n 0, 1) := by decide +kernel
theorem d_163_4 : decode (codeOf 163) 4 = .ok (.getfield 90, 3) := by decide +kernel
theorem d_163_7 : decode (codeOf 163) 7 = .ok (.iconst 1, 1) := by decide +kernel
theorem d_163_8 : decode (codeOf 163) 8 = .ok (.isub, 1) := by decide +kernel
theorem d_163_9 : decode (codeOf 163) 9 = .ok (.i2l, 1) := by decide +kernel
theorem d_163_10 : decode (codeOf 163) 10 = .ok (.invokestatic 106, 3) := by decide +kernel
theorem d_163_13 : decode (codeOf 163) 13 = .ok (.ifCond .eq 23, 3) := by decide +kernel
theorem d_163_16 : decode (codeOf 163) 16 = .ok (.iload_n 2, 1) := by decide +kernel
theorem d_163_17 : decode (codeOf 163) 17 = .ok (.i2l, 1) := by decide +kernel
theorem d_163_18 : decode (codeOf 163) 18 = .ok (.ldc2_w 181, 3) := by decide +kernel
theorem d_163_21 : decode (codeOf 163) 21 = .ok (.aload_n 0, 1) := by decide +kernel
theorem d_163_22 : decode (codeOf 163) 22 = .ok (.getfield 7, 3) := by decide +kernel
theorem d_163_25 : decode (codeOf 163) 25 = .ok (.iload_n 1, 1) := by decide +kernel
theorem d_163_26 : decode (codeOf 163) 26 = .ok (.iaload, 1) := by decide +kernel
theorem d_163_27 : decode (codeOf 163) 27 = .ok (.iconst 1, 1) := by decide +kernel
theorem d_163_28 : decode (codeOf 163) 28 = .ok (.isub, 1) := by decide +kernel
theorem d_163_29 : decode (codeOf 163) 29 = .ok (.i2l, 1) := by decide +kernel
theorem d_163_30 : decode (codeOf 163) 30 = .ok (.invokestatic 106, 3) := by decide +kernel
theorem d_163_33 : decode (codeOf 163) 33 = .ok (.ifCond .ne 5, 3) := by decide +kernel
theorem d_163_36 : decode (codeOf 163) 36 = .ok (.iconst (-1), 1) := by decide +kernel
theorem d_163_37 : decode (codeOf 163) 37 = .ok (.ireturn, 1) := by decide +kernel
theorem d_163_38 : decode (codeOf 163) 38 = .ok (.iload_n 2, 1) := by decide +kernel
theorem d_163_39 : decode (codeOf 163) 39 = .ok (.ifCond .ge 12, 3) := by decide +kernel
theorem d_163_42 : decode (codeOf 163) 42 = .ok (.aload_n 0, 1) := by decide +kernel
theorem d_163_43 : decode (codeOf 163) 43 = .ok (.getfield 7, 3) := by decide +kernel
theorem d_163_46 : decode (codeOf 163) 46 = .ok (.iload_n 1, 1) := by decide +kernel
theorem d_163_47 : decode (codeOf 163) 47 = .ok (.iaload, 1) := by decide +kernel
theorem d_163_48 : decode (codeOf 163) 48 = .ok (.goto 13, 3) := by decide +kernel
theorem d_163_51 : decode (codeOf 163) 51 = .ok (.aload_n 0, 1) := by decide +kernel
theorem d_163_52 : decode (codeOf 163) 52 = .ok (.getfield 13, 3) := by decide +kernel
theorem d_163_55 : decode (codeOf 163) 55 = .ok (.iconst 3, 1) := by decide +kernel
theorem d_163_56 : decode (codeOf 163) 56 = .ok (.iload_n 1, 1) := by decide +kernel
theorem d_163_57 : decode (codeOf 163) 57 = .ok (.imul, 1) := by decide +kernel
theorem d_163_58 : decode (codeOf 163) 58 = .ok (.iload_n 2, 1) := by decide +kernel
theorem d_163_59 : decode (codeOf 163) 59 = .ok (.iadd, 1) := by decide +kernel
theorem d_163_60 : decode (codeOf 163) 60 = .ok (.iaload, 1) := by decide +kernel
theorem d_163_61 : decode (codeOf 163) 61 = .ok (.ireturn, 1) := by decide +kernel
theorem d_164_0 : decode (codeOf 164) 0 = .ok (.aload_n 0, 1) := by decide +kernel
theorem d_164_1 : decode (codeOf 164) 1 = .ok (.iload_n 1, 1) := by decide +kernel
theorem d_164_2 : decode (codeOf 164) 2 = .ok (.invokevirtual 172, 3) := by decide +kernel
theorem d_164_5 : decode (codeOf 164) 5 = .ok (.ifCond .eq 41, 3) := by decide +kernel
theorem d_164_8 : decode (codeOf 164) 8 = .ok (.iload_n 2, 1) := by decide +kernel
theorem d_164_9 : decode (codeOf 164) 9 = .ok (.i2l, 1) := by decide +kernel
theorem d_164_10 : decode (codeOf 164) 10 = .ok (.lconst 0, 1) := by decide +kernel
theorem d_164_11 : decode (codeOf 164) 11 = .ok (.ldc2_w 183, 3) := by decide +kernel
theorem d_164_14 : decode (codeOf 164) 14 = .ok (.invokestatic 106, 3) := by decide +kernel
theorem d_164_17 : decode (codeOf 164) 17 = .ok (.ifCond .eq 29, 3) := by decide +kernel
theorem d_164_20 : decode (codeOf 164) 20 = .ok (.iload_n 2, 1) := by decide +kernel
theorem d_164_21 : decode (codeOf 164) 21 = .ok (.i2l, 1) := by decide +kernel
theorem d_164_22 : decode (codeOf 164) 22 = .ok (.ldc2_w 134, 3) := by decide +kernel
theorem d_164_25 : decode (codeOf 164) 25 = .ok (.ldc2_w 185, 3) := by decide +kernel
theorem d_164_28 : decode (codeOf 164) 28 = .ok (.invokestatic 106, 3) := by decide +kernel
theorem d_164_31 : decode (codeOf 164) 31 = .ok (.ifCond .eq 17, 3) := by decide +kernel
theorem d_164_34 : decode (codeOf 164) 34 = .ok (.iload_n 2, 1) := by decide +kernel
theorem d_164_35 : decode (codeOf 164) 35 = .ok (.iconst 5, 1) := by decide +kernel
theorem d_164_36 : decode (codeOf 164) 36 = .ok (.isub, 1) := by decide +kernel
theorem d_164_37 : decode (codeOf 164) 37 = .ok (.aload_n 0, 1) := by decide +kernel
theorem d_164_38 : decode (codeOf 164) 38 = .ok (.getfield 16, 3) := by decide +kernel
theorem d_164_41 : decode (codeOf 164) 41 = .ok (.iload_n 1, 1) := by decide +kernel
theorem d_164_42 : decode (codeOf 164) 42 = .ok (.iaload, 1) := by decide +kernel
theorem d_164_43 : decode (codeOf 164) 43 = .ok (.if_icmp .lt 5, 3) := by decide +kernel
theorem d_164_46 : decode (codeOf 164) 46 = .ok (.iconst (-1), 1) := by decide +kernel
theorem d_164_47 : decode (codeOf 164) 47 = .ok (.ireturn, 1) := by decide +kernel
theorem d_164_48 : decode (codeOf 164) 48 = .ok (.iload_n 2, 1) := by decide +kernel
theorem d_164_49 : decode (codeOf 164) 49 = .ok (.iconst 4, 1) := by decide +kernel
theorem d_164_50 : decode (codeOf 164) 50 = .ok (.if_icmp .ge 17, 3) := by decide +kernel
theorem d_164_53 : decode (codeOf 164) 53 = .ok (.aload_n 0, 1) := by decide +kernel
theorem d_164_54 : decode (codeOf 164) 54 = .ok (.getfield 37, 3) := by decide +kernel
theorem d_164_57 : decode (codeOf 164) 57 = .ok (.bipush 30, 2) := by decide +kernel
theorem d_164_59 : decode (codeOf 164) 59 = .ok (.iload_n 1, 1) := by decide +kernel
theorem d_164_60 : decode (codeOf 164) 60 = .ok (.imul, 1) := by decide +kernel
theorem d_164_61 : decode (codeOf 164) 61 = .ok (.iload_n 2, 1) := by decide +kernel
theorem d_164_62 : decode (codeOf 164) 62 = .ok (.iadd, 1) := by decide +kernel
theorem d_164_63 : decode (codeOf 164) 63 = .ok (.iaload, 1) := by decide +kernel
theorem d_164_64 : decode (codeOf 164) 64 = .ok (.goto 64, 3) := by decide +kernel
theorem d_164_67 : decode (codeOf 164) 67 = .ok (.iload_n 2, 1) := by decide +kernel
theorem d_164_68 : decode (codeOf 164) 68 = .ok (.iconst 4, 1) := by decide +kernel
theorem d_164_69 : decode (codeOf 164) 69 = .ok (.if_icmp .ne 12, 3) := by decide +kernel
theorem d_164_72 : decode (codeOf 164) 72 = .ok (.aload_n 0, 1) := by decide +kernel
theorem d_164_73 : decode (codeOf 164) 73 = .ok (.getfield 16, 3) := by decide +kernel
theorem d_164_76 : decode (codeOf 164) 76 = .ok (.iload_n 1, 1) := by decide +kernel
theorem d_164_77 : decode (codeOf 164) 77 = .ok (.iaload, 1) := by decide +kernel
theorem d_164_78 : decode (codeOf 164) 78 = .ok (.goto 50, 3) := by decide +kernel
theorem d_164_81 : decode (codeOf 164) 81 = .ok (.iload_n 2, 1) := by decide +kernel
theorem d_164_82 : decode (codeOf 164) 82 = .ok (.bipush 8, 2) := by decide +kernel
theorem d_164_84 : decode (codeOf 164) 84 = .ok (.if_icmp .ge 18, 3) := by decide +kernel
theorem d_164_87 : decode (codeOf 164) 87 = .ok (.aload_n 0, 1) := by decide +kernel
theorem d_164_88 : decode (codeOf 164) 88 = .ok (.getfield 19, 3) := by decide +kernel
theorem d_164_91 : decode (codeOf 164) 91 = .ok (.iconst 3, 1) := by decide +kernel
theorem d_164_92 : decode (codeOf 164) 92 = .ok (.iload_n 1, 1) := by decide +kernel
theorem d_164_93 : decode (codeOf 164) 93 = .ok (.imul, 1) := by decide +kernel
theorem d_164_94 : decode (codeOf 164) 94 = .ok (.iload_n 2, 1) := by decide +kernel
theorem d_164_95 : decode (codeOf 164) 95 = .ok (.iadd, 1) := by decide +kernel
theorem d_164_96 : decode (codeOf 164) 96 = .ok (.iconst 5, 1) := by decide +kernel
theorem d_164_97 : decode (codeOf 164) 97 = .ok (.isub, 1) := by decide +kernel
theorem d_164_98 : decode (codeOf 164) 98 = .ok (.iaload, 1) := by decide +kernel
theorem d_164_99 : decode (codeOf 164) 99 = .ok (.goto 29, 3) := by decide +kernel
theorem d_164_102 : decode (codeOf 164) 102 = .ok (.iload_n 2, 1) := by decide +kernel
theorem d_164_103 : decode (codeOf 164) 103 = .ok (.bipush 8, 2) := by decide +kernel
theorem d_164_105 : decode (codeOf 164) 105 = .ok (.if_icmp .ne 17, 3) := by decide +kernel
theorem d_164_108 : decode (codeOf 164) 108 = .ok (.aload_n 0, 1) := by decide +kernel
theorem d_164_109 : decode (codeOf 164) 109 = .ok (.getfield 37, 3) := by decide +kernel
theorem d_164_112 : decode (codeOf 164) 112 = .ok (.bipush 30, 2) := by decide +kernel
theorem d_164_114 : decode (codeOf 164) 114 = .ok (.iload_n 1, 1) := by decide +kernel
theorem d_164_115 : decode (codeOf 164) 115 = .ok (.imul, 1) := by decide +kernel
theorem d_164_116 : decode (codeOf 164) 116 = .ok (.iconst 4, 1) := by decide +kernel
theorem d_164_117 : decode (codeOf 164) 117 = .ok (.iadd, 1) := by decide +kernel
theorem d_164_118 : decode (codeOf 164) 118 = .ok (.iaload, 1) := by decide +kernel
theorem d_164_119 : decode (codeOf 164) 119 = .ok (.goto 9, 3) := by decide +kernel
theorem d_164_122 : decode (codeOf 164) 122 = .ok (.aload_n 0, 1) := by decide +kernel
theorem d_164_123 : decode (codeOf 164) 123 = .ok (.iconst 0, 1) := by decide +kernel
theorem d_164_124 : decode (codeOf 164) 124 = .ok (.iload_n 1, 1) := by decide +kernel
theorem d_164_125 : decode (codeOf 164) 125 = .ok (.invokevirtual 176, 3) := by decide +kernel
theorem d_164_128 : decode (codeOf 164) 128 = .ok (.ireturn, 1) := by decide +kernel
theorem d_165_0 : decode (codeOf 165) 0 = .ok (.aload_n 0, 1) := by decide +kernel
theorem d_165_1 : decode (codeOf 165) 1 = .ok (.iload_n 1, 1) := by decide +kernel
theorem d_165_2 : decode (codeOf 165) 2 = .ok (.iload_n 2, 1) := by decide +kernel
theorem d_165_3 : decode (codeOf 165) 3 = .ok (.invokevirtual 187, 3) := by decide +kernel
theorem d_165_6 : decode (codeOf 165) 6 = .ok (.ifCond .eq 31, 3) := by decide +kernel
theorem d_165_9 : decode (codeOf 165) 9 = .ok (.iload_n 3, 1) := by decide +kernel
theorem d_165_10 : decode (codeOf 165) 10 = .ok (.i2l, 1) := by decide +kernel
theorem d_165_11 : decode (codeOf 165) 11 = .ok (.lconst 0, 1) := by decide +kernel
theorem d_165_12 : decode (codeOf 165) 12 = .ok (.ldc2_w 191, 3) := by decide +kernel
theorem d_165_15 : decode (codeOf 165) 15 = .ok (.invokestatic 106, 3) := by decide +kernel
theorem d_165_18 : decode (codeOf 165) 18 = .ok (.ifCond .eq 19, 3) := by decide +kernel
theorem d_165_21 : decode (codeOf 165) 21 = .ok (.aload_n 0, 1) := by decide +kernel
theorem d_165_22 : decode (codeOf 165) 22 = .ok (.getfield 37, 3) := by decide +kernel
theorem d_165_25 : decode (codeOf 165) 25 = .ok (.iconst 0, 1) := by decide +kernel
theorem d_165_26 : decode (codeOf 165) 26 = .ok (.iload_n 1, 1) := by decide +kernel
theorem d_165_27 : decode (codeOf 165) 27 = .ok (.iload_n 2, 1) := by decide +kernel
theorem d_165_28 : decode (codeOf 165) 28 = .ok (.invokestatic 193, 3) := by decide +kernel
theorem d_165_31 : decode (codeOf 165) 31 = .ok (.iload_n 3, 1) := by decide +kernel
theorem d_165_32 : decode (codeOf 165) 32 = .ok (.iadd, 1) := by decide +kernel
theorem d_165_33 : decode (codeOf 165) 33 = .ok (.iaload, 1) := by decide +kernel
theorem d_165_34 : decode (codeOf 165) 34 = .ok (.goto 4, 3) := by decide +kernel
theorem d_165_37 : decode (codeOf 165) 37 = .ok (.iconst (-1), 1) := by decide +kernel
theorem d_165_38 : decode (codeOf 165) 38 = .ok (.ireturn, 1) := by decide +kernel
theorem d_166_0 : decode (codeOf 166) 0 = .ok (.iconst 0, 1) := by decide +kernel
theorem d_166_1 : decode (codeOf 166) 1 = .ok (.istore_n 3, 1) := by decide +kernel
theorem d_166_2 : decode (codeOf 166) 2 = .ok (.iload_n 3, 1) := by decide +kernel
theorem d_166_3 : decode (codeOf 166) 3 = .ok (.bipush 120, 2) := by decide +kernel
theorem d_166_5 : decode (codeOf 166) 5 = .ok (.if_icmp .ge 25, 3) := by decide +kernel
theorem d_166_8 : decode (codeOf 166) 8 = .ok (.aload_n 0, 1) := by decide +kernel
theorem d_166_9 : decode (codeOf 166) 9 = .ok (.getfield 37, 3) := by decide +kernel
theorem d_166_12 : decode (codeOf 166) 12 = .ok (.iload_n 2, 1) := by decide +kernel
theorem d_166_13 : decode (codeOf 166) 13 = .ok (.iload_n 3, 1) := by decide +kernel
theorem d_166_14 : decode (codeOf 166) 14 = .ok (.iadd, 1) := by decide +kernel
theorem d_166_15 : decode (codeOf 166) 15 = .ok (.aload_n 0, 1) := by decide +kernel
theorem d_166_16 : decode (codeOf 166) 16 = .ok (.getfield 37, 3) := by decide +kernel
theorem d_166_19 : decode (codeOf 166) 19 = .ok (.iload_n 1, 1) := by decide +kernel
theorem d_166_20 : decode (codeOf 166) 20 = .ok (.iload_n 3, 1) := by decide +kernel
theorem d_166_21 : decode (codeOf 166) 21 = .ok (.iadd, 1) := by decide +kernel
theorem d_166_22 : decode (codeOf 166) 22 = .ok (.iaload, 1) := by decide +kernel
theorem d_166_23 : decode (codeOf 166) 23 = .ok (.iastore, 1) := by decide +kernel
theorem d_166_24 : decode (codeOf 166) 24 = .ok (.iinc 3 1, 3) := by decide +kernel
theorem d_166_27 : decode (codeOf 166) 27 = .ok (.goto (-25), 3) := by decide +kernel
theorem d_166_30 : decode (codeOf 166) 30 = .ok (.return_, 1) := by decide +kernel
theorem d_167_0 : decode (codeOf 167) 0 = .ok (.aload_n 0, 1) := by decide +kernel
theorem d_167_1 : decode (codeOf 167) 1 = .ok (.getfield 96, 3) := by decide +kernel
theorem d_167_4 : decode (codeOf 167) 4 = .ok (.bipush 8, 2) := by decide +kernel
theorem d_167_6 : decode (codeOf 167) 6 = .ok (.if_icmp .ne 40, 3) := by decide +kernel
theorem d_167_9 : decode (codeOf 167) 9 = .ok (.bipush 120, 2) := by decide +kernel
theorem d_167_11 : decode (codeOf 167) 11 = .ok (.istore_n 1, 1) := by decide +kernel
theorem d_167_12 : decode (codeOf 167) 12 = .ok (.iload_n 1, 1) := by decide +kernel
theorem d_167_13 : decode (codeOf 167) 13 = .ok (.sipush 960, 3) := by decide +kernel
theorem d_167_16 : decode (codeOf 167) 16 = .ok (.if_icmp .ge 24, 3) := by decide +kernel
theorem d_167_19 : decode (codeOf 167) 19 = .ok (.aload_n 0, 1) := by decide +kernel
theorem d_167_20 : decode (codeOf 167) 20 = .ok (.getfield 37, 3) := by decide +kernel
theorem d_167_23 : decode (codeOf 167) 23 = .ok (.iload_n 1, 1) := by decide +kernel
theorem d_167_24 : decode (codeOf 167) 24 = .ok (.aload_n 0, 1) := by decide +kernel
theorem d_167_25 : decode (codeOf 167) 25 = .ok (.getfield 37, 3) := by decide +kernel
theorem d_167_28 : decode (codeOf 167) 28 = .ok (.iload_n 1, 1) := by decide +kernel
theorem d_167_29 : decode (codeOf 167) 29 = .ok (.bipush 120, 2) := by decide +kernel
theorem d_167_31 : decode (codeOf 167) 31 = .ok (.iadd, 1) := by decide +kernel
theorem d_167_32 : decode (codeOf 167) 32 = .ok (.iaload, 1) := by decide +kernel
theorem d_167_33 : decode (codeOf 167) 33 = .ok (.iastore, 1) := by decide +kernel
theorem d_167_34 : decode (codeOf 167) 34 = .ok (.iinc 1 1, 3) := by decide +kernel
theorem d_167_37 : decode (codeOf 167) 37 = .ok (.goto (-25), 3) := by decide +kernel
theorem d_167_40 : decode (codeOf 167) 40 = .ok (.aload_n 0, 1) := by decide +kernel
theorem d_167_41 : decode (codeOf 167) 41 = .ok (.bipush 7, 2) := by decide +kernel
theorem d_167_43 : decode (codeOf 167) 43 = .ok (.putfield 96, 3) := by decide +kernel
theorem d_167_46 : decode (codeOf 167) 46 = .ok (.aload_n 0, 1) := by decide +kernel
theorem d_167_47 : decode (codeOf 167) 47 = .ok (.dup, 1) := by decide +kernel
theorem d_167_48 : decode (codeOf 167) 48 = .ok (.getfield 96, 3) := by decide +kernel
theorem d_167_51 : decode (codeOf 167) 51 = .ok (.iconst 1, 1) := by decide +kernel
theorem d_167_52 : decode (codeOf 167) 52 = .ok (.iadd, 1) := by decide +kernel
theorem d_167_53 : decode (codeOf 167) 53 = .ok (.putfield 96, 3) := by decide +kernel
theorem d_167_56 : decode (codeOf 167) 56 = .ok (.aload_n 0, 1) := by decide +kernel
theorem d_167_57 : decode (codeOf 167) 57 = .ok (.iconst 0, 1) := by decide +kernel
theorem d_167_58 : decode (codeOf 167) 58 = .ok (.aload_n 0, 1) := by decide +kernel
theorem d_167_59 : decode (codeOf 167) 59 = .ok (.getfield 96, 3) := by decide +kernel
theorem d_167_62 : decode (codeOf 167) 62 = .ok (.bipush 120, 2) := by decide +kernel
theorem d_167_64 : decode (codeOf 167) 64 = .ok (.imul, 1) := by decide +kernel
theorem d_167_65 : decode (codeOf 167) 65 = .ok (.invokevirtual 196, 3) := by decide +kernel
theorem d_167_68 : decode (codeOf 167) 68 = .ok (.return_, 1) := by decide +kernel
theorem d_168_0 : decode (codeOf 168) 0 = .ok (.iload_n 1, 1) := by decide +kernel
theorem d_168_1 : decode (codeOf 168) 1 = .ok (.iload_n 2, 1) := by decide +kernel
theorem d_168_2 : decode (codeOf 168) 2 = .ok (.iload_n 3, 1) := by decide +kernel
theorem d_168_3 : decode (codeOf 168) 3 = .ok (.invokestatic 193, 3) := by decide +kernel
theorem d_168_6 : decode (codeOf 168) 6 = .ok (.istore 8, 2) := by decide +kernel
theorem d_168_8 : decode (codeOf 168) 8 = .ok (.aload_n 0, 1) := by decide +kernel
theorem d_168_9 : decode (codeOf 168) 9 = .ok (.getfield 37, 3) := by decide +kernel
theorem d_168_12 : decode (codeOf 168) 12 = .ok (.iload 8, 2) := by decide +kernel
theorem d_168_14 : decode (codeOf 168) 14 = .ok (.iload 4, 2) := by decide +kernel
theorem d_168_16 : decode (codeOf 168) 16 = .ok (.iastore, 1) := by decide +kernel
theorem d_168_17 : decode (codeOf 168) 17 = .ok (.aload_n 0, 1) := by decide +kernel
theorem d_168_18 : decode (codeOf 168) 18 = .ok (.getfield 37, 3) := by decide +kernel
theorem d_168_21 : decode (codeOf 168) 21 = .ok (.iload 8, 2) := by decide +kernel
theorem d_168_23 : decode (codeOf 168) 23 = .ok (.iconst 1, 1) := by decide +kernel
theorem d_168_24 : decode (codeOf 168) 24 = .ok (.iadd, 1) := by decide +kernel
theorem d_168_25 : decode (codeOf 168) 25 = .ok (.iload 5, 2) := by decide +kernel
theorem d_168_27 : decode (codeOf 168) 27 = .ok (.iastore, 1) := by decide +kernel
theorem d_168_28 : decode (codeOf 168) 28 = .ok (.aload_n 0, 1) := by decide +kernel
theorem d_168_29 : decode (codeOf 168) 29 = .ok (.getfield 37, 3) := by decide +kernel
theorem d_168_32 : decode (codeOf 168) 32 = .ok (.iload 8, 2) := by decide +kernel
theorem d_168_34 : decode (codeOf 168) 34 = .ok (.iconst 2, 1) := by decide +kernel
theorem d_168_35 : decode (codeOf 168) 35 = .ok (.iadd, 1) := by decide +kernel
theorem d_168_36 : decode (codeOf 168) 36 = .ok (.iload 6, 2) := by decide +kernel
theorem d_168_38 : decode (codeOf 168) 38 = .ok (.iastore, 1) := by decide +kernel
theorem d_168_39 : decode (codeOf 168) 39 = .ok (.aload_n 0, 1) := by decide +kernel
theorem d_168_40 : decode (codeOf 168) 40 = .ok (.getfield 37, 3) := by decide +kernel
theorem d_168_43 : decode (codeOf 168) 43 = .ok (.iload 8, 2) := by decide +kernel
theorem d_168_45 : decode (codeOf 168) 45 = .ok (.iconst 3, 1) := by decide +kernel
theorem d_168_46 : decode (codeOf 168) 46 = .ok (.iadd, 1) := by decide +kernel
theorem d_168_47 : decode (codeOf 168) 47 = .ok (.iload 7, 2) := by decide +kernel
theorem d_168_49 : decode (codeOf 168) 49 = .ok (.iastore, 1) := by decide +kernel
theorem d_168_50 : decode (codeOf 168) 50 = .ok (.return_, 1) := by decide +kernel
theorem d_169_0 : decode (codeOf 169) 0 = .ok (.aload_n 0, 1) := by decide +kernel
theorem d_169_1 : decode (codeOf 169) 1 = .ok (.iload_n 1, 1) := by decide +kernel
theorem d_169_2 : decode (codeOf 169) 2 = .ok (.iload_n 2, 1) := by decide +kernel
theorem d_169_3 : decode (codeOf 169) 3 = .ok (.invokevirtual 187, 3) := by decide +kernel
theorem d_169_6 : decode (codeOf 169) 6 = .ok (.ifCond .eq 24, 3) := by decide +kernel
theorem d_169_9 : decode (codeOf 169) 9 = .ok (.iload_n 3, 1) := by decide +kernel
theorem d_169_10 : decode (codeOf 169) 10 = .ok (.iload 4, 2) := by decide +kernel
theorem d_169_12 : decode (codeOf 169) 12 = .ok (.iload 5, 2) := by decide +kernel
theorem d_169_14 : decode (codeOf 169) 14 = .ok (.iload 6, 2) := by decide +kernel
theorem d_169_16 : decode (codeOf 169) 16 = .ok (.aload_n 0, 1) := by decide +kernel
theorem d_169_17 : decode (codeOf 169) 17 = .ok (.getfield 90, 3) := by decide +kernel
theorem d_169_20 : decode (codeOf 169) 20 = .ok (.aload_n 0, 1) := by decide +kernel
theorem d_169_21 : decode (codeOf 169) 21 = .ok (.getfield 93, 3) := by decide +kernel
theorem d_169_24 : decode (codeOf 169) 24 = .ok (.invokestatic 147, 3) := by decide +kernel
theorem d_169_27 : decode (codeOf 169) 27 = .ok (.ifCond .ne 5, 3) := by decide +kernel
theorem d_169_30 : decode (codeOf 169) 30 = .ok (.iconst (-1), 1) := by decide +kernel
theorem d_169_31 : decode (codeOf 169) 31 = .ok (.ireturn, 1) := by decide +kernel
theorem d_169_32 : decode (codeOf 169) 32 = .ok (.iconst 0, 1) := by decide +kernel
theorem d_169_33 : decode (codeOf 169) 33 = .ok (.iload_n 1, 1) := by decide +kernel
theorem d_169_34 : decode (codeOf 169) 34 = .ok (.iload_n 2, 1) := by decide +kernel
theorem d_169_35 : decode (codeOf 169) 35 = .ok (.invokestatic 193, 3) := by decide +kernel
theorem d_169_38 : decode (codeOf 169) 38 = .ok (.istore 7, 2) := by decide +kernel
theorem d_169_40 : decode (codeOf 169) 40 = .ok (.aload_n 0, 1) := by decide +kernel
theorem d_169_41 : decode (codeOf 169) 41 = .ok (.getfield 37, 3) := by decide +kernel
theorem d_169_44 : decode (codeOf 169) 44 = .ok (.iload 7, 2) := by decide +kernel
theorem d_169_46 : decode (codeOf 169) 46 = .ok (.iaload, 1) := by decide +kernel
theorem d_169_47 : decode (codeOf 169) 47 = .ok (.iload_n 3, 1) := by decide +kernel
theorem d_169_48 : decode (codeOf 169) 48 = .ok (.if_icmp .ne 48, 3) := by decide +kernel
theorem d_169_51 : decode (codeOf 169) 51 = .ok (.aload_n 0, 1) := by decide +kernel
theorem d_169_52 : decode (codeOf 169) 52 = .ok (.getfield 37, 3) := by decide +kernel
theorem d_169_55 : decode (codeOf 169) 55 = .ok (.iload 7, 2) := by decide +kernel
theorem d_169_57 : decode (codeOf 169) 57 = .ok (.iconst 1, 1) := by decide +kernel
theorem d_169_58 : decode (codeOf 169) 58 = .ok (.iadd, 1) := by decide +kernel
theorem d_169_59 : decode (codeOf 169) 59 = .ok (.iaload, 1) := by decide +kernel
theorem d_169_60 : decode (codeOf 169) 60 = .ok (.iload 4, 2) := by decide +kernel
theorem d_169_62 : decode (codeOf 169) 62 = .ok (.if_icmp .ne 34, 3) := by decide +kernel
theorem d_169_65 : decode (codeOf 169) 65 = .ok (.aload_n 0, 1) := by decide +kernel
theorem d_169_66 : decode (codeOf 169) 66 = .ok (.getfield 37, 3) := by decide +kernel
theorem d_169_69 : decode (codeOf 169) 69 = .ok (.iload 7, 2) := by decide +kernel
theorem d_169_71 : decode (codeOf 169) 71 = .ok (.iconst 2, 1) := by decide +kernel
theorem d_169_72 : decode (codeOf 169) 72 = .ok (.iadd, 1) := by decide +kernel
theorem d_169_73 : decode (codeOf 169) 73 = .ok (.iaload, 1) := by decide +kernel
theorem d_169_74 : decode (codeOf 169) 74 = .ok (.iload 5, 2) := by decide +kernel
theorem d_169_76 : decode (codeOf 169) 76 = .ok (.if_icmp .ne 20, 3) := by decide +kernel
theorem d_169_79 : decode (codeOf 169) 79 = .ok (.aload_n 0, 1) := by decide +kernel
theorem d_169_80 : decode (codeOf 169) 80 = .ok (.getfield 37, 3) := by decide +kernel
theorem d_169_83 : decode (codeOf 169) 83 = .ok (.iload 7, 2) := by decide +kernel
theorem d_169_85 : decode (codeOf 169) 85 = .ok (.iconst 3, 1) := by decide +kernel
theorem d_169_86 : decode (codeOf 169) 86 = .ok (.iadd, 1) := by decide +kernel
theorem d_169_87 : decode (codeOf 169) 87 = .ok (.iaload, 1) := by decide +kernel
theorem d_169_88 : decode (codeOf 169) 88 = .ok (.iload 6, 2) := by decide +kernel
theorem d_169_90 : decode (codeOf 169) 90 = .ok (.if_icmp .ne 6, 3) := by decide +kernel
theorem d_169_93 : decode (codeOf 169) 93 = .ok (.bipush (-2), 2) := by decide +kernel
theorem d_169_95 : decode (codeOf 169) 95 = .ok (.ireturn, 1) := by decide +kernel
theorem d_169_96 : decode (codeOf 169) 96 = .ok (.aload_n 0, 1) := by decide +kernel
theorem d_169_97 : decode (codeOf 169) 97 = .ok (.invokevirtual 199, 3) := by decide +kernel
theorem d_169_100 : decode (codeOf 169) 100 = .ok (.aload_n 0, 1) := by decide +kernel
theorem d_169_101 : decode (codeOf 169) 101 = .ok (.getfield 37, 3) := by decide +kernel
theorem d_169_104 : decode (codeOf 169) 104 = .ok (.iload 7, 2) := by decide +kernel
theorem d_169_106 : decode (codeOf 169) 106 = .ok (.iaload, 1) := by decide +kernel
theorem d_169_107 : decode (codeOf 169) 107 = .ok (.istore 8, 2) := by decide +kernel
theorem d_169_109 : decode (codeOf 169) 109 = .ok (.aload_n 0, 1) := by decide +kernel
theorem d_169_110 : decode (codeOf 169) 110 = .ok (.iconst 0, 1) := by decide +kernel
theorem d_169_111 : decode (codeOf 169) 111 = .ok (.iload_n 1, 1) := by decide +kernel
theorem d_169_112 : decode (codeOf 169) 112 = .ok (.iload_n 2, 1) := by decide +kernel
theorem d_169_113 : decode (codeOf 169) 113 = .ok (.iload_n 3, 1) := by decide +kernel
theorem d_169_114 : decode (codeOf 169) 114 = .ok (.iload 4, 2) := by decide +kernel
theorem d_169_116 : decode (codeOf 169) 116 = .ok (.iload 5, 2) := by decide +kernel
theorem d_169_118 : decode (codeOf 169) 118 = .ok (.iload 6, 2) := by decide +kernel
theorem d_169_120 : decode (codeOf 169) 120 = .ok (.invokevirtual 202, 3) := by decide +kernel
theorem d_169_123 : decode (codeOf 169) 123 = .ok (.iload 8, 2) := by decide +kernel
theorem d_169_125 : decode (codeOf 169) 125 = .ok (.ireturn, 1) := by decide +kernel
theorem d_170_0 : decode (codeOf 170) 0 = .ok (.aload_n 0, 1) := by decide +kernel
theorem d_170_1 : decode (codeOf 170) 1 = .ok (.iload_n 1, 1) := by decide +kernel
theorem d_170_2 : decode (codeOf 170) 2 = .ok (.invokevirtual 172, 3) := by decide +kernel
theorem d_170_5 : decode (codeOf 170) 5 = .ok (.ifCond .eq 40, 3) := by decide +kernel
theorem d_170_8 : decode (codeOf 170) 8 = .ok (.iload_n 2, 1) := by decide +kernel
theorem d_170_9 : decode (codeOf 170) 9 = .ok (.i2l, 1) := by decide +kernel
theorem d_170_10 : decode (codeOf 170) 10 = .ok (.lconst 0, 1) := by decide +kernel
theorem d_170_11 : decode (codeOf 170) 11 = .ok (.aload_n 0, 1) := by decide +kernel
theorem d_170_12 : decode (codeOf 170) 12 = .ok (.iconst 0, 1) := by decide +kernel
theorem d_170_13 : decode (codeOf 170) 13 = .ok (.iload_n 1, 1) := by decide +kernel
theorem d_170_14 : decode (codeOf 170) 14 = .ok (.invokevirtual 176, 3) := by decide +kernel
theorem d_170_17 : decode (codeOf 170) 17 = .ok (.i2l, 1) := by decide +kernel
theorem d_170_18 : decode (codeOf 170) 18 = .ok (.invokestatic 106, 3) := by decide +kernel
theorem d_170_21 : decode (codeOf 170) 21 = .ok (.ifCond .eq 24, 3) := by decide +kernel
theorem d_170_24 : decode (codeOf 170) 24 = .ok (.iload_n 3, 1) := by decide +kernel
theorem d_170_25 : decode (codeOf 170) 25 = .ok (.iload 4, 2) := by decide +kernel
theorem d_170_27 : decode (codeOf 170) 27 = .ok (.iload 5, 2) := by decide +kernel
theorem d_170_29 : decode (codeOf 170) 29 = .ok (.iload 6, 2) := by decide +kernel
theorem d_170_31 : decode (codeOf 170) 31 = .ok (.aload_n 0, 1) := by decide +kernel
theorem d_170_32 : decode (codeOf 170) 32 = .ok (.getfield 90, 3) := by decide +kernel
theorem d_170_35 : decode (codeOf 170) 35 = .ok (.aload_n 0, 1) := by decide +kernel
theorem d_170_36 : decode (codeOf 170) 36 = .ok (.getfield 93, 3) := by decide +kernel
theorem d_170_39 : decode (codeOf 170) 39 = .ok (.invokestatic 147, 3) := by decide +kernel
theorem d_170_42 : decode (codeOf 170) 42 = .ok (.ifCond .ne 5, 3) := by decide +kernel
theorem d_170_45 : decode (codeOf 170) 45 = .ok (.iconst (-1), 1) := by decide +kernel
theorem d_170_46 : decode (codeOf 170) 46 = .ok (.ireturn, 1) := by decide +kernel
theorem d_170_47 : decode (codeOf 170) 47 = .ok (.aload_n 0, 1) := by decide +kernel
theorem d_170_48 : decode (codeOf 170) 48 = .ok (.iconst 0, 1) := by decide +kernel
theorem d_170_49 : decode (codeOf 170) 49 = .ok (.iload_n 1, 1) := by decide +kernel
theorem d_170_50 : decode (codeOf 170) 50 = .ok (.invokevirtual 176, 3) := by decide +kernel
theorem d_170_53 : decode (codeOf 170) 53 = .ok (.bipush 6, 2) := by decide +kernel
theorem d_170_55 : decode (codeOf 170) 55 = .ok (.if_icmp .ne 6, 3) := by decide +kernel
theorem d_170_58 : decode (codeOf 170) 58 = .ok (.bipush (-3), 2) := by decide +kernel
theorem d_170_60 : decode (codeOf 170) 60 = .ok (.ireturn, 1) := by decide +kernel
theorem d_170_61 : decode (codeOf 170) 61 = .ok (.aload_n 0, 1) := by decide +kernel
theorem d_170_62 : decode (codeOf 170) 62 = .ok (.invokevirtual 199, 3) := by decide +kernel
theorem d_170_65 : decode (codeOf 170) 65 = .ok (.iconst 0, 1) := by decide +kernel
theorem d_170_66 : decode (codeOf 170) 66 = .ok (.iload_n 1, 1) := by decide +kernel
theorem d_170_67 : decode (codeOf 170) 67 = .ok (.aload_n 0, 1) := by decide +kernel
theorem d_170_68 : decode (codeOf 170) 68 = .ok (.iconst 0, 1) := by decide +kernel
theorem d_170_69 : decode (codeOf 170) 69 = .ok (.iload_n 1, 1) := by decide +kernel
theorem d_170_70 : decode (codeOf 170) 70 = .ok (.invokevirtual 176, 3) := by decide +kernel
theorem d_170_73 : decode (codeOf 170) 73 = .ok (.invokestatic 193, 3) := by decide +kernel
theorem d_170_76 : decode (codeOf 170) 76 = .ok (.iconst 1, 1) := by decide +kernel
theorem d_170_77 : decode (codeOf 170) 77 = .ok (.isub, 1) := by decide +kernel
theorem d_170_78 : decode (codeOf 170) 78 = .ok (.istore 7, 2) := by decide +kernel
theorem d_170_80 : decode (codeOf 170) 80 = .ok (.iload 7, 2) := by decide +kernel
theorem d_170_82 : decode (codeOf 170) 82 = .ok (.iconst 0, 1) := by decide +kernel
theorem d_170_83 : decode (codeOf 170) 83 = .ok (.iload_n 1, 1) := by decide +kernel
theorem d_170_84 : decode (codeOf 170) 84 = .ok (.iload_n 2, 1) := by decide +kernel
theorem d_170_85 : decode (codeOf 170) 85 = .ok (.invokestatic 193, 3) := by decide +kernel
theorem d_170_88 : decode (codeOf 170) 88 = .ok (.if_icmp .lt 25, 3) := by decide +kernel
theorem d_170_91 : decode (codeOf 170) 91 = .ok (.aload_n 0, 1) := by decide +kernel
theorem d_170_92 : decode (codeOf 170) 92 = .ok (.getfield 37, 3) := by decide +kernel
theorem d_170_95 : decode (codeOf 170) 95 = .ok (.iload 7, 2) := by decide +kernel
theorem d_170_97 : decode (codeOf 170) 97 = .ok (.iconst 4, 1) := by decide +kernel
theorem d_170_98 : decode (codeOf 170) 98 = .ok (.iadd, 1) := by decide +kernel
theorem d_170_99 : decode (codeOf 170) 99 = .ok (.aload_n 0, 1) := by decide +kernel
theorem d_170_100 : decode (codeOf 170) 100 = .ok (.getfield 37, 3) := by decide +kernel
theorem d_170_103 : decode (codeOf 170) 103 = .ok (.iload 7, 2) := by decide +kernel
theorem d_170_105 : decode (codeOf 170) 105 = .ok (.iaload, 1) := by decide +kernel
theorem d_170_106 : decode (codeOf 170) 106 = .ok (.iastore, 1) := by decide +kernel
theorem d_170_107 : decode (codeOf 170) 107 = .ok (.iinc 7 (-1), 3) := by decide +kernel
theorem d_170_110 : decode (codeOf 170) 110 = .ok (.goto (-30), 3) := by decide +kernel
theorem d_170_113 : decode (codeOf 170) 113 = .ok (.aload_n 0, 1) := by decide +kernel
theorem d_170_114 : decode (codeOf 170) 114 = .ok (.iconst 0, 1) := by decide +kernel
theorem d_170_115 : decode (codeOf 170) 115 = .ok (.iload_n 1, 1) := by decide +kernel
theorem d_170_116 : decode (codeOf 170) 116 = .ok (.iload_n 2, 1) := by decide +kernel
theorem d_170_117 : decode (codeOf 170) 117 = .ok (.iload_n 3, 1) := by decide +kernel
theorem d_170_118 : decode (codeOf 170) 118 = .ok (.iload 4, 2) := by decide +kernel
theorem d_170_120 : decode (codeOf 170) 120 = .ok (.iload 5, 2) := by decide +kernel
theorem d_170_122 : decode (codeOf 170) 122 = .ok (.iload 6, 2) := by decide +kernel
theorem d_170_124 : decode (codeOf 170) 124 = .ok (.invokevirtual 202, 3) := by decide +kernel
theorem d_170_127 : decode (codeOf 170) 127 = .ok (.aload_n 0, 1) := by decide +kernel
theorem d_170_128 : decode (codeOf 170) 128 = .ok (.getfield 37, 3) := by decide +kernel
theorem d_170_131 : decode (codeOf 170) 131 = .ok (.bipush 30, 2) := by decide +kernel
theorem d_170_133 : decode (codeOf 170) 133 = .ok (.iload_n 1, 1) := by decide +kernel
theorem d_170_134 : decode (codeOf 170) 134 = .ok (.imul, 1) := by decide +kernel
theorem d_170_135 : decode (codeOf 170) 135 = .ok (.iconst 5, 1) := by decide +kernel
theorem d_170_136 : decode (codeOf 170) 136 = .ok (.iadd, 1) := by decide +kernel
theorem d_170_137 : decode (codeOf 170) 137 = .ok (.dup2, 1) := by decide +kernel
theorem d_170_138 : decode (codeOf 170) 138 = .ok (.iaload, 1) := by decide +kernel
theorem d_170_139 : decode (codeOf 170) 139 = .ok (.iconst 1, 1) := by decide +kernel
theorem d_170_140 : decode (codeOf 170) 140 = .ok (.iadd, 1) := by decide +kernel
theorem d_170_141 : decode (codeOf 170) 141 = .ok (.iastore, 1) := by decide +kernel
theorem d_170_142 : decode (codeOf 170) 142 = .ok (.aload_n 0, 1) := by decide +kernel
theorem d_170_143 : decode (codeOf 170) 143 = .ok (.iconst 0, 1) := by decide +kernel
theorem d_170_144 : decode (codeOf 170) 144 = .ok (.iload_n 1, 1) := by decide +kernel
theorem d_170_145 : decode (codeOf 170) 145 = .ok (.invokevirtual 176, 3) := by decide +kernel
theorem d_170_148 : decode (codeOf 170) 148 = .ok (.ireturn, 1) := by decide +kernel
theorem d_171_0 : decode (codeOf 171) 0 = .ok (.aload_n 0, 1) := by decide +kernel
theorem d_171_1 : decode (codeOf 171) 1 = .ok (.iload_n 1, 1) := by decide +kernel
theorem d_171_2 : decode (codeOf 171) 2 = .ok (.iload_n 2, 1) := by decide +kernel
theorem d_171_3 : decode (codeOf 171) 3 = .ok (.invokevirtual 187, 3) := by decide +kernel
theorem d_171_6 : decode (codeOf 171) 6 = .ok (.ifCond .ne 5, 3) := by decide +kernel
theorem d_171_9 : decode (codeOf 171) 9 = .ok (.iconst (-1), 1) := by decide +kernel
theorem d_171_10 : decode (codeOf 171) 10 = .ok (.ireturn, 1) := by decide +kernel
theorem d_171_11 : decode (codeOf 171) 11 = .ok (.aload_n 0, 1) := by decide +kernel
theorem d_171_12 : decode (codeOf 171) 12 = .ok (.invokevirtual 199, 3) := by decide +kernel
theorem d_171_15 : decode (codeOf 171) 15 = .ok (.iconst 0, 1) := by decide +kernel
theorem d_171_16 : decode (codeOf 171) 16 = .ok (.iload_n 1, 1) := by decide +kernel
theorem d_171_17 : decode (codeOf 171) 17 = .ok (.iload_n 2, 1) := by decide +kernel
theorem d_171_18 : decode (codeOf 171) 18 = .ok (.invokestatic 193, 3) := by decide +kernel
theorem d_171_21 : decode (codeOf 171) 21 = .ok (.istore_n 3, 1) := by decide +kernel
theorem d_171_22 : decode (codeOf 171) 22 = .ok (.iload_n 3, 1) := by decide +kernel
theorem d_171_23 : decode (codeOf 171) 23 = .ok (.iconst 0, 1) := by decide +kernel
theorem d_171_24 : decode (codeOf 171) 24 = .ok (.iload_n 1, 1) := by decide +kernel
theorem d_171_25 : decode (codeOf 171) 25 = .ok (.aload_n 0, 1) := by decide +kernel
theorem d_171_26 : decode (codeOf 171) 26 = .ok (.iconst 0, 1) := by decide +kernel
theorem d_171_27 : decode (codeOf 171) 27 = .ok (.iload_n 1, 1) := by decide +kernel
theorem d_171_28 : decode (codeOf 171) 28 = .ok (.invokevirtual 176, 3) := by decide +kernel
theorem d_171_31 : decode (codeOf 171) 31 = .ok (.invokestatic 193, 3) := by decide +kernel
theorem d_171_34 : decode (codeOf 171) 34 = .ok (.iconst 4, 1) := by decide +kernel
theorem d_171_35 : decode (codeOf 171) 35 = .ok (.isub, 1) := by decide +kernel
theorem d_171_36 : decode (codeOf 171) 36 = .ok (.if_icmp .ge 23, 3) := by decide +kernel
theorem d_171_39 : decode (codeOf 171) 39 = .ok (.aload_n 0, 1) := by decide +kernel
theorem d_171_40 : decode (codeOf 171) 40 = .ok (.getfield 37, 3) := by decide +kernel
theorem d_171_43 : decode (codeOf 171) 43 = .ok (.iload_n 3, 1) := by decide +kernel
theorem d_171_44 : decode (codeOf 171) 44 = .ok (.aload_n 0, 1) := by decide +kernel
theorem d_171_45 : decode (codeOf 171) 45 = .ok (.getfield 37, 3) := by decide +kernel
theorem d_171_48 : decode (codeOf 171) 48 = .ok (.iload_n 3, 1) := by decide +kernel
theorem d_171_49 : decode (codeOf 171) 49 = .ok (.iconst 4, 1) := by decide +kernel
theorem d_171_50 : decode (codeOf 171) 50 = .ok (.iadd, 1) := by decide +kernel
theorem d_171_51 : decode (codeOf 171) 51 = .ok (.iaload, 1) := by decide +kernel
theorem d_171_52 : decode (codeOf 171) 52 = .ok (.iastore, 1) := by decide +kernel
theorem d_171_53 : decode (codeOf 171) 53 = .ok (.iinc 3 1, 3) := by decide +kernel
theorem d_171_56 : decode (codeOf 171) 56 = .ok (.goto (-34), 3) := by decide +kernel
theorem d_171_59 : decode (codeOf 171) 59 = .ok (.aload_n 0, 1) := by decide +kernel
theorem d_171_60 : decode (codeOf 171) 60 = .ok (.getfield 37, 3) := by decide +kernel
theorem d_171_63 : decode (codeOf 171) 63 = .ok (.bipush 30, 2) := by decide +kernel
theorem d_171_65 : decode (codeOf 171) 65 = .ok (.iload_n 1, 1) := by decide +kernel
theorem d_171_66 : decode (codeOf 171) 66 = .ok (.imul, 1) := by decide +kernel
theorem d_171_67 : decode (codeOf 171) 67 = .ok (.iconst 5, 1) := by decide +kernel
theorem d_171_68 : decode (codeOf 171) 68 = .ok (.iadd, 1) := by decide +kernel
theorem d_171_69 : decode (codeOf 171) 69 = .ok (.dup2, 1) := by decide +kernel
theorem d_171_70 : decode (codeOf 171) 70 = .ok (.iaload, 1) := by decide +kernel
theorem d_171_71 : decode (codeOf 171) 71 = .ok (.iconst 1, 1) := by decide +kernel
theorem d_171_72 : decode (codeOf 171) 72 = .ok (.isub, 1) := by decide +kernel
theorem d_171_73 : decode (codeOf 171) 73 = .ok (.iastore, 1) := by decide +kernel
theorem d_171_74 : decode (codeOf 171) 74 = .ok (.aload_n 0, 1) := by decide +kernel
theorem d_171_75 : decode (codeOf 171) 75 = .ok (.iconst 0, 1) := by decide +kernel
theorem d_171_76 : decode (codeOf 171) 76 = .ok (.iload_n 1, 1) := by decide +kernel
theorem d_171_77 : decode (codeOf 171) 77 = .ok (.invokevirtual 176, 3) := by decide +kernel
theorem d_171_80 : decode (codeOf 171) 80 = .ok (.ireturn, 1) := by decide +kernel
theorem d_172_0 : decode (codeOf 172) 0 = .ok (.aload_n 0, 1) := by decide +kernel
theorem d_172_1 : decode (codeOf 172) 1 = .ok (.iload_n 1, 1) := by decide +kernel
theorem d_172_2 : decode (codeOf 172) 2 = .ok (.invokevirtual 172, 3) := by decide +kernel
theorem d_172_5 : decode (codeOf 172) 5 = .ok (.ifCond .eq 23, 3) := by decide +kernel
theorem d_172_8 : decode (codeOf 172) 8 = .ok (.iload_n 2, 1) := by decide +kernel
theorem d_172_9 : decode (codeOf 172) 9 = .ok (.i2l, 1) := by decide +kernel
theorem d_172_10 : decode (codeOf 172) 10 = .ok (.lconst 0, 1) := by decide +kernel
theorem d_172_11 : decode (codeOf 172) 11 = .ok (.ldc2_w 191, 3) := by decide +kernel
theorem d_172_14 : decode (codeOf 172) 14 = .ok (.invokestatic 106, 3) := by decide +kernel
theorem d_172_17 : decode (codeOf 172) 17 = .ok (.ifCond .eq 11, 3) := by decide +kernel
theorem d_172_20 : decode (codeOf 172) 20 = .ok (.aload_n 0, 1) := by decide +kernel
theorem d_172_21 : decode (codeOf 172) 21 = .ok (.iload_n 3, 1) := by decide +kernel
theorem d_172_22 : decode (codeOf 172) 22 = .ok (.invokevirtual 206, 3) := by decide +kernel
theorem d_172_25 : decode (codeOf 172) 25 = .ok (.ifCond .ne 5, 3) := by decide +kernel
theorem d_172_28 : decode (codeOf 172) 28 = .ok (.iconst (-1), 1) := by decide +kernel
theorem d_172_29 : decode (codeOf 172) 29 = .ok (.ireturn, 1) := by decide +kernel
theorem d_172_30 : decode (codeOf 172) 30 = .ok (.aload_n 0, 1) := by decide +kernel
theorem d_172_31 : decode (codeOf 172) 31 = .ok (.getfield 37, 3) := by decide +kernel
theorem d_172_34 : decode (codeOf 172) 34 = .ok (.bipush 30, 2) := by decide +kernel
theorem d_172_36 : decode (codeOf 172) 36 = .ok (.iload_n 1, 1) := by decide +kernel
theorem d_172_37 : decode (codeOf 172) 37 = .ok (.imul, 1) := by decide +kernel
theorem d_172_38 : decode (codeOf 172) 38 = .ok (.iload_n 2, 1) := by decide +kernel
theorem d_172_39 : decode (codeOf 172) 39 = .ok (.iadd, 1) := by decide +kernel
theorem d_172_40 : decode (codeOf 172) 40 = .ok (.iaload, 1) := by decide +kernel
theorem d_172_41 : decode (codeOf 172) 41 = .ok (.iload_n 3, 1) := by decide +kernel
theorem d_172_42 : decode (codeOf 172) 42 = .ok (.if_icmp .ne 6, 3) := by decide +kernel
theorem d_172_45 : decode (codeOf 172) 45 = .ok (.bipush (-2), 2) := by decide +kernel
theorem d_172_47 : decode (codeOf 172) 47 = .ok (.ireturn, 1) := by decide +kernel
theorem d_172_48 : decode (codeOf 172) 48 = .ok (.aload_n 0, 1) := by decide +kernel
theorem d_172_49 : decode (codeOf 172) 49 = .ok (.invokevirtual 199, 3) := by decide +kernel
theorem d_172_52 : decode (codeOf 172) 52 = .ok (.aload_n 0, 1) := by decide +kernel
theorem d_172_53 : decode (codeOf 172) 53 = .ok (.getfield 37, 3) := by decide +kernel
theorem d_172_56 : decode (codeOf 172) 56 = .ok (.bipush 30, 2) := by decide +kernel
theorem d_172_58 : decode (codeOf 172) 58 = .ok (.iload_n 1, 1) := by decide +kernel
theorem d_172_59 : decode (codeOf 172) 59 = .ok (.imul, 1) := by decide +kernel
theorem d_172_60 : decode (codeOf 172) 60 = .ok (.iload_n 2, 1) := by decide +kernel
theorem d_172_61 : decode (codeOf 172) 61 = .ok (.iadd, 1) := by decide +kernel
theorem d_172_62 : decode (codeOf 172) 62 = .ok (.iaload, 1) := by decide +kernel
theorem d_172_63 : decode (codeOf 172) 63 = .ok (.istore 4, 2) := by decide +kernel
theorem d_172_65 : decode (codeOf 172) 65 = .ok (.aload_n 0, 1) := by decide +kernel
theorem d_172_66 : decode (codeOf 172) 66 = .ok (.getfield 37, 3) := by decide +kernel
theorem d_172_69 : decode (codeOf 172) 69 = .ok (.bipush 30, 2) := by decide +kernel
theorem d_172_71 : decode (codeOf 172) 71 = .ok (.iload_n 1, 1) := by decide +kernel
theorem d_172_72 : decode (codeOf 172) 72 = .ok (.imul, 1) := by decide +kernel
theorem d_172_73 : decode (codeOf 172) 73 = .ok (.iload_n 2, 1) := by decide +kernel
theorem d_172_74 : decode (codeOf 172) 74 = .ok (.iadd, 1) := by decide +kernel
theorem d_172_75 : decode (codeOf 172) 75 = .ok (.iload_n 3, 1) := by decide +kernel
theorem d_172_76 : decode (codeOf 172) 76 = .ok (.iastore, 1) := by decide +kernel
theorem d_172_77 : decode (codeOf 172) 77 = .ok (.iload 4, 2) := by decide +kernel
theorem d_172_79 : decode (codeOf 172) 79 = .ok (.ireturn, 1) := by decide +kernel
theorem d_173_0 : decode (codeOf 173) 0 = .ok (.aload_n 0, 1) := by decide +kernel
theorem d_173_1 : decode (codeOf 173) 1 = .ok (.iload_n 1, 1) := by decide +kernel
theorem d_173_2 : decode (codeOf 173) 2 = .ok (.invokevirtual 172, 3) := by decide +kernel
theorem d_173_5 : decode (codeOf 173) 5 = .ok (.ifCond .eq 13, 3) := by decide +kernel
theorem d_173_8 : decode (codeOf 173) 8 = .ok (.iload_n 2, 1) := by decide +kernel
theorem d_173_9 : decode (codeOf 173) 9 = .ok (.i2l, 1) := by decide +kernel
theorem d_173_10 : decode (codeOf 173) 10 = .ok (.lconst 0, 1) := by decide +kernel
theorem d_173_11 : decode (codeOf 173) 11 = .ok (.lconst 1, 1) := by decide +kernel
theorem d_173_12 : decode (codeOf 173) 12 = .ok (.invokestatic 106, 3) := by decide +kernel
theorem d_173_15 : decode (codeOf 173) 15 = .ok (.ifCond .ne 5, 3) := by decide +kernel
theorem d_173_18 : decode (codeOf 173) 18 = .ok (.iconst (-1), 1) := by decide +kernel
theorem d_173_19 : decode (codeOf 173) 19 = .ok (.ireturn, 1) := by decide +kernel
theorem d_173_20 : decode (codeOf 173) 20 = .ok (.aload_n 0, 1) := by decide +kernel
theorem d_173_21 : decode (codeOf 173) 21 = .ok (.getfield 37, 3) := by decide +kernel
theorem d_173_24 : decode (codeOf 173) 24 = .ok (.bipush 30, 2) := by decide +kernel
theorem d_173_26 : decode (codeOf 173) 26 = .ok (.iload_n 1, 1) := by decide +kernel
theorem d_173_27 : decode (codeOf 173) 27 = .ok (.imul, 1) := by decide +kernel
theorem d_173_28 : decode (codeOf 173) 28 = .ok (.iconst 4, 1) := by decide +kernel
theorem d_173_29 : decode (codeOf 173) 29 = .ok (.iadd, 1) := by decide +kernel
theorem d_173_30 : decode (codeOf 173) 30 = .ok (.iaload, 1) := by decide +kernel
theorem d_173_31 : decode (codeOf 173) 31 = .ok (.iload_n 2, 1) := by decide +kernel
theorem d_173_32 : decode (codeOf 173) 32 = .ok (.if_icmp .ne 6, 3) := by decide +kernel
theorem d_173_35 : decode (codeOf 173) 35 = .ok (.bipush (-2), 2) := by decide +kernel
theorem d_173_37 : decode (codeOf 173) 37 = .ok (.ireturn, 1) := by decide +kernel
theorem d_173_38 : decode (codeOf 173) 38 = .ok (.aload_n 0, 1) := by decide +kernel
theorem d_173_39 : decode (codeOf 173) 39 = .ok (.invokevirtual 199, 3) := by decide +kernel
theorem d_173_42 : decode (codeOf 173) 42 = .ok (.aload_n 0, 1) := by decide +kernel
theorem d_173_43 : decode (codeOf 173) 43 = .ok (.getfield 37, 3) := by decide +kernel
theorem d_173_46 : decode (codeOf 173) 46 = .ok (.bipush 30, 2) := by decide +kernel
theorem d_173_48 : decode (codeOf 173) 48 = .ok (.iload_n 1, 1) := by decide +kernel
theorem d_173_49 : decode (codeOf 173) 49 = .ok (.imul, 1) := by decide +kernel
theorem d_173_50 : decode (codeOf 173) 50 = .ok (.iconst 4, 1) := by decide +kernel
theorem d_173_51 : decode (codeOf 173) 51 = .ok (.iadd, 1) := by decide +kernel
theorem d_173_52 : decode (codeOf 173) 52 = .ok (.iload_n 2, 1) := by decide +kernel
theorem d_173_53 : decode (codeOf 173) 53 = .ok (.iastore, 1) := by decide +kernel
theorem d_173_54 : decode (codeOf 173) 54 = .ok (.iconst 1, 1) := by decide +kernel
theorem d_173_55 : decode (codeOf 173) 55 = .ok (.ireturn, 1) := by decide +kernel
theorem d_174_0 : decode (codeOf 174) 0 = .ok (.aload_n 0, 1) := by decide +kernel
theorem d_174_1 : decode (codeOf 174) 1 = .ok (.getfield 96, 3) := by decide +kernel
theorem d_174_4 : decode (codeOf 174) 4 = .ok (.ifCond .ne 6, 3) := by decide +kernel
theorem d_174_7 : decode (codeOf 174) 7 = .ok (.bipush (-2), 2) := by decide +kernel
theorem d_174_9 : decode (codeOf 174) 9 = .ok (.ireturn, 1) := by decide +kernel
theorem d_174_10 : decode (codeOf 174) 10 = .ok (.aload_n 0, 1) := by decide +kernel
theorem d_174_11 : decode (codeOf 174) 11 = .ok (.aload_n 0, 1) := by decide +kernel
theorem d_174_12 : decode (codeOf 174) 12 = .ok (.getfield 96, 3) := by decide +kernel
theorem d_174_15 : decode (codeOf 174) 15 = .ok (.bipush 120, 2) := by decide +kernel
theorem d_174_17 : decode (codeOf 174) 17 = .ok (.imul, 1) := by decide +kernel
theorem d_174_18 : decode (codeOf 174) 18 = .ok (.iconst 0, 1) := by decide +kernel
theorem d_174_19 : decode (codeOf 174) 19 = .ok (.invokevirtual 196, 3) := by decide +kernel
theorem d_174_22 : decode (codeOf 174) 22 = .ok (.aload_n 0, 1) := by decide +kernel
theorem d_174_23 : decode (codeOf 174) 23 = .ok (.dup, 1) := by decide +kernel
theorem d_174_24 : decode (codeOf 174) 24 = .ok (.getfield 96, 3) := by decide +kernel
theorem d_174_27 : decode (codeOf 174) 27 = .ok (.iconst 1, 1) := by decide +kernel
theorem d_174_28 : decode (codeOf 174) 28 = .ok (.isub, 1) := by decide +kernel
theorem d_174_29 : decode (codeOf 174) 29 = .ok (.putfield 96, 3) := by decide +kernel
theorem d_174_32 : decode (codeOf 174) 32 = .ok (.aload_n 0, 1) := by decide +kernel
theorem d_174_33 : decode (codeOf 174) 33 = .ok (.getfield 96, 3) := by decide +kernel
theorem d_174_36 : decode (codeOf 174) 36 = .ok (.ireturn, 1) := by decide +kernel
theorem d_175_0 : decode (codeOf 175) 0 = .ok (.aload_n 0, 1) := by decide +kernel
theorem d_175_1 : decode (codeOf 175) 1 = .ok (.getfield 16, 3) := by decide +kernel
theorem d_175_4 : decode (codeOf 175) 4 = .ok (.iload_n 2, 1) := by decide +kernel
theorem d_175_5 : decode (codeOf 175) 5 = .ok (.iaload, 1) := by decide +kernel
theorem d_175_6 : decode (codeOf 175) 6 = .ok (.aload_n 0, 1) := by decide +kernel
theorem d_175_7 : decode (codeOf 175) 7 = .ok (.getfield 16, 3) := by decide +kernel
theorem d_175_10 : decode (codeOf 175) 10 = .ok (.iload_n 3, 1) := by decide +kernel
theorem d_175_11 : decode (codeOf 175) 11 = .ok (.iaload, 1) := by decide +kernel
theorem d_175_12 : decode (codeOf 175) 12 = .ok (.if_icmp .lt 55, 3) := by decide +kernel
theorem d_175_15 : decode (codeOf 175) 15 = .ok (.aload_n 0, 1) := by decide +kernel
theorem d_175_16 : decode (codeOf 175) 16 = .ok (.getfield 37, 3) := by decide +kernel
theorem d_175_19 : decode (codeOf 175) 19 = .ok (.iload_n 1, 1) := by decide +kernel
theorem d_175_20 : decode (codeOf 175) 20 = .ok (.bipush 30, 2) := by decide +kernel
theorem d_175_22 : decode (codeOf 175) 22 = .ok (.iload_n 3, 1) := by decide +kernel
theorem d_175_23 : decode (codeOf 175) 23 = .ok (.imul, 1) := by decide +kernel
theorem d_175_24 : decode (codeOf 175) 24 = .ok (.iadd, 1) := by decide +kernel
theorem d_175_25 : decode (codeOf 175) 25 = .ok (.iconst 4, 1) := by decide +kernel
theorem d_175_26 : decode (codeOf 175) 26 = .ok (.iadd, 1) := by decide +kernel
theorem d_175_27 : decode (codeOf 175) 27 = .ok (.iaload, 1) := by decide +kernel
theorem d_175_28 : decode (codeOf 175) 28 = .ok (.iconst 1, 1) := by decide +kernel
theorem d_175_29 : decode (codeOf 175) 29 = .ok (.if_icmp .eq 34, 3) := by decide +kernel
theorem d_175_32 : decode (codeOf 175) 32 = .ok (.aload_n 0, 1) := by decide +kernel
theorem d_175_33 : decode (codeOf 175) 33 = .ok (.getfield 16, 3) := by decide +kernel
theorem d_175_36 : decode (codeOf 175) 36 = .ok (.iload_n 2, 1) := by decide +kernel
theorem d_175_37 : decode (codeOf 175) 37 = .ok (.iaload, 1) := by decide +kernel
theorem d_175_38 : decode (codeOf 175) 38 = .ok (.aload_n 0, 1) := by decide +kernel
theorem d_175_39 : decode (codeOf 175) 39 = .ok (.getfield 16, 3) := by decide +kernel
theorem d_175_42 : decode (codeOf 175) 42 = .ok (.iload_n 3, 1) := by decide +kernel
theorem d_175_43 : decode (codeOf 175) 43 = .ok (.iaload, 1) := by decide +kernel
theorem d_175_44 : decode (codeOf 175) 44 = .ok (.if_icmp .ne 23, 3) := by decide +kernel
theorem d_175_47 : decode (codeOf 175) 47 = .ok (.aload_n 0, 1) := by decide +kernel
theorem d_175_48 : decode (codeOf 175) 48 = .ok (.getfield 37, 3) := by decide +kernel
theorem d_175_51 : decode (codeOf 175) 51 = .ok (.iload_n 1, 1) := by decide +kernel
theorem d_175_52 : decode (codeOf 175) 52 = .ok (.bipush 30, 2) := by decide +kernel
theorem d_175_54 : decode (codeOf 175) 54 = .ok (.iload_n 2, 1) := by decide +kernel
theorem d_175_55 : decode (codeOf 175) 55 = .ok (.imul, 1) := by decide +kernel
theorem d_175_56 : decode (codeOf 175) 56 = .ok (.iadd, 1) := by decide +kernel
theorem d_175_57 : decode (codeOf 175) 57 = .ok (.iconst 4, 1) := by decide +kernel
theorem d_175_58 : decode (codeOf 175) 58 = .ok (.iadd, 1) := by decide +kernel
theorem d_175_59 : decode (codeOf 175) 59 = .ok (.iaload, 1) := by decide +kernel
theorem d_175_60 : decode (codeOf 175) 60 = .ok (.ifCond .ne 7, 3) := by decide +kernel
theorem d_175_63 : decode (codeOf 175) 63 = .ok (.iconst 1, 1) := by decide +kernel
theorem d_175_64 : decode (codeOf 175) 64 = .ok (.goto 4, 3) := by decide +kernel
theorem d_175_67 : decode (codeOf 175) 67 = .ok (.iconst 0, 1) := by decide +kernel
theorem d_175_68 : decode (codeOf 175) 68 = .ok (.istore 4, 2) := by decide +kernel
theorem d_175_70 : decode (codeOf 175) 70 = .ok (.iconst 0, 1) := by decide +kernel
theorem d_175_71 : decode (codeOf 175) 71 = .ok (.istore 5, 2) := by decide +kernel
theorem d_175_73 : decode (codeOf 175) 73 = .ok (.iload 5, 2) := by decide +kernel
theorem d_175_75 : decode (codeOf 175) 75 = .ok (.iconst 4, 1) := by decide +kernel
theorem d_175_76 : decode (codeOf 175) 76 = .ok (.if_icmp .ge 61, 3) := by decide +kernel
theorem d_175_79 : decode (codeOf 175) 79 = .ok (.aload_n 0, 1) := by decide +kernel
theorem d_175_80 : decode (codeOf 175) 80 = .ok (.getfield 37, 3) := by decide +kernel
theorem d_175_83 : decode (codeOf 175) 83 = .ok (.iload_n 1, 1) := by decide +kernel
theorem d_175_84 : decode (codeOf 175) 84 = .ok (.bipush 30, 2) := by decide +kernel
theorem d_175_86 : decode (codeOf 175) 86 = .ok (.iload_n 3, 1) := by decide +kernel
theorem d_175_87 : decode (codeOf 175) 87 = .ok (.imul, 1) := by decide +kernel
theorem d_175_88 : decode (codeOf 175) 88 = .ok (.iadd, 1) := by decide +kernel
theorem d_175_89 : decode (codeOf 175) 89 = .ok (.iload 5, 2) := by decide +kernel
theorem d_175_91 : decode (codeOf 175) 91 = .ok (.iadd, 1) := by decide +kernel
theorem d_175_92 : decode (codeOf 175) 92 = .ok (.iaload, 1) := by decide +kernel
theorem d_175_93 : decode (codeOf 175) 93 = .ok (.istore 6, 2) := by decide +kernel
theorem d_175_95 : decode (codeOf 175) 95 = .ok (.iload 4, 2) := by decide +kernel
theorem d_175_97 : decode (codeOf 175) 97 = .ok (.ifCond .eq 31, 3) := by decide +kernel
theorem d_175_100 : decode (codeOf 175) 100 = .ok (.iload 6, 2) := by decide +kernel
theorem d_175_102 : decode (codeOf 175) 102 = .ok (.ifCond .eq 22, 3) := by decide +kernel
theorem d_175_105 : decode (codeOf 175) 105 = .ok (.iload 6, 2) := by decide +kernel
theorem d_175_107 : decode (codeOf 175) 107 = .ok (.aload_n 0, 1) := by decide +kernel
theorem d_175_108 : decode (codeOf 175) 108 = .ok (.getfield 37, 3) := by decide +kernel
theorem d_175_111 : decode (codeOf 175) 111 = .ok (.iload_n 1, 1) := by decide +kernel
theorem d_175_112 : decode (codeOf 175) 112 = .ok (.bipush 30, 2) := by decide +kernel
theorem d_175_114 : decode (codeOf 175) 114 = .ok (.iload_n 2, 1) := by decide +kernel
theorem d_175_115 : decode (codeOf 175) 115 = .ok (.imul, 1) := by decide +kernel
theorem d_175_116 : decode (codeOf 175) 116 = .ok (.iadd, 1) := by decide +kernel
theorem d_175_117 : decode (codeOf 175) 117 = .ok (.iload 5, 2) := by decide +kernel
theorem d_175_119 : decode (codeOf 175) 119 = .ok (.iadd, 1) := by decide +kernel
theorem d_175_120 : decode (codeOf 175) 120 = .ok (.iaload, 1) := by decide +kernel
theorem d_175_121 : decode (codeOf 175) 121 = .ok (.if_icmp .ne 7, 3) := by decide +kernel
theorem d_175_124 : decode (codeOf 175) 124 = .ok (.iconst 1, 1) := by decide +kernel
theorem d_175_125 : decode (codeOf 175) 125 = .ok (.goto 4, 3) := by decide +kernel
theorem d_175_128 : decode (codeOf 175) 128 = .ok (.iconst 0, 1) := by decide +kernel
theorem d_175_129 : decode (codeOf 175) 129 = .ok (.istore 4, 2) := by decide +kernel
theorem d_175_131 : decode (codeOf 175) 131 = .ok (.iinc 5 1, 3) := by decide +kernel
theorem d_175_134 : decode (codeOf 175) 134 = .ok (.goto (-61), 3) := by decide +kernel
theorem d_175_137 : decode (codeOf 175) 137 = .ok (.iconst 0, 1) := by decide +kernel
theorem d_175_138 : decode (codeOf 175) 138 = .ok (.istore 5, 2) := by decide +kernel
theorem d_175_140 : decode (codeOf 175) 140 = .ok (.iload 5, 2) := by decide +kernel
theorem d_175_142 : decode (codeOf 175) 142 = .ok (.aload_n 0, 1) := by decide +kernel
theorem d_175_143 : decode (codeOf 175) 143 = .ok (.getfield 16, 3) := by decide +kernel
theorem d_175_146 : decode (codeOf 175) 146 = .ok (.iload_n 3, 1) := by decide +kernel
theorem d_175_147 : decode (codeOf 175) 147 = .ok (.iaload, 1) := by decide +kernel
theorem d_175_148 : decode (codeOf 175) 148 = .ok (.if_icmp .ge 60, 3) := by decide +kernel
theorem d_175_151 : decode (codeOf 175) 151 = .ok (.iload 4, 2) := by decide +kernel
theorem d_175_153 : decode (codeOf 175) 153 = .ok (.ifCond .eq 55, 3) := by decide +kernel
theorem d_175_156 : decode (codeOf 175) 156 = .ok (.aload_n 0, 1) := by decide +kernel
theorem d_175_157 : decode (codeOf 175) 157 = .ok (.getfield 19, 3) := by decide +kernel
theorem d_175_160 : decode (codeOf 175) 160 = .ok (.iconst 3, 1) := by decide +kernel
theorem d_175_161 : decode (codeOf 175) 161 = .ok (.iload_n 3, 1) := by decide +kernel
theorem d_175_162 : decode (codeOf 175) 162 = .ok (.imul, 1) := by decide +kernel
theorem d_175_163 : decode (codeOf 175) 163 = .ok (.iload 5, 2) := by decide +kernel
theorem d_175_165 : decode (codeOf 175) 165 = .ok (.iadd, 1) := by decide +kernel
theorem d_175_166 : decode (codeOf 175) 166 = .ok (.iaload, 1) := by decide +kernel
theorem d_175_167 : decode (codeOf 175) 167 = .ok (.ifCond .eq 28, 3) := by decide +kernel
theorem d_175_170 : decode (codeOf 175) 170 = .ok (.aload_n 0, 1) := by decide +kernel
theorem d_175_171 : decode (codeOf 175) 171 = .ok (.getfield 19, 3) := by decide +kernel
theorem d_175_174 : decode (codeOf 175) 174 = .ok (.iconst 3, 1) := by decide +kernel
theorem d_175_175 : decode (codeOf 175) 175 = .ok (.iload_n 3, 1) := by decide +kernel
theorem d_175_176 : decode (codeOf 175) 176 = .ok (.imul, 1) := by decide +kernel
theorem d_175_177 : decode (codeOf 175) 177 = .ok (.iload 5, 2) := by decide +kernel
theorem d_175_179 : decode (codeOf 175) 179 = .ok (.iadd, 1) := by decide +kernel
theorem d_175_180 : decode (codeOf 175) 180 = .ok (.iaload, 1) := by decide +kernel
theorem d_175_181 : decode (codeOf 175) 181 = .ok (.aload_n 0, 1) := by decide +kernel
theorem d_175_182 : decode (codeOf 175) 182 = .ok (.getfield 19, 3) := by decide +kernel
theorem d_175_185 : decode (codeOf 175) 185 = .ok (.iconst 3, 1) := by decide +kernel
theorem d_175_186 : decode (codeOf 175) 186 = .ok (.iload_n 2, 1) := by decide +kernel
theorem d_175_187 : decode (codeOf 175) 187 = .ok (.imul, 1) := by decide +kernel
theorem d_175_188 : decode (codeOf 175) 188 = .ok (.iload 5, 2) := by decide +kernel
theorem d_175_190 : decode (codeOf 175) 190 = .ok (.iadd, 1) := by decide +kernel
theorem d_175_191 : decode (codeOf 175) 191 = .ok (.iaload, 1) := by decide +kernel
theorem d_175_192 : decode (codeOf 175) 192 = .ok (.if_icmp .ne 7, 3) := by decide +kernel
theorem d_175_195 : decode (codeOf 175) 195 = .ok (.iconst 1, 1) := by decide +kernel
theorem d_175_196 : decode (codeOf 175) 196 = .ok (.goto 4, 3) := by decide +kernel
theorem d_175_199 : decode (codeOf 175) 199 = .ok (.iconst 0, 1) := by decide +kernel
theorem d_175_200 : decode (codeOf 175) 200 = .ok (.istore 4, 2) := by decide +kernel
theorem d_175_202 : decode (codeOf 175) 202 = .ok (.iinc 5 1, 3) := by decide +kernel
theorem d_175_205 : decode (codeOf 175) 205 = .ok (.goto (-65), 3) := by decide +kernel
theorem d_175_208 : decode (codeOf 175) 208 = .ok (.iload 4, 2) := by decide +kernel
theorem d_175_210 : decode (codeOf 175) 210 = .ok (.ireturn, 1) := by decide +kernel
theorem d_176_0 : decode (codeOf 176) 0 = .ok (.iload_n 3, 1) := by decide +kernel
theorem d_176_1 : decode (codeOf 176) 1 = .ok (.ifCond .eq 52, 3) := by decide +kernel
theorem d_176_4 : decode (codeOf 176) 4 = .ok (.iload_n 2, 1) := by decide +kernel
theorem d_176_5 : decode (codeOf 176) 5 = .ok (.iload_n 3, 1) := by decide +kernel
theorem d_176_6 : decode (codeOf 176) 6 = .ok (.if_icmp .eq 47, 3) := by decide +kernel
theorem d_176_9 : decode (codeOf 176) 9 = .ok (.iload_n 2, 1) := by decide +kernel
theorem d_176_10 : decode (codeOf 176) 10 = .ok (.i2l, 1) := by decide +kernel
theorem d_176_11 : decode (codeOf 176) 11 = .ok (.ldc2_w 179, 3) := by decide +kernel
theorem d_176_14 : decode (codeOf 176) 14 = .ok (.ldc2_w 183, 3) := by decide +kernel
theorem d_176_17 : decode (codeOf 176) 17 = .ok (.invokestatic 106, 3) := by decide +kernel
theorem d_176_20 : decode (codeOf 176) 20 = .ok (.ifCond .eq 37, 3) := by decide +kernel
theorem d_176_23 : decode (codeOf 176) 23 = .ok (.iload_n 3, 1) := by decide +kernel
theorem d_176_24 : decode (codeOf 176) 24 = .ok (.i2l, 1) := by decide +kernel
theorem d_176_25 : decode (codeOf 176) 25 = .ok (.ldc2_w 179, 3) := by decide +kernel
theorem d_176_28 : decode (codeOf 176) 28 = .ok (.ldc2_w 183, 3) := by decide +kernel
theorem d_176_31 : decode (codeOf 176) 31 = .ok (.invokestatic 106, 3) := by decide +kernel
theorem d_176_34 : decode (codeOf 176) 34 = .ok (.ifCond .eq 23, 3) := by decide +kernel
theorem d_176_37 : decode (codeOf 176) 37 = .ok (.aload_n 0, 1) := by decide +kernel
theorem d_176_38 : decode (codeOf 176) 38 = .ok (.iload_n 1, 1) := by decide +kernel
theorem d_176_39 : decode (codeOf 176) 39 = .ok (.iload_n 3, 1) := by decide +kernel
theorem d_176_40 : decode (codeOf 176) 40 = .ok (.bipush 6, 2) := by decide +kernel
theorem d_176_42 : decode (codeOf 176) 42 = .ok (.isub, 1) := by decide +kernel
theorem d_176_43 : decode (codeOf 176) 43 = .ok (.iload_n 2, 1) := by decide +kernel
theorem d_176_44 : decode (codeOf 176) 44 = .ok (.bipush 6, 2) := by decide +kernel
theorem d_176_46 : decode (codeOf 176) 46 = .ok (.isub, 1) := by decide +kernel
theorem d_176_47 : decode (codeOf 176) 47 = .ok (.invokevirtual 209, 3) := by decide +kernel
theorem d_176_50 : decode (codeOf 176) 50 = .ok (.ifCond .eq 7, 3) := by decide +kernel
theorem d_176_53 : decode (codeOf 176) 53 = .ok (.iconst 1, 1) := by decide +kernel
theorem d_176_54 : decode (codeOf 176) 54 = .ok (.goto 4, 3) := by decide +kernel
theorem d_176_57 : decode (codeOf 176) 57 = .ok (.iconst 0, 1) := by decide +kernel
theorem d_176_58 : decode (codeOf 176) 58 = .ok (.ireturn, 1) := by decide +kernel
theorem d_177_0 : decode (codeOf 177) 0 = .ok (.iconst 0, 1) := by decide +kernel
theorem d_177_1 : decode (codeOf 177) 1 = .ok (.istore_n 3, 1) := by decide +kernel
theorem d_177_2 : decode (codeOf 177) 2 = .ok (.iload_n 3, 1) := by decide +kernel
theorem d_177_3 : decode (codeOf 177) 3 = .ok (.iconst 4, 1) := by decide +kernel
theorem d_177_4 : decode (codeOf 177) 4 = .ok (.if_icmp .ge 28, 3) := by decide +kernel
theorem d_177_7 : decode (codeOf 177) 7 = .ok (.aload_n 0, 1) := by decide +kernel
theorem d_177_8 : decode (codeOf 177) 8 = .ok (.getfield 44, 3) := by decide +kernel
theorem d_177_11 : decode (codeOf 177) 11 = .ok (.iload_n 3, 1) := by decide +kernel
theorem d_177_12 : decode (codeOf 177) 12 = .ok (.aload_n 0, 1) := by decide +kernel
theorem d_177_13 : decode (codeOf 177) 13 = .ok (.getfield 37, 3) := by decide +kernel
theorem d_177_16 : decode (codeOf 177) 16 = .ok (.iload_n 1, 1) := by decide +kernel
theorem d_177_17 : decode (codeOf 177) 17 = .ok (.bipush 30, 2) := by decide +kernel
theorem d_177_19 : decode (codeOf 177) 19 = .ok (.iload_n 2, 1) := by decide +kernel
theorem d_177_20 : decode (codeOf 177) 20 = .ok (.imul, 1) := by decide +kernel
theorem d_177_21 : decode (codeOf 177) 21 = .ok (.iadd, 1) := by decide +kernel
theorem d_177_22 : decode (codeOf 177) 22 = .ok (.iload_n 3, 1) := by decide +kernel
theorem d_177_23 : decode (codeOf 177) 23 = .ok (.iadd, 1) := by decide +kernel
theorem d_177_24 : decode (codeOf 177) 24 = .ok (.iaload, 1) := by decide +kernel
theorem d_177_25 : decode (codeOf 177) 25 = .ok (.iastore, 1) := by decide +kernel
theorem d_177_26 : decode (codeOf 177) 26 = .ok (.iinc 3 1, 3) := by decide +kernel
theorem d_177_29 : decode (codeOf 177) 29 = .ok (.goto (-27), 3) := by decide +kernel
theorem d_177_32 : decode (codeOf 177) 32 = .ok (.aload_n 0, 1) := by decide +kernel
theorem d_177_33 : decode (codeOf 177) 33 = .ok (.aload_n 0, 1) := by decide +kernel
theorem d_177_34 : decode (codeOf 177) 34 = .ok (.getfield 16, 3) := by decide +kernel
theorem d_177_37 : decode (codeOf 177) 37 = .ok (.iload_n 2, 1) := by decide +kernel
theorem d_177_38 : decode (codeOf 177) 38 = .ok (.iaload, 1) := by decide +kernel
theorem d_177_39 : decode (codeOf 177) 39 = .ok (.putfield 213, 3) := by decide +kernel
theorem d_177_42 : decode (codeOf 177) 42 = .ok (.iconst 0, 1) := by decide +kernel
theorem d_177_43 : decode (codeOf 177) 43 = .ok (.istore_n 3, 1) := by decide +kernel
theorem d_177_44 : decode (codeOf 177) 44 = .ok (.iload_n 3, 1) := by decide +kernel
theorem d_177_45 : decode (codeOf 177) 45 = .ok (.aload_n 0, 1) := by decide +kernel
theorem d_177_46 : decode (codeOf 177) 46 = .ok (.getfield 213, 3) := by decide +kernel
theorem d_177_49 : decode (codeOf 177) 49 = .ok (.if_icmp .ge 32, 3) := by decide +kernel
theorem d_177_52 : decode (codeOf 177) 52 = .ok (.aload_n 0, 1) := by decide +kernel
theorem d_177_53 : decode (codeOf 177) 53 = .ok (.getfield 47, 3) := by decide +kernel
theorem d_177_56 : decode (codeOf 177) 56 = .ok (.aload_n 0, 1) := by decide +kernel
theorem d_177_57 : decode (codeOf 177) 57 = .ok (.getfield 213, 3) := by decide +kernel
theorem d_177_60 : decode (codeOf 177) 60 = .ok (.iconst 1, 1) := by decide +kernel
theorem d_177_61 : decode (codeOf 177) 61 = .ok (.isub, 1) := by decide +kernel
theorem d_177_62 : decode (codeOf 177) 62 = .ok (.iload_n 3, 1) := by decide +kernel
theorem d_177_63 : decode (codeOf 177) 63 = .ok (.isub, 1) := by decide +kernel
theorem d_177_64 : decode (codeOf 177) 64 = .ok (.aload_n 0, 1) := by decide +kernel
theorem d_177_65 : decode (codeOf 177) 65 = .ok (.getfield 19, 3) := by decide +kernel
theorem d_177_68 : decode (codeOf 177) 68 = .ok (.iconst 3, 1) := by decide +kernel
theorem d_177_69 : decode (codeOf 177) 69 = .ok (.iload_n 2, 1) := by decide +kernel
theorem d_177_70 : decode (codeOf 177) 70 = .ok (.imul, 1) := by decide +kernel
theorem d_177_71 : decode (codeOf 177) 71 = .ok (.iload_n 3, 1) := by decide +kernel
theorem d_177_72 : decode (codeOf 177) 72 = .ok (.iadd, 1) := by decide +kernel
theorem d_177_73 : decode (codeOf 177) 73 = .ok (.iaload, 1) := by decide +kernel
theorem d_177_74 : decode (codeOf 177) 74 = .ok (.iastore, 1) := by decide +kernel
theorem d_177_75 : decode (codeOf 177) 75 = .ok (.iinc 3 1, 3) := by decide +kernel
theorem d_177_78 : decode (codeOf 177) 78 = .ok (.goto (-34), 3) := by decide +kernel
theorem d_177_81 : decode (codeOf 177) 81 = .ok (.aload_n 0, 1) := by decide +kernel
theorem d_177_82 : decode (codeOf 177) 82 = .ok (.aload_n 0, 1) := by decide +kernel
theorem d_177_83 : decode (codeOf 177) 83 = .ok (.getfield 37, 3) := by decide +kernel
theorem d_177_86 : decode (codeOf 177) 86 = .ok (.iload_n 1, 1) := by decide +kernel
theorem d_177_87 : decode (codeOf 177) 87 = .ok (.bipush 30, 2) := by decide +kernel
theorem d_177_89 : decode (codeOf 177) 89 = .ok (.iload_n 2, 1) := by decide +kernel
theorem d_177_90 : decode (codeOf 177) 90 = .ok (.imul, 1) := by decide +kernel
theorem d_177_91 : decode (codeOf 177) 91 = .ok (.iadd, 1) := by decide +kernel
theorem d_177_92 : decode (codeOf 177) 92 = .ok (.iconst 4, 1) := by decide +kernel
theorem d_177_93 : decode (codeOf 177) 93 = .ok (.iadd, 1) := by decide +kernel
theorem d_177_94 : decode (codeOf 177) 94 = .ok (.iaload, 1) := by decide +kernel
theorem d_177_95 : decode (codeOf 177) 95 = .ok (.iconst 1, 1) := by decide +kernel
theorem d_177_96 : decode (codeOf 177) 96 = .ok (.if_icmp .ne 7, 3) := by decide +kernel
theorem d_177_99 : decode (codeOf 177) 99 = .ok (.iconst 1, 1) := by decide +kernel
theorem d_177_100 : decode (codeOf 177) 100 = .ok (.goto 4, 3) := by decide +kernel
theorem d_177_103 : decode (codeOf 177) 103 = .ok (.iconst 0, 1) := by decide +kernel
theorem d_177_104 : decode (codeOf 177) 104 = .ok (.putfield 216, 3) := by decide +kernel
theorem d_177_107 : decode (codeOf 177) 107 = .ok (.return_, 1) := by decide +kernel
theorem d_178_0 : decode (codeOf 178) 0 = .ok (.iconst 1, 1) := by decide +kernel
theorem d_178_1 : decode (codeOf 178) 1 = .ok (.istore_n 3, 1) := by decide +kernel
theorem d_178_2 : decode (codeOf 178) 2 = .ok (.iconst 0, 1) := by decide +kernel
theorem d_178_3 : decode (codeOf 178) 3 = .ok (.istore 4, 2) := by decide +kernel
theorem d_178_5 : decode (codeOf 178) 5 = .ok (.iload 4, 2) := by decide +kernel
theorem d_178_7 : decode (codeOf 178) 7 = .ok (.iconst 4, 1) := by decide +kernel
theorem d_178_8 : decode (codeOf 178) 8 = .ok (.if_icmp .ge 48, 3) := by decide +kernel
theorem d_178_11 : decode (codeOf 178) 11 = .ok (.iload_n 3, 1) := by decide +kernel
theorem d_178_12 : decode (codeOf 178) 12 = .ok (.ifCond .eq 36, 3) := by decide +kernel
theorem d_178_15 : decode (codeOf 178) 15 = .ok (.aload_n 0, 1) := by decide +kernel
theorem d_178_16 : decode (codeOf 178) 16 = .ok (.iload_n 1, 1) := by decide +kernel
theorem d_178_17 : decode (codeOf 178) 17 = .ok (.aload_n 0, 1) := by decide +kernel
theorem d_178_18 : decode (codeOf 178) 18 = .ok (.getfield 44, 3) := by decide +kernel
theorem d_178_21 : decode (codeOf 178) 21 = .ok (.iload 4, 2) := by decide +kernel
theorem d_178_23 : decode (codeOf 178) 23 = .ok (.iaload, 1) := by decide +kernel
theorem d_178_24 : decode (codeOf 178) 24 = .ok (.aload_n 0, 1) := by decide +kernel
theorem d_178_25 : decode (codeOf 178) 25 = .ok (.getfield 37, 3) := by decide +kernel
theorem d_178_28 : decode (codeOf 178) 28 = .ok (.iload_n 1, 1) := by decide +kernel
theorem d_178_29 : decode (codeOf 178) 29 = .ok (.bipush 30, 2) := by decide +kernel
theorem d_178_31 : decode (codeOf 178) 31 = .ok (.iload_n 2, 1) := by decide +kernel
theorem d_178_32 : decode (codeOf 178) 32 = .ok (.imul, 1) := by decide +kernel
theorem d_178_33 : decode (codeOf 178) 33 = .ok (.iadd, 1) := by decide +kernel
theorem d_178_34 : decode (codeOf 178) 34 = .ok (.iload 4, 2) := by decide +kernel
theorem d_178_36 : decode (codeOf 178) 36 = .ok (.iadd, 1) := by decide +kernel
theorem d_178_37 : decode (codeOf 178) 37 = .ok (.iaload, 1) := by decide +kernel
theorem d_178_38 : decode (codeOf 178) 38 = .ok (.invokevirtual 219, 3) := by decide +kernel
theorem d_178_41 : decode (codeOf 178) 41 = .ok (.ifCond .eq 7, 3) := by decide +kernel
theorem d_178_44 : decode (codeOf 178) 44 = .ok (.iconst 1, 1) := by decide +kernel
theorem d_178_45 : decode (codeOf 178) 45 = .ok (.goto 4, 3) := by decide +kernel
theorem d_178_48 : decode (codeOf 178) 48 = .ok (.iconst 0, 1) := by decide +kernel
theorem d_178_49 : decode (codeOf 178) 49 = .ok (.istore_n 3, 1) := by decide +kernel
theorem d_178_50 : decode (codeOf 178) 50 = .ok (.iinc 4 1, 3) := by decide +kernel
theorem d_178_53 : decode (codeOf 178) 53 = .ok (.goto (-48), 3) := by decide +kernel
theorem d_178_56 : decode (codeOf 178) 56 = .ok (.iload_n 3, 1) := by decide +kernel
theorem d_178_57 : decode (codeOf 178) 57 = .ok (.ireturn, 1) := by decide +kernel
theorem d_179_0 : decode (codeOf 179) 0 = .ok (.aload_n 0, 1) := by decide +kernel
theorem d_179_1 : decode (codeOf 179) 1 = .ok (.getfield 37, 3) := by decide +kernel
theorem d_179_4 : decode (codeOf 179) 4 = .ok (.iload_n 1, 1) := by decide +kernel
theorem d_179_5 : decode (codeOf 179) 5 = .ok (.bipush 30, 2) := by decide +kernel
theorem d_179_7 : decode (codeOf 179) 7 = .ok (.iload_n 2, 1) := by decide +kernel
theorem d_179_8 : decode (codeOf 179) 8 = .ok (.imul, 1) := by decide +kernel
theorem d_179_9 : decode (codeOf 179) 9 = .ok (.iadd, 1) := by decide +kernel
theorem d_179_10 : decode (codeOf 179) 10 = .ok (.iconst 4, 1) := by decide +kernel
theorem d_179_11 : decode (codeOf 179) 11 = .ok (.iadd, 1) := by decide +kernel
theorem d_179_12 : decode (codeOf 179) 12 = .ok (.iaload, 1) := by decide +kernel
theorem d_179_13 : decode (codeOf 179) 13 = .ok (.iconst 1, 1) := by decide +kernel
theorem d_179_14 : decode (codeOf 179) 14 = .ok (.if_icmp .ne 24, 3) := by decide +kernel
theorem d_179_17 : decode (codeOf 179) 17 = .ok (.aload_n 0, 1) := by decide +kernel
theorem d_179_18 : decode (codeOf 179) 18 = .ok (.getfield 213, 3) := by decide +kernel
theorem d_179_21 : decode (codeOf 179) 21 = .ok (.aload_n 0, 1) := by decide +kernel
theorem d_179_22 : decode (codeOf 179) 22 = .ok (.getfield 16, 3) := by decide +kernel
theorem d_179_25 : decode (codeOf 179) 25 = .ok (.iload_n 2, 1) := by decide +kernel
theorem d_179_26 : decode (codeOf 179) 26 = .ok (.iaload, 1) := by decide +kernel
theorem d_179_27 : decode (codeOf 179) 27 = .ok (.if_icmp .lt 7, 3) := by decide +kernel
theorem d_179_30 : decode (codeOf 179) 30 = .ok (.iconst 1, 1) := by decide +kernel
theorem d_179_31 : decode (codeOf 179) 31 = .ok (.goto 32, 3) := by decide +kernel
theorem d_179_34 : decode (codeOf 179) 34 = .ok (.iconst 0, 1) := by decide +kernel
theorem d_179_35 : decode (codeOf 179) 35 = .ok (.goto 28, 3) := by decide +kernel
theorem d_179_38 : decode (codeOf 179) 38 = .ok (.aload_n 0, 1) := by decide +kernel
theorem d_179_39 : decode (codeOf 179) 39 = .ok (.getfield 213, 3) := by decide +kernel
theorem d_179_42 : decode (codeOf 179) 42 = .ok (.aload_n 0, 1) := by decide +kernel
theorem d_179_43 : decode (codeOf 179) 43 = .ok (.getfield 16, 3) := by decide +kernel
theorem d_179_46 : decode (codeOf 179) 46 = .ok (.iload_n 2, 1) := by decide +kernel
theorem d_179_47 : decode (codeOf 179) 47 = .ok (.iaload, 1) := by decide +kernel
theorem d_179_48 : decode (codeOf 179) 48 = .ok (.if_icmp .ne 14, 3) := by decide +kernel
theorem d_179_51 : decode (codeOf 179) 51 = .ok (.aload_n 0, 1) := by decide +kernel
theorem d_179_52 : decode (codeOf 179) 52 = .ok (.getfield 216, 3) := by decide +kernel
theorem d_179_55 : decode (codeOf 179) 55 = .ok (.ifCond .ne 7, 3) := by decide +kernel
theorem d_179_58 : decode (codeOf 179) 58 = .ok (.iconst 1, 1) := by decide +kernel
theorem d_179_59 : decode (codeOf 179) 59 = .ok (.goto 4, 3) := by decide +kernel
theorem d_179_62 : decode (codeOf 179) 62 = .ok (.iconst 0, 1) := by decide +kernel
theorem d_179_63 : decode (codeOf 179) 63 = .ok (.istore_n 3, 1) := by decide +kernel
theorem d_179_64 : decode (codeOf 179) 64 = .ok (.iconst 0, 1) := by decide +kernel
theorem d_179_65 : decode (codeOf 179) 65 = .ok (.istore 4, 2) := by decide +kernel
theorem d_179_67 : decode (codeOf 179) 67 = .ok (.iload 4, 2) := by decide +kernel
theorem d_179_69 : decode (codeOf 179) 69 = .ok (.aload_n 0, 1) := by decide +kernel
theorem d_179_70 : decode (codeOf 179) 70 = .ok (.getfield 16, 3) := by decide +kernel
theorem d_179_73 : decode (codeOf 179) 73 = .ok (.iload_n 2, 1) := by decide +kernel
theorem d_179_74 : decode (codeOf 179) 74 = .ok (.iaload, 1) := by decide +kernel
theorem d_179_75 : decode (codeOf 179) 75 = .ok (.if_icmp .ge 44, 3) := by decide +kernel
theorem d_179_78 : decode (codeOf 179) 78 = .ok (.iload_n 3, 1) := by decide +kernel
theorem d_179_79 : decode (codeOf 179) 79 = .ok (.ifCond .eq 40, 3) := by decide +kernel
theorem d_179_82 : decode (codeOf 179) 82 = .ok (.aload_n 0, 1) := by decide +kernel
theorem d_179_83 : decode (codeOf 179) 83 = .ok (.iload_n 1, 1) := by decide +kernel
theorem d_179_84 : decode (codeOf 179) 84 = .ok (.aload_n 0, 1) := by decide +kernel
theorem d_179_85 : decode (codeOf 179) 85 = .ok (.getfield 47, 3) := by decide +kernel
theorem d_179_88 : decode (codeOf 179) 88 = .ok (.aload_n 0, 1) := by decide +kernel
theorem d_179_89 : decode (codeOf 179) 89 = .ok (.getfield 213, 3) := by decide +kernel
theorem d_179_92 : decode (codeOf 179) 92 = .ok (.iconst 1, 1) := by decide +kernel
theorem d_179_93 : decode (codeOf 179) 93 = .ok (.isub, 1) := by decide +kernel
theorem d_179_94 : decode (codeOf 179) 94 = .ok (.iload 4, 2) := by decide +kernel
theorem d_179_96 : decode (codeOf 179) 96 = .ok (.isub, 1) := by decide +kernel
theorem d_179_97 : decode (codeOf 179) 97 = .ok (.iaload, 1) := by decide +kernel
theorem d_179_98 : decode (codeOf 179) 98 = .ok (.aload_n 0, 1) := by decide +kernel
theorem d_179_99 : decode (codeOf 179) 99 = .ok (.getfield 19, 3) := by decide +kernel
theorem d_179_102 : decode (codeOf 179) 102 = .ok (.iconst 3, 1) := by decide +kernel
theorem d_179_103 : decode (codeOf 179) 103 = .ok (.iload_n 2, 1) := by decide +kernel
theorem d_179_104 : decode (codeOf 179) 104 = .ok (.imul, 1) := by decide +kernel
theorem d_179_105 : decode (codeOf 179) 105 = .ok (.iload 4, 2) := by decide +kernel
theorem d_179_107 : decode (codeOf 179) 107 = .ok (.iadd, 1) := by decide +kernel
theorem d_179_108 : decode (codeOf 179) 108 = .ok (.iaload, 1) := by decide +kernel
theorem d_179_109 : decode (codeOf 179) 109 = .ok (.invokevirtual 219, 3) := by decide +kernel
theorem d_179_112 : decode (codeOf 179) 112 = .ok (.istore_n 3, 1) := by decide +kernel
theorem d_179_113 : decode (codeOf 179) 113 = .ok (.iinc 4 1, 3) := by decide +kernel
theorem d_179_116 : decode (codeOf 179) 116 = .ok (.goto (-49), 3) := by decide +kernel
theorem d_179_119 : decode (codeOf 179) 119 = .ok (.iload_n 3, 1) := by decide +kernel
theorem d_179_120 : decode (codeOf 179) 120 = .ok (.ireturn, 1) := by decide +kernel
theorem d_180_0 : decode (codeOf 180) 0 = .ok (.aload_n 0, 1) := by decide +kernel
theorem d_180_1 : decode (codeOf 180) 1 = .ok (.iload_n 1, 1) := by decide +kernel
theorem d_180_2 : decode (codeOf 180) 2 = .ok (.iload_n 2, 1) := by decide +kernel
theorem d_180_3 : decode (codeOf 180) 3 = .ok (.invokevirtual 222, 3) := by decide +kernel
theorem d_180_6 : decode (codeOf 180) 6 = .ok (.ifCond .ne 8, 3) := by decide +kernel
theorem d_180_9 : decode (codeOf 180) 9 = .ok (.bipush 6, 2) := by decide +kernel
theorem d_180_11 : decode (codeOf 180) 11 = .ok (.goto 18, 3) := by decide +kernel
theorem d_180_14 : decode (codeOf 180) 14 = .ok (.aload_n 0, 1) := by decide +kernel
theorem d_180_15 : decode (codeOf 180) 15 = .ok (.iload_n 1, 1) := by decide +kernel
theorem d_180_16 : decode (codeOf 180) 16 = .ok (.iload_n 2, 1) := by decide +kernel
theorem d_180_17 : decode (codeOf 180) 17 = .ok (.invokevirtual 225, 3) := by decide +kernel
theorem d_180_20 : decode (codeOf 180) 20 = .ok (.ifCond .eq 7, 3) := by decide +kernel
theorem d_180_23 : decode (codeOf 180) 23 = .ok (.iconst 0, 1) := by decide +kernel
theorem d_180_24 : decode (codeOf 180) 24 = .ok (.goto 5, 3) := by decide +kernel
theorem d_180_27 : decode (codeOf 180) 27 = .ok (.bipush 7, 2) := by decide +kernel
theorem d_180_29 : decode (codeOf 180) 29 = .ok (.ireturn, 1) := by decide +kernel
theorem d_181_0 : decode (codeOf 181) 0 = .ok (.iload_n 0, 1) := by decide +kernel
theorem d_181_1 : decode (codeOf 181) 1 = .ok (.i2l, 1) := by decide +kernel
theorem d_181_2 : decode (codeOf 181) 2 = .ok (.ldc2_w 128, 3) := by decide +kernel
theorem d_181_5 : decode (codeOf 181) 5 = .ok (.ldc2_w 134, 3) := by decide +kernel
theorem d_181_8 : decode (codeOf 181) 8 = .ok (.invokestatic 106, 3) := by decide +kernel
theorem d_181_11 : decode (codeOf 181) 11 = .ok (.ifCond .ne 9, 3) := by decide +kernel
theorem d_181_14 : decode (codeOf 181) 14 = .ok (.iload_n 0, 1) := by decide +kernel
theorem d_181_15 : decode (codeOf 181) 15 = .ok (.bipush 9, 2) := by decide +kernel
theorem d_181_17 : decode (codeOf 181) 17 = .ok (.if_icmp .le 7, 3) := by decide +kernel
theorem d_181_20 : decode (codeOf 181) 20 = .ok (.iconst 1, 1) := by decide +kernel
theorem d_181_21 : decode (codeOf 181) 21 = .ok (.goto 4, 3) := by decide +kernel
theorem d_181_24 : decode (codeOf 181) 24 = .ok (.iconst 0, 1) := by decide +kernel
theorem d_181_25 : decode (codeOf 181) 25 = .ok (.ireturn, 1) := by decide +kernel
theorem d_182_0 : decode (codeOf 182) 0 = .ok (.iload_n 0, 1) := by decide +kernel
theorem d_182_1 : decode (codeOf 182) 1 = .ok (.bipush 9, 2) := by decide +kernel
theorem d_182_3 : decode (codeOf 182) 3 = .ok (.if_icmp .le 13, 3) := by decide +kernel
theorem d_182_6 : decode (codeOf 182) 6 = .ok (.iload_n 0, 1) := by decide +kernel
theorem d_182_7 : decode (codeOf 182) 7 = .ok (.bipush 10, 2) := by decide +kernel
theorem d_182_9 : decode (codeOf 182) 9 = .ok (.isub, 1) := by decide +kernel
theorem d_182_10 : decode (codeOf 182) 10 = .ok (.bipush 8, 2) := by decide +kernel
theorem d_182_12 : decode (codeOf 182) 12 = .ok (.idiv, 1) := by decide +kernel
theorem d_182_13 : decode (codeOf 182) 13 = .ok (.goto 6, 3) := by decide +kernel
theorem d_182_16 : decode (codeOf 182) 16 = .ok (.iload_n 0, 1) := by decide +kernel
theorem d_182_17 : decode (codeOf 182) 17 = .ok (.iconst 2, 1) := by decide +kernel
theorem d_182_18 : decode (codeOf 182) 18 = .ok (.isub, 1) := by decide +kernel
theorem d_182_19 : decode (codeOf 182) 19 = .ok (.ireturn, 1) := by decide +kernel
theorem d_183_0 : decode (codeOf 183) 0 = .ok (.iload_n 1, 1) := by decide +kernel
theorem d_183_1 : decode (codeOf 183) 1 = .ok (.bipush 9, 2) := by decide +kernel
theorem d_183_3 : decode (codeOf 183) 3 = .ok (.if_icmp .le 13, 3) := by decide +kernel
theorem d_183_6 : decode (codeOf 183) 6 = .ok (.iload_n 1, 1) := by decide +kernel
theorem d_183_7 : decode (codeOf 183) 7 = .ok (.bipush 10, 2) := by decide +kernel
theorem d_183_9 : decode (codeOf 183) 9 = .ok (.isub, 1) := by decide +kernel
theorem d_183_10 : decode (codeOf 183) 10 = .ok (.bipush 8, 2) := by decide +kernel
theorem d_183_12 : decode (codeOf 183) 12 = .ok (.irem, 1) := by decide +kernel
theorem d_183_13 : decode (codeOf 183) 13 = .ok (.goto 15, 3) := by decide +kernel
theorem d_183_16 : decode (codeOf 183) 16 = .ok (.iconst 1, 1) := by decide +kernel
theorem d_183_17 : decode (codeOf 183) 17 = .ok (.aload_n 0, 1) := by decide +kernel
theorem d_183_18 : decode (codeOf 183) 18 = .ok (.getfield 7, 3) := by decide +kernel
theorem d_183_21 : decode (codeOf 183) 21 = .ok (.iload_n 1, 1) := by decide +kernel
theorem d_183_22 : decode (codeOf 183) 22 = .ok (.iconst 2, 1) := by decide +kernel
theorem d_183_23 : decode (codeOf 183) 23 = .ok (.isub, 1) := by decide +kernel
theorem d_183_24 : decode (codeOf 183) 24 = .ok (.iaload, 1) := by decide +kernel
theorem d_183_25 : decode (codeOf 183) 25 = .ok (.ishl, 1) := by decide +kernel
theorem d_183_26 : decode (codeOf 183) 26 = .ok (.iconst 1, 1) := by decide +kernel
theorem d_183_27 : decode (codeOf 183) 27 = .ok (.isub, 1) := by decide +kernel
theorem d_183_28 : decode (codeOf 183) 28 = .ok (.ireturn, 1) := by decide +kernel
theorem d_184_0 : decode (codeOf 184) 0 = .ok (.aload_n 0, 1) := by decide +kernel
theorem d_184_1 : decode (codeOf 184) 1 = .ok (.getfield 44, 3) := by decide +kernel
theorem d_184_4 : decode (codeOf 184) 4 = .ok (.iload_n 2, 1) := by decide +kernel
theorem d_184_5 : decode (codeOf 184) 5 = .ok (.iaload, 1) := by decide +kernel
theorem d_184_6 : decode (codeOf 184) 6 = .ok (.istore 5, 2) := by decide +kernel
theorem d_184_8 : decode (codeOf 184) 8 = .ok (.iload 5, 2) := by decide +kernel
theorem d_184_10 : decode (codeOf 184) 10 = .ok (.invokestatic 228, 3) := by decide +kernel
theorem d_184_13 : decode (codeOf 184) 13 = .ok (.ifCond .ne 5, 3) := by decide +kernel
theorem d_184_16 : decode (codeOf 184) 16 = .ok (.iconst 2, 1) := by decide +kernel
theorem d_184_17 : decode (codeOf 184) 17 = .ok (.ireturn, 1) := by decide +kernel
theorem d_184_18 : decode (codeOf 184) 18 = .ok (.iload 5, 2) := by decide +kernel
theorem d_184_20 : decode (codeOf 184) 20 = .ok (.invokestatic 231, 3) := by decide +kernel
theorem d_184_23 : decode (codeOf 184) 23 = .ok (.istore 6, 2) := by decide +kernel
theorem d_184_25 : decode (codeOf 184) 25 = .ok (.iload_n 3, 1) := by decide +kernel
theorem d_184_26 : decode (codeOf 184) 26 = .ok (.aload_n 0, 1) := by decide +kernel
theorem d_184_27 : decode (codeOf 184) 27 = .ok (.getfield 7, 3) := by decide +kernel
theorem d_184_30 : decode (codeOf 184) 30 = .ok (.iload 6, 2) := by decide +kernel
theorem d_184_32 : decode (codeOf 184) 32 = .ok (.iaload, 1) := by decide +kernel
theorem d_184_33 : decode (codeOf 184) 33 = .ok (.if_icmp .lt 5, 3) := by decide +kernel
theorem d_184_36 : decode (codeOf 184) 36 = .ok (.iconst 3, 1) := by decide +kernel
theorem d_184_37 : decode (codeOf 184) 37 = .ok (.ireturn, 1) := by decide +kernel
theorem d_184_38 : decode (codeOf 184) 38 = .ok (.aload_n 0, 1) := by decide +kernel
theorem d_184_39 : decode (codeOf 184) 39 = .ok (.iload_n 1, 1) := by decide +kernel
theorem d_184_40 : decode (codeOf 184) 40 = .ok (.aload_n 0, 1) := by decide +kernel
theorem d_184_41 : decode (codeOf 184) 41 = .ok (.getfield 44, 3) := by decide +kernel
theorem d_184_44 : decode (codeOf 184) 44 = .ok (.iload 4, 2) := by decide +kernel
theorem d_184_46 : decode (codeOf 184) 46 = .ok (.iaload, 1) := by decide +kernel
theorem d_184_47 : decode (codeOf 184) 47 = .ok (.aload_n 0, 1) := by decide +kernel
theorem d_184_48 : decode (codeOf 184) 48 = .ok (.getfield 13, 3) := by decide +kernel
theorem d_184_51 : decode (codeOf 184) 51 = .ok (.iconst 3, 1) := by decide +kernel
theorem d_184_52 : decode (codeOf 184) 52 = .ok (.iload 6, 2) := by decide +kernel
theorem d_184_54 : decode (codeOf 184) 54 = .ok (.imul, 1) := by decide +kernel
