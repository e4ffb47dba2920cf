theorem d_0_0 : decode (codeOf 0) 0 = .ok (.aload_n 0, 1) := by decide +kernel
theorem d_0_1 : decode (codeOf 0) 1 = .ok (.invokespecial 3, 3) := by decide +kernel
theorem d_0_4 : decode (codeOf 0) 4 = .ok (.aload_n 0, 1) := by decide +kernel
theorem d_0_5 : decode (codeOf 0) 5 = .ok (.new 9, 3) := by decide +kernel
theorem d_0_8 : decode (codeOf 0) 8 = .ok (.dup, 1) := by decide +kernel
theorem d_0_9 : decode (codeOf 0) 9 = .ok (.invokespecial 11, 3) := by decide +kernel
theorem d_0_12 : decode (codeOf 0) 12 = .ok (.putfield 12, 3) := by decide +kernel
theorem d_0_15 : decode (codeOf 0) 15 = .ok (.aload_n 0, 1) := by decide +kernel
theorem d_0_16 : decode (codeOf 0) 16 = .ok (.iconst 4, 1) := by decide +kernel
theorem d_0_17 : decode (codeOf 0) 17 = .ok (.newarray .int, 2) := by decide +kernel
theorem d_0_19 : decode (codeOf 0) 19 = .ok (.putfield 18, 3) := by decide +kernel
theorem d_0_22 : decode (codeOf 0) 22 = .ok (.aload_n 0, 1) := by decide +kernel
theorem d_0_23 : decode (codeOf 0) 23 = .ok (.bipush 6, 2) := by decide +kernel
theorem d_0_25 : decode (codeOf 0) 25 = .ok (.newarray .int, 2) := by decide +kernel
theorem d_0_27 : decode (codeOf 0) 27 = .ok (.putfield 22, 3) := by decide +kernel
theorem d_0_30 : decode (codeOf 0) 30 = .ok (.aload_n 0, 1) := by decide +kernel
theorem d_0_31 : decode (codeOf 0) 31 = .ok (.iconst 4, 1) := by decide +kernel
theorem d_0_32 : decode (codeOf 0) 32 = .ok (.newarray .int, 2) := by decide +kernel
theorem d_0_34 : decode (codeOf 0) 34 = .ok (.putfield 25, 3) := by decide +kernel
theorem d_0_37 : decode (codeOf 0) 37 = .ok (.aload_n 0, 1) := by decide +kernel
theorem d_0_38 : decode (codeOf 0) 38 = .ok (.bipush 16, 2) := by decide +kernel
theorem d_0_40 : decode (codeOf 0) 40 = .ok (.newarray .boolean, 2) := by decide +kernel
theorem d_0_42 : decode (codeOf 0) 42 = .ok (.putfield 28, 3) := by decide +kernel
theorem d_0_45 : decode (codeOf 0) 45 = .ok (.return_, 1) := by decide +kernel
theorem d_1_0 : decode (codeOf 1) 0 = .ok (.aload_n 1, 1) := by decide +kernel
theorem d_1_1 : decode (codeOf 1) 1 = .ok (.ifnonnull 4, 3) := by decide +kernel
theorem d_1_4 : decode (codeOf 1) 4 = .ok (.return_, 1) := by decide +kernel
theorem d_1_5 : decode (codeOf 1) 5 = .ok (.aload_n 0, 1) := by decide +kernel
theorem d_1_6 : decode (codeOf 1) 6 = .ok (.aload_n 1, 1) := by decide +kernel
theorem d_1_7 : decode (codeOf 1) 7 = .ok (.putfield 12, 3) := by decide +kernel
theorem d_1_10 : decode (codeOf 1) 10 = .ok (.iconst 0, 1) := by decide +kernel
theorem d_1_11 : decode (codeOf 1) 11 = .ok (.istore_n 2, 1) := by decide +kernel
theorem d_1_12 : decode (codeOf 1) 12 = .ok (.iload_n 2, 1) := by decide +kernel
theorem d_1_13 : decode (codeOf 1) 13 = .ok (.iconst 4, 1) := by decide +kernel
theorem d_1_14 : decode (codeOf 1) 14 = .ok (.if_icmp .ge 38, 3) := by decide +kernel
theorem d_1_17 : decode (codeOf 1) 17 = .ok (.iconst 0, 1) := by decide +kernel
theorem d_1_18 : decode (codeOf 1) 18 = .ok (.istore_n 3, 1) := by decide +kernel
theorem d_1_19 : decode (codeOf 1) 19 = .ok (.iload_n 3, 1) := by decide +kernel
theorem d_1_20 : decode (codeOf 1) 20 = .ok (.iconst 4, 1) := by decide +kernel
theorem d_1_21 : decode (codeOf 1) 21 = .ok (.if_icmp .ge 25, 3) := by decide +kernel
theorem d_1_24 : decode (codeOf 1) 24 = .ok (.aload_n 0, 1) := by decide +kernel
theorem d_1_25 : decode (codeOf 1) 25 = .ok (.getfield 28, 3) := by decide +kernel
theorem d_1_28 : decode (codeOf 1) 28 = .ok (.iload_n 2, 1) := by decide +kernel
theorem d_1_29 : decode (codeOf 1) 29 = .ok (.iconst 4, 1) := by decide +kernel
theorem d_1_30 : decode (codeOf 1) 30 = .ok (.imul, 1) := by decide +kernel
theorem d_1_31 : decode (codeOf 1) 31 = .ok (.iload_n 3, 1) := by decide +kernel
theorem d_1_32 : decode (codeOf 1) 32 = .ok (.iadd, 1) := by decide +kernel
theorem d_1_33 : decode (codeOf 1) 33 = .ok (.aload_n 0, 1) := by decide +kernel
theorem d_1_34 : decode (codeOf 1) 34 = .ok (.iload_n 3, 1) := by decide +kernel
theorem d_1_35 : decode (codeOf 1) 35 = .ok (.iload_n 2, 1) := by decide +kernel
theorem d_1_36 : decode (codeOf 1) 36 = .ok (.invokevirtual 32, 3) := by decide +kernel
theorem d_1_39 : decode (codeOf 1) 39 = .ok (.bastore, 1) := by decide +kernel
theorem d_1_40 : decode (codeOf 1) 40 = .ok (.iinc 3 1, 3) := by decide +kernel
theorem d_1_43 : decode (codeOf 1) 43 = .ok (.goto (-24), 3) := by decide +kernel
theorem d_1_46 : decode (codeOf 1) 46 = .ok (.iinc 2 1, 3) := by decide +kernel
theorem d_1_49 : decode (codeOf 1) 49 = .ok (.goto (-37), 3) := by decide +kernel
theorem d_1_52 : decode (codeOf 1) 52 = .ok (.iconst 0, 1) := by decide +kernel
theorem d_1_53 : decode (codeOf 1) 53 = .ok (.istore_n 2, 1) := by decide +kernel
theorem d_1_54 : decode (codeOf 1) 54 = .ok (.iload_n 2, 1) := by decide +kernel
theorem d_1_55 : decode (codeOf 1) 55 = .ok (.iconst 4, 1) := by decide +kernel
theorem d_1_56 : decode (codeOf 1) 56 = .ok (.if_icmp .ge 27, 3) := by decide +kernel
theorem d_1_59 : decode (codeOf 1) 59 = .ok (.aload_n 0, 1) := by decide +kernel
theorem d_1_60 : decode (codeOf 1) 60 = .ok (.getfield 25, 3) := by decide +kernel
theorem d_1_63 : decode (codeOf 1) 63 = .ok (.iload_n 2, 1) := by decide +kernel
theorem d_1_64 : decode (codeOf 1) 64 = .ok (.iconst 1, 1) := by decide +kernel
theorem d_1_65 : decode (codeOf 1) 65 = .ok (.aload_n 0, 1) := by decide +kernel
theorem d_1_66 : decode (codeOf 1) 66 = .ok (.getfield 12, 3) := by decide +kernel
theorem d_1_69 : decode (codeOf 1) 69 = .ok (.iload_n 2, 1) := by decide +kernel
theorem d_1_70 : decode (codeOf 1) 70 = .ok (.invokevirtual 36, 3) := by decide +kernel
theorem d_1_73 : decode (codeOf 1) 73 = .ok (.ishl, 1) := by decide +kernel
theorem d_1_74 : decode (codeOf 1) 74 = .ok (.iconst 1, 1) := by decide +kernel
theorem d_1_75 : decode (codeOf 1) 75 = .ok (.isub, 1) := by decide +kernel
theorem d_1_76 : decode (codeOf 1) 76 = .ok (.iastore, 1) := by decide +kernel
theorem d_1_77 : decode (codeOf 1) 77 = .ok (.iinc 2 1, 3) := by decide +kernel
theorem d_1_80 : decode (codeOf 1) 80 = .ok (.goto (-26), 3) := by decide +kernel
theorem d_1_83 : decode (codeOf 1) 83 = .ok (.return_, 1) := by decide +kernel
theorem d_2_0 : decode (codeOf 2) 0 = .ok (.aload_n 0, 1) := by decide +kernel
theorem d_2_1 : decode (codeOf 2) 1 = .ok (.getfield 12, 3) := by decide +kernel
theorem d_2_4 : decode (codeOf 2) 4 = .ok (.iload_n 2, 1) := by decide +kernel
theorem d_2_5 : decode (codeOf 2) 5 = .ok (.invokevirtual 40, 3) := by decide +kernel
theorem d_2_8 : decode (codeOf 2) 8 = .ok (.istore_n 3, 1) := by decide +kernel
theorem d_2_9 : decode (codeOf 2) 9 = .ok (.aload_n 0, 1) := by decide +kernel
theorem d_2_10 : decode (codeOf 2) 10 = .ok (.getfield 12, 3) := by decide +kernel
theorem d_2_13 : decode (codeOf 2) 13 = .ok (.iload_n 1, 1) := by decide +kernel
theorem d_2_14 : decode (codeOf 2) 14 = .ok (.invokevirtual 40, 3) := by decide +kernel
theorem d_2_17 : decode (codeOf 2) 17 = .ok (.aload_n 0, 1) := by decide +kernel
theorem d_2_18 : decode (codeOf 2) 18 = .ok (.getfield 12, 3) := by decide +kernel
theorem d_2_21 : decode (codeOf 2) 21 = .ok (.iload_n 1, 1) := by decide +kernel
theorem d_2_22 : decode (codeOf 2) 22 = .ok (.invokevirtual 43, 3) := by decide +kernel
theorem d_2_25 : decode (codeOf 2) 25 = .ok (.iload_n 3, 1) := by decide +kernel
theorem d_2_26 : decode (codeOf 2) 26 = .ok (.aload_n 0, 1) := by decide +kernel
theorem d_2_27 : decode (codeOf 2) 27 = .ok (.getfield 12, 3) := by decide +kernel
theorem d_2_30 : decode (codeOf 2) 30 = .ok (.iload_n 2, 1) := by decide +kernel
theorem d_2_31 : decode (codeOf 2) 31 = .ok (.invokevirtual 43, 3) := by decide +kernel
theorem d_2_34 : decode (codeOf 2) 34 = .ok (.invokestatic 46, 3) := by decide +kernel
theorem d_2_37 : decode (codeOf 2) 37 = .ok (.ifCond .ne 5, 3) := by decide +kernel
theorem d_2_40 : decode (codeOf 2) 40 = .ok (.iconst 0, 1) := by decide +kernel
theorem d_2_41 : decode (codeOf 2) 41 = .ok (.ireturn, 1) := by decide +kernel
theorem d_2_42 : decode (codeOf 2) 42 = .ok (.iconst 0, 1) := by decide +kernel
theorem d_2_43 : decode (codeOf 2) 43 = .ok (.istore 4, 2) := by decide +kernel
theorem d_2_45 : decode (codeOf 2) 45 = .ok (.iload 4, 2) := by decide +kernel
theorem d_2_47 : decode (codeOf 2) 47 = .ok (.iconst 4, 1) := by decide +kernel
theorem d_2_48 : decode (codeOf 2) 48 = .ok (.if_icmp .ge 37, 3) := by decide +kernel
theorem d_2_51 : decode (codeOf 2) 51 = .ok (.aload_n 0, 1) := by decide +kernel
theorem d_2_52 : decode (codeOf 2) 52 = .ok (.getfield 12, 3) := by decide +kernel
theorem d_2_55 : decode (codeOf 2) 55 = .ok (.iload_n 1, 1) := by decide +kernel
theorem d_2_56 : decode (codeOf 2) 56 = .ok (.iload 4, 2) := by decide +kernel
theorem d_2_58 : decode (codeOf 2) 58 = .ok (.invokevirtual 50, 3) := by decide +kernel
theorem d_2_61 : decode (codeOf 2) 61 = .ok (.aload_n 0, 1) := by decide +kernel
theorem d_2_62 : decode (codeOf 2) 62 = .ok (.getfield 12, 3) := by decide +kernel
theorem d_2_65 : decode (codeOf 2) 65 = .ok (.iload_n 2, 1) := by decide +kernel
theorem d_2_66 : decode (codeOf 2) 66 = .ok (.iload 4, 2) := by decide +kernel
theorem d_2_68 : decode (codeOf 2) 68 = .ok (.invokevirtual 50, 3) := by decide +kernel
theorem d_2_71 : decode (codeOf 2) 71 = .ok (.invokestatic 54, 3) := by decide +kernel
theorem d_2_74 : decode (codeOf 2) 74 = .ok (.ifCond .ne 5, 3) := by decide +kernel
theorem d_2_77 : decode (codeOf 2) 77 = .ok (.iconst 0, 1) := by decide +kernel
theorem d_2_78 : decode (codeOf 2) 78 = .ok (.ireturn, 1) := by decide +kernel
theorem d_2_79 : decode (codeOf 2) 79 = .ok (.iinc 4 1, 3) := by decide +kernel
theorem d_2_82 : decode (codeOf 2) 82 = .ok (.goto (-37), 3) := by decide +kernel
theorem d_2_85 : decode (codeOf 2) 85 = .ok (.iconst 0, 1) := by decide +kernel
theorem d_2_86 : decode (codeOf 2) 86 = .ok (.istore 4, 2) := by decide +kernel
theorem d_2_88 : decode (codeOf 2) 88 = .ok (.iload 4, 2) := by decide +kernel
theorem d_2_90 : decode (codeOf 2) 90 = .ok (.iload_n 3, 1) := by decide +kernel
theorem d_2_91 : decode (codeOf 2) 91 = .ok (.if_icmp .ge 37, 3) := by decide +kernel
theorem d_2_94 : decode (codeOf 2) 94 = .ok (.aload_n 0, 1) := by decide +kernel
theorem d_2_95 : decode (codeOf 2) 95 = .ok (.getfield 12, 3) := by decide +kernel
theorem d_2_98 : decode (codeOf 2) 98 = .ok (.iload_n 1, 1) := by decide +kernel
theorem d_2_99 : decode (codeOf 2) 99 = .ok (.iload 4, 2) := by decide +kernel
theorem d_2_101 : decode (codeOf 2) 101 = .ok (.invokevirtual 57, 3) := by decide +kernel
theorem d_2_104 : decode (codeOf 2) 104 = .ok (.aload_n 0, 1) := by decide +kernel
theorem d_2_105 : decode (codeOf 2) 105 = .ok (.getfield 12, 3) := by decide +kernel
theorem d_2_108 : decode (codeOf 2) 108 = .ok (.iload_n 2, 1) := by decide +kernel
theorem d_2_109 : decode (codeOf 2) 109 = .ok (.iload 4, 2) := by decide +kernel
theorem d_2_111 : decode (codeOf 2) 111 = .ok (.invokevirtual 57, 3) := by decide +kernel
theorem d_2_114 : decode (codeOf 2) 114 = .ok (.invokestatic 54, 3) := by decide +kernel
theorem d_2_117 : decode (codeOf 2) 117 = .ok (.ifCond .ne 5, 3) := by decide +kernel
theorem d_2_120 : decode (codeOf 2) 120 = .ok (.iconst 0, 1) := by decide +kernel
theorem d_2_121 : decode (codeOf 2) 121 = .ok (.ireturn, 1) := by decide +kernel
theorem d_2_122 : decode (codeOf 2) 122 = .ok (.iinc 4 1, 3) := by decide +kernel
theorem d_2_125 : decode (codeOf 2) 125 = .ok (.goto (-37), 3) := by decide +kernel
theorem d_2_128 : decode (codeOf 2) 128 = .ok (.iconst 1, 1) := by decide +kernel
theorem d_2_129 : decode (codeOf 2) 129 = .ok (.ireturn, 1) := by decide +kernel
theorem d_3_0 : decode (codeOf 3) 0 = .ok (.iload_n 1, 1) := by decide +kernel
theorem d_3_1 : decode (codeOf 3) 1 = .ok (.ifCond .eq 8, 3) := by decide +kernel
theorem d_3_4 : decode (codeOf 3) 4 = .ok (.iload_n 0, 1) := by decide +kernel
theorem d_3_5 : decode (codeOf 3) 5 = .ok (.iload_n 1, 1) := by decide +kernel
theorem d_3_6 : decode (codeOf 3) 6 = .ok (.if_icmp .ne 7, 3) := by decide +kernel
theorem d_3_9 : decode (codeOf 3) 9 = .ok (.iconst 1, 1) := by decide +kernel
theorem d_3_10 : decode (codeOf 3) 10 = .ok (.goto 4, 3) := by decide +kernel
theorem d_3_13 : decode (codeOf 3) 13 = .ok (.iconst 0, 1) := by decide +kernel
theorem d_3_14 : decode (codeOf 3) 14 = .ok (.ireturn, 1) := by decide +kernel
theorem d_4_0 : decode (codeOf 4) 0 = .ok (.iload_n 3, 1) := by decide +kernel
theorem d_4_1 : decode (codeOf 4) 1 = .ok (.iconst 1, 1) := by decide +kernel
theorem d_4_2 : decode (codeOf 4) 2 = .ok (.if_icmp .ne 16, 3) := by decide +kernel
theorem d_4_5 : decode (codeOf 4) 5 = .ok (.iload_n 0, 1) := by decide +kernel
theorem d_4_6 : decode (codeOf 4) 6 = .ok (.iload_n 2, 1) := by decide +kernel
theorem d_4_7 : decode (codeOf 4) 7 = .ok (.if_icmp .lt 7, 3) := by decide +kernel
theorem d_4_10 : decode (codeOf 4) 10 = .ok (.iconst 1, 1) := by decide +kernel
theorem d_4_11 : decode (codeOf 4) 11 = .ok (.goto 21, 3) := by decide +kernel
theorem d_4_14 : decode (codeOf 4) 14 = .ok (.iconst 0, 1) := by decide +kernel
theorem d_4_15 : decode (codeOf 4) 15 = .ok (.goto 17, 3) := by decide +kernel
theorem d_4_18 : decode (codeOf 4) 18 = .ok (.iload_n 0, 1) := by decide +kernel
theorem d_4_19 : decode (codeOf 4) 19 = .ok (.iload_n 2, 1) := by decide +kernel
theorem d_4_20 : decode (codeOf 4) 20 = .ok (.if_icmp .ne 11, 3) := by decide +kernel
theorem d_4_23 : decode (codeOf 4) 23 = .ok (.iload_n 1, 1) := by decide +kernel
theorem d_4_24 : decode (codeOf 4) 24 = .ok (.ifCond .ne 7, 3) := by decide +kernel
theorem d_4_27 : decode (codeOf 4) 27 = .ok (.iconst 1, 1) := by decide +kernel
theorem d_4_28 : decode (codeOf 4) 28 = .ok (.goto 4, 3) := by decide +kernel
theorem d_4_31 : decode (codeOf 4) 31 = .ok (.iconst 0, 1) := by decide +kernel
theorem d_4_32 : decode (codeOf 4) 32 = .ok (.ireturn, 1) := by decide +kernel
theorem d_5_0 : decode (codeOf 5) 0 = .ok (.iload_n 1, 1) := by decide +kernel
theorem d_5_1 : decode (codeOf 5) 1 = .ok (.iload_n 2, 1) := by decide +kernel
theorem d_5_2 : decode (codeOf 5) 2 = .ok (.invokestatic 54, 3) := by decide +kernel
theorem d_5_5 : decode (codeOf 5) 5 = .ok (.ifCond .eq 5, 3) := by decide +kernel
theorem d_5_8 : decode (codeOf 5) 8 = .ok (.iconst 1, 1) := by decide +kernel
theorem d_5_9 : decode (codeOf 5) 9 = .ok (.ireturn, 1) := by decide +kernel
theorem d_5_10 : decode (codeOf 5) 10 = .ok (.iload_n 1, 1) := by decide +kernel
theorem d_5_11 : decode (codeOf 5) 11 = .ok (.invokestatic 60, 3) := by decide +kernel
theorem d_5_14 : decode (codeOf 5) 14 = .ok (.ifCond .eq 10, 3) := by decide +kernel
theorem d_5_17 : decode (codeOf 5) 17 = .ok (.iload_n 2, 1) := by decide +kernel
theorem d_5_18 : decode (codeOf 5) 18 = .ok (.invokestatic 60, 3) := by decide +kernel
theorem d_5_21 : decode (codeOf 5) 21 = .ok (.ifCond .ne 5, 3) := by decide +kernel
theorem d_5_24 : decode (codeOf 5) 24 = .ok (.iconst 0, 1) := by decide +kernel
theorem d_5_25 : decode (codeOf 5) 25 = .ok (.ireturn, 1) := by decide +kernel
theorem d_5_26 : decode (codeOf 5) 26 = .ok (.iload_n 1, 1) := by decide +kernel
theorem d_5_27 : decode (codeOf 5) 27 = .ok (.bipush 6, 2) := by decide +kernel
theorem d_5_29 : decode (codeOf 5) 29 = .ok (.isub, 1) := by decide +kernel
theorem d_5_30 : decode (codeOf 5) 30 = .ok (.iconst 4, 1) := by decide +kernel
theorem d_5_31 : decode (codeOf 5) 31 = .ok (.imul, 1) := by decide +kernel
theorem d_5_32 : decode (codeOf 5) 32 = .ok (.iload_n 2, 1) := by decide +kernel
theorem d_5_33 : decode (codeOf 5) 33 = .ok (.iadd, 1) := by decide +kernel
theorem d_5_34 : decode (codeOf 5) 34 = .ok (.bipush 6, 2) := by decide +kernel
theorem d_5_36 : decode (codeOf 5) 36 = .ok (.isub, 1) := by decide +kernel
theorem d_5_37 : decode (codeOf 5) 37 = .ok (.istore_n 3, 1) := by decide +kernel
theorem d_5_38 : decode (codeOf 5) 38 = .ok (.iload_n 3, 1) := by decide +kernel
theorem d_5_39 : decode (codeOf 5) 39 = .ok (.ifCond .lt 25, 3) := by decide +kernel
theorem d_5_42 : decode (codeOf 5) 42 = .ok (.iload_n 3, 1) := by decide +kernel
theorem d_5_43 : decode (codeOf 5) 43 = .ok (.aload_n 0, 1) := by decide +kernel
theorem d_5_44 : decode (codeOf 5) 44 = .ok (.getfield 28, 3) := by decide +kernel
theorem d_5_47 : decode (codeOf 5) 47 = .ok (.arraylength, 1) := by decide +kernel
theorem d_5_48 : decode (codeOf 5) 48 = .ok (.if_icmp .ge 16, 3) := by decide +kernel
theorem d_5_51 : decode (codeOf 5) 51 = .ok (.aload_n 0, 1) := by decide +kernel
theorem d_5_52 : decode (codeOf 5) 52 = .ok (.getfield 28, 3) := by decide +kernel
theorem d_5_55 : decode (codeOf 5) 55 = .ok (.iload_n 3, 1) := by decide +kernel
theorem d_5_56 : decode (codeOf 5) 56 = .ok (.baload, 1) := by decide +kernel
theorem d_5_57 : decode (codeOf 5) 57 = .ok (.ifCond .eq 7, 3) := by decide +kernel
theorem d_5_60 : decode (codeOf 5) 60 = .ok (.iconst 1, 1) := by decide +kernel
theorem d_5_61 : decode (codeOf 5) 61 = .ok (.goto 4, 3) := by decide +kernel
theorem d_5_64 : decode (codeOf 5) 64 = .ok (.iconst 0, 1) := by decide +kernel
theorem d_5_65 : decode (codeOf 5) 65 = .ok (.ireturn, 1) := by decide +kernel
theorem d_6_0 : decode (codeOf 6) 0 = .ok (.iload_n 0, 1) := by decide +kernel
theorem d_6_1 : decode (codeOf 6) 1 = .ok (.bipush 6, 2) := by decide +kernel
theorem d_6_3 : decode (codeOf 6) 3 = .ok (.if_icmp .lt 13, 3) := by decide +kernel
theorem d_6_6 : decode (codeOf 6) 6 = .ok (.iload_n 0, 1) := by decide +kernel
theorem d_6_7 : decode (codeOf 6) 7 = .ok (.bipush 10, 2) := by decide +kernel
theorem d_6_9 : decode (codeOf 6) 9 = .ok (.if_icmp .ge 7, 3) := by decide +kernel
theorem d_6_12 : decode (codeOf 6) 12 = .ok (.iconst 1, 1) := by decide +kernel
theorem d_6_13 : decode (codeOf 6) 13 = .ok (.goto 4, 3) := by decide +kernel
theorem d_6_16 : decode (codeOf 6) 16 = .ok (.iconst 0, 1) := by decide +kernel
theorem d_6_17 : decode (codeOf 6) 17 = .ok (.ireturn, 1) := by decide +kernel
theorem d_7_0 : decode (codeOf 7) 0 = .ok (.iload_n 1, 1) := by decide +kernel
theorem d_7_1 : decode (codeOf 7) 1 = .ok (.ifCond .lt 17, 3) := by decide +kernel
theorem d_7_4 : decode (codeOf 7) 4 = .ok (.iload_n 1, 1) := by decide +kernel
theorem d_7_5 : decode (codeOf 7) 5 = .ok (.iconst 4, 1) := by decide +kernel
theorem d_7_6 : decode (codeOf 7) 6 = .ok (.if_icmp .ge 12, 3) := by decide +kernel
theorem d_7_9 : decode (codeOf 7) 9 = .ok (.aload_n 0, 1) := by decide +kernel
theorem d_7_10 : decode (codeOf 7) 10 = .ok (.getfield 18, 3) := by decide +kernel
theorem d_7_13 : decode (codeOf 7) 13 = .ok (.iload_n 1, 1) := by decide +kernel
theorem d_7_14 : decode (codeOf 7) 14 = .ok (.iaload, 1) := by decide +kernel
theorem d_7_15 : decode (codeOf 7) 15 = .ok (.goto 4, 3) := by decide +kernel
theorem d_7_18 : decode (codeOf 7) 18 = .ok (.iconst 0, 1) := by decide +kernel
theorem d_7_19 : decode (codeOf 7) 19 = .ok (.ireturn, 1) := by decide +kernel
theorem d_8_0 : decode (codeOf 8) 0 = .ok (.iload_n 1, 1) := by decide +kernel
theorem d_8_1 : decode (codeOf 8) 1 = .ok (.ifCond .lt 15, 3) := by decide +kernel
theorem d_8_4 : decode (codeOf 8) 4 = .ok (.iload_n 1, 1) := by decide +kernel
theorem d_8_5 : decode (codeOf 8) 5 = .ok (.iconst 4, 1) := by decide +kernel
theorem d_8_6 : decode (codeOf 8) 6 = .ok (.if_icmp .ge 10, 3) := by decide +kernel
theorem d_8_9 : decode (codeOf 8) 9 = .ok (.aload_n 0, 1) := by decide +kernel
theorem d_8_10 : decode (codeOf 8) 10 = .ok (.getfield 18, 3) := by decide +kernel
theorem d_8_13 : decode (codeOf 8) 13 = .ok (.iload_n 1, 1) := by decide +kernel
theorem d_8_14 : decode (codeOf 8) 14 = .ok (.iload_n 2, 1) := by decide +kernel
theorem d_8_15 : decode (codeOf 8) 15 = .ok (.iastore, 1) := by decide +kernel
theorem d_8_16 : decode (codeOf 8) 16 = .ok (.return_, 1) := by decide +kernel
theorem d_9_0 : decode (codeOf 9) 0 = .ok (.aload_n 0, 1) := by decide +kernel
theorem d_9_1 : decode (codeOf 9) 1 = .ok (.getfield 64, 3) := by decide +kernel
theorem d_9_4 : decode (codeOf 9) 4 = .ok (.iconst 1, 1) := by decide +kernel
theorem d_9_5 : decode (codeOf 9) 5 = .ok (.isub, 1) := by decide +kernel
theorem d_9_6 : decode (codeOf 9) 6 = .ok (.iload_n 1, 1) := by decide +kernel
theorem d_9_7 : decode (codeOf 9) 7 = .ok (.isub, 1) := by decide +kernel
theorem d_9_8 : decode (codeOf 9) 8 = .ok (.istore_n 2, 1) := by decide +kernel
theorem d_9_9 : decode (codeOf 9) 9 = .ok (.iload_n 2, 1) := by decide +kernel
theorem d_9_10 : decode (codeOf 9) 10 = .ok (.ifCond .lt 18, 3) := by decide +kernel
theorem d_9_13 : decode (codeOf 9) 13 = .ok (.iload_n 2, 1) := by decide +kernel
theorem d_9_14 : decode (codeOf 9) 14 = .ok (.bipush 6, 2) := by decide +kernel
theorem d_9_16 : decode (codeOf 9) 16 = .ok (.if_icmp .ge 12, 3) := by decide +kernel
theorem d_9_19 : decode (codeOf 9) 19 = .ok (.aload_n 0, 1) := by decide +kernel
theorem d_9_20 : decode (codeOf 9) 20 = .ok (.getfield 22, 3) := by decide +kernel
theorem d_9_23 : decode (codeOf 9) 23 = .ok (.iload_n 2, 1) := by decide +kernel
theorem d_9_24 : decode (codeOf 9) 24 = .ok (.iaload, 1) := by decide +kernel
theorem d_9_25 : decode (codeOf 9) 25 = .ok (.goto 4, 3) := by decide +kernel
theorem d_9_28 : decode (codeOf 9) 28 = .ok (.iconst 0, 1) := by decide +kernel
theorem d_9_29 : decode (codeOf 9) 29 = .ok (.ireturn, 1) := by decide +kernel
theorem d_10_0 : decode (codeOf 10) 0 = .ok (.iconst 0, 1) := by decide +kernel
theorem d_10_1 : decode (codeOf 10) 1 = .ok (.istore_n 2, 1) := by decide +kernel
theorem d_10_2 : decode (codeOf 10) 2 = .ok (.iload_n 2, 1) := by decide +kernel
theorem d_10_3 : decode (codeOf 10) 3 = .ok (.iconst 4, 1) := by decide +kernel
theorem d_10_4 : decode (codeOf 10) 4 = .ok (.if_icmp .ge 24, 3) := by decide +kernel
theorem d_10_7 : decode (codeOf 10) 7 = .ok (.aload_n 0, 1) := by decide +kernel
theorem d_10_8 : decode (codeOf 10) 8 = .ok (.getfield 18, 3) := by decide +kernel
theorem d_10_11 : decode (codeOf 10) 11 = .ok (.iload_n 2, 1) := by decide +kernel
theorem d_10_12 : decode (codeOf 10) 12 = .ok (.aload_n 0, 1) := by decide +kernel
theorem d_10_13 : decode (codeOf 10) 13 = .ok (.getfield 12, 3) := by decide +kernel
theorem d_10_16 : decode (codeOf 10) 16 = .ok (.iload_n 1, 1) := by decide +kernel
theorem d_10_17 : decode (codeOf 10) 17 = .ok (.iload_n 2, 1) := by decide +kernel
theorem d_10_18 : decode (codeOf 10) 18 = .ok (.invokevirtual 50, 3) := by decide +kernel
theorem d_10_21 : decode (codeOf 10) 21 = .ok (.iastore, 1) := by decide +kernel
theorem d_10_22 : decode (codeOf 10) 22 = .ok (.iinc 2 1, 3) := by decide +kernel
theorem d_10_25 : decode (codeOf 10) 25 = .ok (.goto (-23), 3) := by decide +kernel
theorem d_10_28 : decode (codeOf 10) 28 = .ok (.aload_n 0, 1) := by decide +kernel
theorem d_10_29 : decode (codeOf 10) 29 = .ok (.iconst 0, 1) := by decide +kernel
theorem d_10_30 : decode (codeOf 10) 30 = .ok (.putfield 64, 3) := by decide +kernel
theorem d_10_33 : decode (codeOf 10) 33 = .ok (.aload_n 0, 1) := by decide +kernel
theorem d_10_34 : decode (codeOf 10) 34 = .ok (.getfield 12, 3) := by decide +kernel
theorem d_10_37 : decode (codeOf 10) 37 = .ok (.iload_n 1, 1) := by decide +kernel
theorem d_10_38 : decode (codeOf 10) 38 = .ok (.invokevirtual 40, 3) := by decide +kernel
theorem d_10_41 : decode (codeOf 10) 41 = .ok (.iconst 1, 1) := by decide +kernel
theorem d_10_42 : decode (codeOf 10) 42 = .ok (.isub, 1) := by decide +kernel
theorem d_10_43 : decode (codeOf 10) 43 = .ok (.istore_n 2, 1) := by decide +kernel
theorem d_10_44 : decode (codeOf 10) 44 = .ok (.iload_n 2, 1) := by decide +kernel
theorem d_10_45 : decode (codeOf 10) 45 = .ok (.ifCond .lt 23, 3) := by decide +kernel
theorem d_10_48 : decode (codeOf 10) 48 = .ok (.aload_n 0, 1) := by decide +kernel
theorem d_10_49 : decode (codeOf 10) 49 = .ok (.aload_n 0, 1) := by decide +kernel
theorem d_10_50 : decode (codeOf 10) 50 = .ok (.getfield 12, 3) := by decide +kernel
theorem d_10_53 : decode (codeOf 10) 53 = .ok (.iload_n 1, 1) := by decide +kernel
theorem d_10_54 : decode (codeOf 10) 54 = .ok (.iload_n 2, 1) := by decide +kernel
theorem d_10_55 : decode (codeOf 10) 55 = .ok (.invokevirtual 57, 3) := by decide +kernel
theorem d_10_58 : decode (codeOf 10) 58 = .ok (.invokevirtual 68, 3) := by decide +kernel
theorem d_10_61 : decode (codeOf 10) 61 = .ok (.pop, 1) := by decide +kernel
theorem d_10_62 : decode (codeOf 10) 62 = .ok (.iinc 2 (-1), 3) := by decide +kernel
theorem d_10_65 : decode (codeOf 10) 65 = .ok (.goto (-21), 3) := by decide +kernel
theorem d_10_68 : decode (codeOf 10) 68 = .ok (.aload_n 0, 1) := by decide +kernel
theorem d_10_69 : decode (codeOf 10) 69 = .ok (.aload_n 0, 1) := by decide +kernel
theorem d_10_70 : decode (codeOf 10) 70 = .ok (.getfield 12, 3) := by decide +kernel
theorem d_10_73 : decode (codeOf 10) 73 = .ok (.iload_n 1, 1) := by decide +kernel
theorem d_10_74 : decode (codeOf 10) 74 = .ok (.invokevirtual 43, 3) := by decide +kernel
theorem d_10_77 : decode (codeOf 10) 77 = .ok (.putfield 71, 3) := by decide +kernel
theorem d_10_80 : decode (codeOf 10) 80 = .ok (.aload_n 0, 1) := by decide +kernel
theorem d_10_81 : decode (codeOf 10) 81 = .ok (.iconst 0, 1) := by decide +kernel
theorem d_10_82 : decode (codeOf 10) 82 = .ok (.putfield 74, 3) := by decide +kernel
theorem d_10_85 : decode (codeOf 10) 85 = .ok (.aload_n 0, 1) := by decide +kernel
theorem d_10_86 : decode (codeOf 10) 86 = .ok (.iconst 0, 1) := by decide +kernel
theorem d_10_87 : decode (codeOf 10) 87 = .ok (.putfield 78, 3) := by decide +kernel
theorem d_10_90 : decode (codeOf 10) 90 = .ok (.aload_n 0, 1) := by decide +kernel
theorem d_10_91 : decode (codeOf 10) 91 = .ok (.iconst 0, 1) := by decide +kernel
theorem d_10_92 : decode (codeOf 10) 92 = .ok (.putfield 81, 3) := by decide +kernel
theorem d_10_95 : decode (codeOf 10) 95 = .ok (.return_, 1) := by decide +kernel
theorem d_11_0 : decode (codeOf 11) 0 = .ok (.aload_n 0, 1) := by decide +kernel
theorem d_11_1 : decode (codeOf 11) 1 = .ok (.iload_n 1, 1) := by decide +kernel
theorem d_11_2 : decode (codeOf 11) 2 = .ok (.invokevirtual 84, 3) := by decide +kernel
theorem d_11_5 : decode (codeOf 11) 5 = .ok (.iconst 0, 1) := by decide +kernel
theorem d_11_6 : decode (codeOf 11) 6 = .ok (.istore_n 3, 1) := by decide +kernel
theorem d_11_7 : decode (codeOf 11) 7 = .ok (.iload_n 3, 1) := by decide +kernel
theorem d_11_8 : decode (codeOf 11) 8 = .ok (.iload_n 2, 1) := by decide +kernel
theorem d_11_9 : decode (codeOf 11) 9 = .ok (.if_icmp .ge 43, 3) := by decide +kernel
theorem d_11_12 : decode (codeOf 11) 12 = .ok (.aload_n 0, 1) := by decide +kernel
theorem d_11_13 : decode (codeOf 11) 13 = .ok (.getfield 81, 3) := by decide +kernel
theorem d_11_16 : decode (codeOf 11) 16 = .ok (.ifCond .ne 36, 3) := by decide +kernel
theorem d_11_19 : decode (codeOf 11) 19 = .ok (.aload_n 0, 1) := by decide +kernel
theorem d_11_20 : decode (codeOf 11) 20 = .ok (.iload_n 3, 1) := by decide +kernel
theorem d_11_21 : decode (codeOf 11) 21 = .ok (.putfield 78, 3) := by decide +kernel
theorem d_11_24 : decode (codeOf 11) 24 = .ok (.aload_n 0, 1) := by decide +kernel
theorem d_11_25 : decode (codeOf 11) 25 = .ok (.aload_n 0, 1) := by decide +kernel
theorem d_11_26 : decode (codeOf 11) 26 = .ok (.getfield 74, 3) := by decide +kernel
theorem d_11_29 : decode (codeOf 11) 29 = .ok (.ifCond .eq 8, 3) := by decide +kernel
theorem d_11_32 : decode (codeOf 11) 32 = .ok (.bipush 9, 2) := by decide +kernel
theorem d_11_34 : decode (codeOf 11) 34 = .ok (.goto 9, 3) := by decide +kernel
theorem d_11_37 : decode (codeOf 11) 37 = .ok (.aload_n 0, 1) := by decide +kernel
theorem d_11_38 : decode (codeOf 11) 38 = .ok (.iload_n 1, 1) := by decide +kernel
theorem d_11_39 : decode (codeOf 11) 39 = .ok (.iload_n 3, 1) := by decide +kernel
theorem d_11_40 : decode (codeOf 11) 40 = .ok (.invokevirtual 88, 3) := by decide +kernel
theorem d_11_43 : decode (codeOf 11) 43 = .ok (.putfield 81, 3) := by decide +kernel
theorem d_11_46 : decode (codeOf 11) 46 = .ok (.iinc 3 1, 3) := by decide +kernel
theorem d_11_49 : decode (codeOf 11) 49 = .ok (.goto (-42), 3) := by decide +kernel
theorem d_11_52 : decode (codeOf 11) 52 = .ok (.aload_n 0, 1) := by decide +kernel
theorem d_11_53 : decode (codeOf 11) 53 = .ok (.getfield 81, 3) := by decide +kernel
theorem d_11_56 : decode (codeOf 11) 56 = .ok (.ifCond .ne 7, 3) := by decide +kernel
theorem d_11_59 : decode (codeOf 11) 59 = .ok (.iconst 1, 1) := by decide +kernel
theorem d_11_60 : decode (codeOf 11) 60 = .ok (.goto 4, 3) := by decide +kernel
theorem d_11_63 : decode (codeOf 11) 63 = .ok (.iconst 0, 1) := by decide +kernel
theorem d_11_64 : decode (codeOf 11) 64 = .ok (.ireturn, 1) := by decide +kernel
theorem d_12_0 : decode (codeOf 12) 0 = .ok (.aload_n 0, 1) := by decide +kernel
theorem d_12_1 : decode (codeOf 12) 1 = .ok (.getfield 12, 3) := by decide +kernel
theorem d_12_4 : decode (codeOf 12) 4 = .ok (.iload_n 1, 1) := by decide +kernel
theorem d_12_5 : decode (codeOf 12) 5 = .ok (.invokevirtual 91, 3) := by decide +kernel
theorem d_12_8 : decode (codeOf 12) 8 = .ok (.istore_n 2, 1) := by decide +kernel
theorem d_12_9 : decode (codeOf 12) 9 = .ok (.aload_n 0, 1) := by decide +kernel
theorem d_12_10 : decode (codeOf 12) 10 = .ok (.iload_n 1, 1) := by decide +kernel
theorem d_12_11 : decode (codeOf 12) 11 = .ok (.iload_n 2, 1) := by decide +kernel
theorem d_12_12 : decode (codeOf 12) 12 = .ok (.invokevirtual 94, 3) := by decide +kernel
theorem d_12_15 : decode (codeOf 12) 15 = .ok (.ifCond .eq 21, 3) := by decide +kernel
theorem d_12_18 : decode (codeOf 12) 18 = .ok (.aload_n 0, 1) := by decide +kernel
theorem d_12_19 : decode (codeOf 12) 19 = .ok (.getfield 74, 3) := by decide +kernel
theorem d_12_22 : decode (codeOf 12) 22 = .ok (.ifCond .ne 14, 3) := by decide +kernel
theorem d_12_25 : decode (codeOf 12) 25 = .ok (.aload_n 0, 1) := by decide +kernel
theorem d_12_26 : decode (codeOf 12) 26 = .ok (.iload_n 2, 1) := by decide +kernel
theorem d_12_27 : decode (codeOf 12) 27 = .ok (.putfield 78, 3) := by decide +kernel
theorem d_12_30 : decode (codeOf 12) 30 = .ok (.aload_n 0, 1) := by decide +kernel
theorem d_12_31 : decode (codeOf 12) 31 = .ok (.bipush 10, 2) := by decide +kernel
theorem d_12_33 : decode (codeOf 12) 33 = .ok (.putfield 81, 3) := by decide +kernel
theorem d_12_36 : decode (codeOf 12) 36 = .ok (.aload_n 0, 1) := by decide +kernel
theorem d_12_37 : decode (codeOf 12) 37 = .ok (.getfield 81, 3) := by decide +kernel
theorem d_12_40 : decode (codeOf 12) 40 = .ok (.ifCond .ne 7, 3) := by decide +kernel
theorem d_12_43 : decode (codeOf 12) 43 = .ok (.iconst 1, 1) := by decide +kernel
theorem d_12_44 : decode (codeOf 12) 44 = .ok (.goto 4, 3) := by decide +kernel
theorem d_12_47 : decode (codeOf 12) 47 = .ok (.iconst 0, 1) := by decide +kernel
theorem d_12_48 : decode (codeOf 12) 48 = .ok (.ireturn, 1) := by decide +kernel
theorem d_13_0 : decode (codeOf 13) 0 = .ok (.iconst 0, 1) := by decide +kernel
theorem d_13_1 : decode (codeOf 13) 1 = .ok (.istore_n 1, 1) := by decide +kernel
theorem d_13_2 : decode (codeOf 13) 2 = .ok (.iconst 0, 1) := by decide +kernel
theorem d_13_3 : decode (codeOf 13) 3 = .ok (.istore_n 2, 1) := by decide +kernel
theorem d_13_4 : decode (codeOf 13) 4 = .ok (.iload_n 2, 1) := by decide +kernel
theorem d_13_5 : decode (codeOf 13) 5 = .ok (.aload_n 0, 1) := by decide +kernel
theorem d_13_6 : decode (codeOf 13) 6 = .ok (.getfield 12, 3) := by decide +kernel
theorem d_13_9 : decode (codeOf 13) 9 = .ok (.invokevirtual 97, 3) := by decide +kernel
theorem d_13_12 : decode (codeOf 13) 12 = .ok (.if_icmp .ge 23, 3) := by decide +kernel
theorem d_13_15 : decode (codeOf 13) 15 = .ok (.aload_n 0, 1) := by decide +kernel
theorem d_13_16 : decode (codeOf 13) 16 = .ok (.iload_n 2, 1) := by decide +kernel
theorem d_13_17 : decode (codeOf 13) 17 = .ok (.invokevirtual 101, 3) := by decide +kernel
theorem d_13_20 : decode (codeOf 13) 20 = .ok (.ifCond .eq 9, 3) := by decide +kernel
theorem d_13_23 : decode (codeOf 13) 23 = .ok (.iload_n 1, 1) := by decide +kernel
theorem d_13_24 : decode (codeOf 13) 24 = .ok (.iconst 1, 1) := by decide +kernel
theorem d_13_25 : decode (codeOf 13) 25 = .ok (.iload_n 2, 1) := by decide +kernel
theorem d_13_26 : decode (codeOf 13) 26 = .ok (.ishl, 1) := by decide +kernel
theorem d_13_27 : decode (codeOf 13) 27 = .ok (.ior, 1) := by decide +kernel
theorem d_13_28 : decode (codeOf 13) 28 = .ok (.istore_n 1, 1) := by decide +kernel
theorem d_13_29 : decode (codeOf 13) 29 = .ok (.iinc 2 1, 3) := by decide +kernel
theorem d_13_32 : decode (codeOf 13) 32 = .ok (.goto (-28), 3) := by decide +kernel
theorem d_13_35 : decode (codeOf 13) 35 = .ok (.iload_n 1, 1) := by decide +kernel
theorem d_13_36 : decode (codeOf 13) 36 = .ok (.ireturn, 1) := by decide +kernel
theorem d_14_0 : decode (codeOf 14) 0 = .ok (.aload_n 0, 1) := by decide +kernel
theorem d_14_1 : decode (codeOf 14) 1 = .ok (.iload_n 1, 1) := by decide +kernel
theorem d_14_2 : decode (codeOf 14) 2 = .ok (.invokevirtual 84, 3) := by decide +kernel
theorem d_14_5 : decode (codeOf 14) 5 = .ok (.iconst 0, 1) := by decide +kernel
theorem d_14_6 : decode (codeOf 14) 6 = .ok (.istore_n 2, 1) := by decide +kernel
theorem d_14_7 : decode (codeOf 14) 7 = .ok (.iconst 0, 1) := by decide +kernel
theorem d_14_8 : decode (codeOf 14) 8 = .ok (.istore_n 3, 1) := by decide +kernel
theorem d_14_9 : decode (codeOf 14) 9 = .ok (.iload_n 3, 1) := by decide +kernel
theorem d_14_10 : decode (codeOf 14) 10 = .ok (.aload_n 0, 1) := by decide +kernel
theorem d_14_11 : decode (codeOf 14) 11 = .ok (.getfield 12, 3) := by decide +kernel
theorem d_14_14 : decode (codeOf 14) 14 = .ok (.invokevirtual 97, 3) := by decide +kernel
theorem d_14_17 : decode (codeOf 14) 17 = .ok (.if_icmp .ge 23, 3) := by decide +kernel
theorem d_14_20 : decode (codeOf 14) 20 = .ok (.aload_n 0, 1) := by decide +kernel
theorem d_14_21 : decode (codeOf 14) 21 = .ok (.iload_n 3, 1) := by decide +kernel
theorem d_14_22 : decode (codeOf 14) 22 = .ok (.invokevirtual 104, 3) := by decide +kernel
theorem d_14_25 : decode (codeOf 14) 25 = .ok (.ifCond .ne 9, 3) := by decide +kernel
theorem d_14_28 : decode (codeOf 14) 28 = .ok (.iload_n 2, 1) := by decide +kernel
theorem d_14_29 : decode (codeOf 14) 29 = .ok (.iconst 1, 1) := by decide +kernel
theorem d_14_30 : decode (codeOf 14) 30 = .ok (.iload_n 3, 1) := by decide +kernel
theorem d_14_31 : decode (codeOf 14) 31 = .ok (.ishl, 1) := by decide +kernel
theorem d_14_32 : decode (codeOf 14) 32 = .ok (.ior, 1) := by decide +kernel
theorem d_14_33 : decode (codeOf 14) 33 = .ok (.istore_n 2, 1) := by decide +kernel
theorem d_14_34 : decode (codeOf 14) 34 = .ok (.iinc 3 1, 3) := by decide +kernel
theorem d_14_37 : decode (codeOf 14) 37 = .ok (.goto (-28), 3) := by decide +kernel
theorem d_14_40 : decode (codeOf 14) 40 = .ok (.iload_n 2, 1) := by decide +kernel
theorem d_14_41 : decode (codeOf 14) 41 = .ok (.ireturn, 1) := by decide +kernel
theorem d_15_0 : decode (codeOf 15) 0 = .ok (.aload_n 0, 1) := by decide +kernel
theorem d_15_1 : decode (codeOf 15) 1 = .ok (.getfield 12, 3) := by decide +kernel
theorem d_15_4 : decode (codeOf 15) 4 = .ok (.iload_n 1, 1) := by decide +kernel
theorem d_15_5 : decode (codeOf 15) 5 = .ok (.iload_n 2, 1) := by decide +kernel
theorem d_15_6 : decode (codeOf 15) 6 = .ok (.iconst 1, 1) := by decide +kernel
theorem d_15_7 : decode (codeOf 15) 7 = .ok (.invokevirtual 107, 3) := by decide +kernel
theorem d_15_10 : decode (codeOf 15) 10 = .ok (.istore_n 3, 1) := by decide +kernel
theorem d_15_11 : decode (codeOf 15) 11 = .ok (.aload_n 0, 1) := by decide +kernel
theorem d_15_12 : decode (codeOf 15) 12 = .ok (.getfield 12, 3) := by decide +kernel
theorem d_15_15 : decode (codeOf 15) 15 = .ok (.iload_n 1, 1) := by decide +kernel
theorem d_15_16 : decode (codeOf 15) 16 = .ok (.iload_n 2, 1) := by decide +kernel
theorem d_15_17 : decode (codeOf 15) 17 = .ok (.iconst 2, 1) := by decide +kernel
theorem d_15_18 : decode (codeOf 15) 18 = .ok (.invokevirtual 107, 3) := by decide +kernel
theorem d_15_21 : decode (codeOf 15) 21 = .ok (.istore 4, 2) := by decide +kernel
theorem d_15_23 : decode (codeOf 15) 23 = .ok (.aload_n 0, 1) := by decide +kernel
theorem d_15_24 : decode (codeOf 15) 24 = .ok (.getfield 12, 3) := by decide +kernel
theorem d_15_27 : decode (codeOf 15) 27 = .ok (.iload_n 1, 1) := by decide +kernel
theorem d_15_28 : decode (codeOf 15) 28 = .ok (.iload_n 2, 1) := by decide +kernel
theorem d_15_29 : decode (codeOf 15) 29 = .ok (.iconst 3, 1) := by decide +kernel
theorem d_15_30 : decode (codeOf 15) 30 = .ok (.invokevirtual 107, 3) := by decide +kernel
theorem d_15_33 : decode (codeOf 15) 33 = .ok (.istore 5, 2) := by decide +kernel
theorem d_15_35 : decode (codeOf 15) 35 = .ok (.aload_n 0, 1) := by decide +kernel
theorem d_15_36 : decode (codeOf 15) 36 = .ok (.getfield 12, 3) := by decide +kernel
theorem d_15_39 : decode (codeOf 15) 39 = .ok (.iload_n 1, 1) := by decide +kernel
theorem d_15_40 : decode (codeOf 15) 40 = .ok (.iload_n 2, 1) := by decide +kernel
theorem d_15_41 : decode (codeOf 15) 41 = .ok (.iconst 0, 1) := by decide +kernel
theorem d_15_42 : decode (codeOf 15) 42 = .ok (.invokevirtual 107, 3) := by decide +kernel
theorem d_15_45 : decode (codeOf 15) 45 = .ok (.tableswitch 269 0 12 #[67, 80, 88, 113, 127, 137, 147, 165, 171, 203, 183, 214, 235], 67) := by decide +kernel
theorem d_15_112 : decode (codeOf 15) 112 = .ok (.aload_n 0, 1) := by decide +kernel
theorem d_15_113 : decode (codeOf 15) 113 = .ok (.iload_n 3, 1) := by decide +kernel
theorem d_15_114 : decode (codeOf 15) 114 = .ok (.aload_n 0, 1) := by decide +kernel
theorem d_15_115 : decode (codeOf 15) 115 = .ok (.iload 4, 2) := by decide +kernel
theorem d_15_117 : decode (codeOf 15) 117 = .ok (.invokevirtual 111, 3) := by decide +kernel
theorem d_15_120 : decode (codeOf 15) 120 = .ok (.invokevirtual 114, 3) := by decide +kernel
theorem d_15_123 : decode (codeOf 15) 123 = .ok (.iconst 0, 1) := by decide +kernel
theorem d_15_124 : decode (codeOf 15) 124 = .ok (.ireturn, 1) := by decide +kernel
theorem d_15_125 : decode (codeOf 15) 125 = .ok (.aload_n 0, 1) := by decide +kernel
theorem d_15_126 : decode (codeOf 15) 126 = .ok (.iload_n 3, 1) := by decide +kernel
theorem d_15_127 : decode (codeOf 15) 127 = .ok (.iconst 1, 1) := by decide +kernel
theorem d_15_128 : decode (codeOf 15) 128 = .ok (.invokevirtual 114, 3) := by decide +kernel
theorem d_15_131 : decode (codeOf 15) 131 = .ok (.iconst 0, 1) := by decide +kernel
theorem d_15_132 : decode (codeOf 15) 132 = .ok (.ireturn, 1) := by decide +kernel
theorem d_15_133 : decode (codeOf 15) 133 = .ok (.aload_n 0, 1) := by decide +kernel
theorem d_15_134 : decode (codeOf 15) 134 = .ok (.iload_n 3, 1) := by decide +kernel
theorem d_15_135 : decode (codeOf 15) 135 = .ok (.invokevirtual 111, 3) := by decide +kernel
theorem d_15_138 : decode (codeOf 15) 138 = .ok (.iconst 1, 1) := by decide +kernel
theorem d_15_139 : decode (codeOf 15) 139 = .ok (.if_icmp .ne 17, 3) := by decide +kernel
theorem d_15_142 : decode (codeOf 15) 142 = .ok (.aload_n 0, 1) := by decide +kernel
theorem d_15_143 : decode (codeOf 15) 143 = .ok (.iload 4, 2) := by decide +kernel
theorem d_15_145 : decode (codeOf 15) 145 = .ok (.invokevirtual 111, 3) := by decide +kernel
theorem d_15_148 : decode (codeOf 15) 148 = .ok (.iconst 1, 1) := by decide +kernel
theorem d_15_149 : decode (codeOf 15) 149 = .ok (.if_icmp .ne 7, 3) := by decide +kernel
theorem d_15_152 : decode (codeOf 15) 152 = .ok (.iconst 0, 1) := by decide +kernel
theorem d_15_153 : decode (codeOf 15) 153 = .ok (.goto 4, 3) := by decide +kernel
theorem d_15_156 : decode (codeOf 15) 156 = .ok (.iconst 1, 1) := by decide +kernel
theorem d_15_157 : decode (codeOf 15) 157 = .ok (.ireturn, 1) := by decide +kernel
theorem d_15_158 : decode (codeOf 15) 158 = .ok (.aload_n 0, 1) := by decide +kernel
theorem d_15_159 : decode (codeOf 15) 159 = .ok (.iload_n 3, 1) := by decide +kernel
theorem d_15_160 : decode (codeOf 15) 160 = .ok (.aload_n 0, 1) := by decide +kernel
theorem d_15_161 : decode (codeOf 15) 161 = .ok (.iload 4, 2) := by decide +kernel
theorem d_15_163 : decode (codeOf 15) 163 = .ok (.iconst 0, 1) := by decide +kernel
theorem d_15_164 : decode (codeOf 15) 164 = .ok (.invokevirtual 118, 3) := by decide +kernel
theorem d_15_167 : decode (codeOf 15) 167 = .ok (.invokevirtual 114, 3) := by decide +kernel
theorem d_15_170 : decode (codeOf 15) 170 = .ok (.iconst 0, 1) := by decide +kernel
theorem d_15_171 : decode (codeOf 15) 171 = .ok (.ireturn, 1) := by decide +kernel
theorem d_15_172 : decode (codeOf 15) 172 = .ok (.aload_n 0, 1) := by decide +kernel
theorem d_15_173 : decode (codeOf 15) 173 = .ok (.iload_n 3, 1) := by decide +kernel
theorem d_15_174 : decode (codeOf 15) 174 = .ok (.iload 4, 2) := by decide +kernel
theorem d_15_176 : decode (codeOf 15) 176 = .ok (.iload 5, 2) := by decide +kernel
theorem d_15_178 : decode (codeOf 15) 178 = .ok (.invokevirtual 121, 3) := by decide +kernel
theorem d_15_181 : decode (codeOf 15) 181 = .ok (.ireturn, 1) := by decide +kernel
theorem d_15_182 : decode (codeOf 15) 182 = .ok (.aload_n 0, 1) := by decide +kernel
theorem d_15_183 : decode (codeOf 15) 183 = .ok (.iload_n 3, 1) := by decide +kernel
theorem d_15_184 : decode (codeOf 15) 184 = .ok (.iload 4, 2) := by decide +kernel
theorem d_15_186 : decode (codeOf 15) 186 = .ok (.iload 5, 2) := by decide +kernel
theorem d_15_188 : decode (codeOf 15) 188 = .ok (.invokevirtual 124, 3) := by decide +kernel
theorem d_15_191 : decode (codeOf 15) 191 = .ok (.ireturn, 1) := by decide +kernel
theorem d_15_192 : decode (codeOf 15) 192 = .ok (.aload_n 0, 1) := by decide +kernel
theorem d_15_193 : decode (codeOf 15) 193 = .ok (.aload_n 0, 1) := by decide +kernel
theorem d_15_194 : decode (codeOf 15) 194 = .ok (.iload_n 3, 1) := by decide +kernel
theorem d_15_195 : decode (codeOf 15) 195 = .ok (.invokevirtual 111, 3) := by decide +kernel
theorem d_15_198 : decode (codeOf 15) 198 = .ok (.invokevirtual 68, 3) := by decide +kernel
theorem d_15_201 : decode (codeOf 15) 201 = .ok (.ifCond .eq 7, 3) := by decide +kernel
theorem d_15_204 : decode (codeOf 15) 204 = .ok (.iconst 0, 1) := by decide +kernel
theorem d_15_205 : decode (codeOf 15) 205 = .ok (.goto 4, 3) := by decide +kernel
theorem d_15_208 : decode (codeOf 15) 208 = .ok (.iconst 5, 1) := by decide +kernel
theorem d_15_209 : decode (codeOf 15) 209 = .ok (.ireturn, 1) := by decide +kernel
theorem d_15_210 : decode (codeOf 15) 210 = .ok (.aload_n 0, 1) := by decide +kernel
theorem d_15_211 : decode (codeOf 15) 211 = .ok (.iload_n 3, 1) := by decide +kernel
theorem d_15_212 : decode (codeOf 15) 212 = .ok (.invokevirtual 127, 3) := by decide +kernel
theorem d_15_215 : decode (codeOf 15) 215 = .ok (.ireturn, 1) := by decide +kernel
theorem d_15_216 : decode (codeOf 15) 216 = .ok (.aload_n 0, 1) := by decide +kernel
theorem d_15_217 : decode (codeOf 15) 217 = .ok (.iload_n 3, 1) := by decide +kernel
theorem d_15_218 : decode (codeOf 15) 218 = .ok (.bipush 6, 2) := by decide +kernel
theorem d_15_220 : decode (codeOf 15) 220 = .ok (.iload 4, 2) := by decide +kernel
theorem d_15_222 : decode (codeOf 15) 222 = .ok (.iadd, 1) := by decide +kernel
theorem d_15_223 : decode (codeOf 15) 223 = .ok (.invokevirtual 114, 3) := by decide +kernel
theorem d_15_226 : decode (codeOf 15) 226 = .ok (.iconst 0, 1) := by decide +kernel
theorem d_15_227 : decode (codeOf 15) 227 = .ok (.ireturn, 1) := by decide +kernel
theorem d_15_228 : decode (codeOf 15) 228 = .ok (.aload_n 0, 1) := by decide +kernel
theorem d_15_229 : decode (codeOf 15) 229 = .ok (.iload_n 3, 1) := by decide +kernel
theorem d_15_230 : decode (codeOf 15) 230 = .ok (.invokevirtual 111, 3) := by decide +kernel
theorem d_15_233 : decode (codeOf 15) 233 = .ok (.iconst 1, 1) := by decide +kernel
theorem d_15_234 : decode (codeOf 15) 234 = .ok (.if_icmp .ne 12, 3) := by decide +kernel
theorem d_15_237 : decode (codeOf 15) 237 = .ok (.aload_n 0, 1) := by decide +kernel
theorem d_15_238 : decode (codeOf 15) 238 = .ok (.iload 4, 2) := by decide +kernel
theorem d_15_240 : decode (codeOf 15) 240 = .ok (.invokevirtual 104, 3) := by decide +kernel
theorem d_15_243 : decode (codeOf 15) 243 = .ok (.goto 4, 3) := by decide +kernel
theorem d_15_246 : decode (codeOf 15) 246 = .ok (.iconst 1, 1) := by decide +kernel
theorem d_15_247 : decode (codeOf 15) 247 = .ok (.ireturn, 1) := by decide +kernel
theorem d_15_248 : decode (codeOf 15) 248 = .ok (.aload_n 0, 1) := by decide +kernel
theorem d_15_249 : decode (codeOf 15) 249 = .ok (.iconst 1, 1) := by decide +kernel
theorem d_15_250 : decode (codeOf 15) 250 = .ok (.putfield 74, 3) := by decide +kernel
theorem d_15_253 : decode (codeOf 15) 253 = .ok (.aload_n 0, 1) := by decide +kernel
theorem d_15_254 : decode (codeOf 15) 254 = .ok (.iload_n 3, 1) := by decide +kernel
theorem d_15_255 : decode (codeOf 15) 255 = .ok (.invokevirtual 104, 3) := by decide +kernel
theorem d_15_258 : decode (codeOf 15) 258 = .ok (.ireturn, 1) := by decide +kernel
theorem d_15_259 : decode (codeOf 15) 259 = .ok (.aload_n 0, 1) := by decide +kernel
theorem d_15_260 : decode (codeOf 15) 260 = .ok (.iconst 1, 1) := by decide +kernel
theorem d_15_261 : decode (codeOf 15) 261 = .ok (.putfield 74, 3) := by decide +kernel
theorem d_15_264 : decode (codeOf 15) 264 = .ok (.aload_n 0, 1) := by decide +kernel
theorem d_15_265 : decode (codeOf 15) 265 = .ok (.iconst 3, 1) := by decide +kernel
theorem d_15_266 : decode (codeOf 15) 266 = .ok (.bipush 6, 2) := by decide +kernel
theorem d_15_268 : decode (codeOf 15) 268 = .ok (.iload 4, 2) := by decide +kernel
theorem d_15_270 : decode (codeOf 15) 270 = .ok (.iadd, 1) := by decide +kernel
theorem d_15_271 : decode (codeOf 15) 271 = .ok (.invokevirtual 114, 3) := by decide +kernel
theorem d_15_274 : decode (codeOf 15) 274 = .ok (.aload_n 0, 1) := by decide +kernel
theorem d_15_275 : decode (codeOf 15) 275 = .ok (.iload_n 3, 1) := by decide +kernel
theorem d_15_276 : decode (codeOf 15) 276 = .ok (.invokevirtual 104, 3) := by decide +kernel
theorem d_15_279 : decode (codeOf 15) 279 = .ok (.ireturn, 1) := by decide +kernel
theorem d_15_280 : decode (codeOf 15) 280 = .ok (.aload_n 0, 1) := by decide +kernel
theorem d_15_281 : decode (codeOf 15) 281 = .ok (.iconst 1, 1) := by decide +kernel
theorem d_15_282 : decode (codeOf 15) 282 = .ok (.putfield 74, 3) := by decide +kernel
theorem d_15_285 : decode (codeOf 15) 285 = .ok (.aload_n 0, 1) := by decide +kernel
theorem d_15_286 : decode (codeOf 15) 286 = .ok (.iload_n 3, 1) := by decide +kernel
theorem d_15_287 : decode (codeOf 15) 287 = .ok (.invokevirtual 111, 3) := by decide +kernel
theorem d_15_290 : decode (codeOf 15) 290 = .ok (.invokestatic 60, 3) := by decide +kernel
theorem d_15_293 : decode (codeOf 15) 293 = .ok (.ifCond .eq 18, 3) := by decide +kernel
theorem d_15_296 : decode (codeOf 15) 296 = .ok (.aload_n 0, 1) := by decide +kernel
theorem d_15_297 : decode (codeOf 15) 297 = .ok (.aload_n 0, 1) := by decide +kernel
theorem d_15_298 : decode (codeOf 15) 298 = .ok (.iload_n 3, 1) := by decide +kernel
theorem d_15_299 : decode (codeOf 15) 299 = .ok (.invokevirtual 111, 3) := by decide +kernel
theorem d_15_302 : decode (codeOf 15) 302 = .ok (.bipush 6, 2) := by decide +kernel
theorem d_15_304 : decode (codeOf 15) 304 = .ok (.isub, 1) := by decide +kernel
theorem d_15_305 : decode (codeOf 15) 305 = .ok (.invokevirtual 104, 3) := by decide +kernel
theorem d_15_308 : decode (codeOf 15) 308 = .ok (.goto 5, 3) := by decide +kernel
theorem d_15_311 : decode (codeOf 15) 311 = .ok (.bipush 8, 2) := by decide +kernel
theorem d_15_313 : decode (codeOf 15) 313 = .ok (.ireturn, 1) := by decide +kernel
theorem d_15_314 : decode (codeOf 15) 314 = .ok (.aload_n 0, 1) := by decide +kernel
theorem d_15_315 : decode (codeOf 15) 315 = .ok (.iconst 1, 1) := by decide +kernel
theorem d_15_316 : decode (codeOf 15) 316 = .ok (.putfield 74, 3) := by decide +kernel
theorem d_15_319 : decode (codeOf 15) 319 = .ok (.aload_n 0, 1) := by decide +kernel
theorem d_15_320 : decode (codeOf 15) 320 = .ok (.iconst 0, 1) := by decide +kernel
theorem d_15_321 : decode (codeOf 15) 321 = .ok (.invokevirtual 111, 3) := by decide +kernel
theorem d_15_324 : decode (codeOf 15) 324 = .ok (.iconst 1, 1) := by decide +kernel
theorem d_15_325 : decode (codeOf 15) 325 = .ok (.if_icmp .ne 7, 3) := by decide +kernel
theorem d_15_328 : decode (codeOf 15) 328 = .ok (.iconst 0, 1) := by decide +kernel
theorem d_15_329 : decode (codeOf 15) 329 = .ok (.goto 4, 3) := by decide +kernel
theorem d_15_332 : decode (codeOf 15) 332 = .ok (.iconst 1, 1) := by decide +kernel
theorem d_15_333 : decode (codeOf 15) 333 = .ok (.ireturn, 1) := by decide +kernel
theorem d_16_0 : decode (codeOf 16) 0 = .ok (.iconst 0, 1) := by decide +kernel
theorem d_16_1 : decode (codeOf 16) 1 = .ok (.istore_n 2, 1) := by decide +kernel
theorem d_16_2 : decode (codeOf 16) 2 = .ok (.iload_n 2, 1) := by decide +kernel
theorem d_16_3 : decode (codeOf 16) 3 = .ok (.iconst 4, 1) := by decide +kernel
theorem d_16_4 : decode (codeOf 16) 4 = .ok (.if_icmp .ge 34, 3) := by decide +kernel
theorem d_16_7 : decode (codeOf 16) 7 = .ok (.aload_n 0, 1) := by decide +kernel
theorem d_16_8 : decode (codeOf 16) 8 = .ok (.aload_n 0, 1) := by decide +kernel
theorem d_16_9 : decode (codeOf 16) 9 = .ok (.getfield 18, 3) := by decide +kernel
theorem d_16_12 : decode (codeOf 16) 12 = .ok (.iload_n 2, 1) := by decide +kernel
theorem d_16_13 : decode (codeOf 16) 13 = .ok (.iaload, 1) := by decide +kernel
theorem d_16_14 : decode (codeOf 16) 14 = .ok (.aload_n 0, 1) := by decide +kernel
theorem d_16_15 : decode (codeOf 16) 15 = .ok (.getfield 12, 3) := by decide +kernel
theorem d_16_18 : decode (codeOf 16) 18 = .ok (.iload_n 1, 1) := by decide +kernel
theorem d_16_19 : decode (codeOf 16) 19 = .ok (.iload_n 2, 1) := by decide +kernel
theorem d_16_20 : decode (codeOf 16) 20 = .ok (.invokevirtual 50, 3) := by decide +kernel
theorem d_16_23 : decode (codeOf 16) 23 = .ok (.invokevirtual 130, 3) := by decide +kernel
theorem d_16_26 : decode (codeOf 16) 26 = .ok (.ifCond .ne 6, 3) := by decide +kernel
theorem d_16_29 : decode (codeOf 16) 29 = .ok (.bipush 6, 2) := by decide +kernel
theorem d_16_31 : decode (codeOf 16) 31 = .ok (.ireturn, 1) := by decide +kernel
theorem d_16_32 : decode (codeOf 16) 32 = .ok (.iinc 2 1, 3) := by decide +kernel
theorem d_16_35 : decode (codeOf 16) 35 = .ok (.goto (-33), 3) := by decide +kernel
theorem d_16_38 : decode (codeOf 16) 38 = .ok (.aload_n 0, 1) := by decide +kernel
theorem d_16_39 : decode (codeOf 16) 39 = .ok (.getfield 12, 3) := by decide +kernel
theorem d_16_42 : decode (codeOf 16) 42 = .ok (.iload_n 1, 1) := by decide +kernel
theorem d_16_43 : decode (codeOf 16) 43 = .ok (.invokevirtual 40, 3) := by decide +kernel
theorem d_16_46 : decode (codeOf 16) 46 = .ok (.istore_n 2, 1) := by decide +kernel
theorem d_16_47 : decode (codeOf 16) 47 = .ok (.aload_n 0, 1) := by decide +kernel
theorem d_16_48 : decode (codeOf 16) 48 = .ok (.getfield 64, 3) := by decide +kernel
theorem d_16_51 : decode (codeOf 16) 51 = .ok (.aload_n 0, 1) := by decide +kernel
theorem d_16_52 : decode (codeOf 16) 52 = .ok (.getfield 71, 3) := by decide +kernel
theorem d_16_55 : decode (codeOf 16) 55 = .ok (.iload_n 2, 1) := by decide +kernel
theorem d_16_56 : decode (codeOf 16) 56 = .ok (.aload_n 0, 1) := by decide +kernel
theorem d_16_57 : decode (codeOf 16) 57 = .ok (.getfield 12, 3) := by decide +kernel
theorem d_16_60 : decode (codeOf 16) 60 = .ok (.iload_n 1, 1) := by decide +kernel
theorem d_16_61 : decode (codeOf 16) 61 = .ok (.invokevirtual 43, 3) := by decide +kernel
theorem d_16_64 : decode (codeOf 16) 64 = .ok (.invokestatic 46, 3) := by decide +kernel
theorem d_16_67 : decode (codeOf 16) 67 = .ok (.ifCond .ne 6, 3) := by decide +kernel
theorem d_16_70 : decode (codeOf 16) 70 = .ok (.bipush 7, 2) := by decide +kernel
theorem d_16_72 : decode (codeOf 16) 72 = .ok (.ireturn, 1) := by decide +kernel
theorem d_16_73 : decode (codeOf 16) 73 = .ok (.iconst 0, 1) := by decide +kernel
theorem d_16_74 : decode (codeOf 16) 74 = .ok (.istore_n 3, 1) := by decide +kernel
theorem d_16_75 : decode (codeOf 16) 75 = .ok (.iload_n 3, 1) := by decide +kernel
theorem d_16_76 : decode (codeOf 16) 76 = .ok (.iload_n 2, 1) := by decide +kernel
theorem d_16_77 : decode (codeOf 16) 77 = .ok (.if_icmp .ge 33, 3) := by decide +kernel
theorem d_16_80 : decode (codeOf 16) 80 = .ok (.aload_n 0, 1) := by decide +kernel
theorem d_16_81 : decode (codeOf 16) 81 = .ok (.aload_n 0, 1) := by decide +kernel
theorem d_16_82 : decode (codeOf 16) 82 = .ok (.iload_n 3, 1) := by decide +kernel
theorem d_16_83 : decode (codeOf 16) 83 = .ok (.invokevirtual 133, 3) := by decide +kernel
theorem d_16_86 : decode (codeOf 16) 86 = .ok (.aload_n 0, 1) := by decide +kernel
theorem d_16_87 : decode (codeOf 16) 87 = .ok (.getfield 12, 3) := by decide +kernel
theorem d_16_90 : decode (codeOf 16) 90 = .ok (.iload_n 1, 1) := by decide +kernel
theorem d_16_91 : decode (codeOf 16) 91 = .ok (.iload_n 3, 1) := by decide +kernel
theorem d_16_92 : decode (codeOf 16) 92 = .ok (.invokevirtual 57, 3) := by decide +kernel
theorem d_16_95 : decode (codeOf 16) 95 = .ok (.invokevirtual 130, 3) := by decide +kernel
theorem d_16_98 : decode (codeOf 16) 98 = .ok (.ifCond .ne 6, 3) := by decide +kernel
theorem d_16_101 : decode (codeOf 16) 101 = .ok (.bipush 7, 2) := by decide +kernel
theorem d_16_103 : decode (codeOf 16) 103 = .ok (.ireturn, 1) := by decide +kernel
theorem d_16_104 : decode (codeOf 16) 104 = .ok (.iinc 3 1, 3) := by decide +kernel
theorem d_16_107 : decode (codeOf 16) 107 = .ok (.goto (-32), 3) := by decide +kernel
theorem d_16_110 : decode (codeOf 16) 110 = .ok (.iconst 0, 1) := by decide +kernel
theorem d_16_111 : decode (codeOf 16) 111 = .ok (.ireturn, 1) := by decide +kernel
theorem d_17_0 : decode (codeOf 17) 0 = .ok (.aload_n 0, 1) := by decide +kernel
theorem d_17_1 : decode (codeOf 17) 1 = .ok (.iload_n 1, 1) := by decide +kernel
theorem d_17_2 : decode (codeOf 17) 2 = .ok (.invokevirtual 111, 3) := by decide +kernel
theorem d_17_5 : decode (codeOf 17) 5 = .ok (.istore 4, 2) := by decide +kernel
theorem d_17_7 : decode (codeOf 17) 7 = .ok (.iload 4, 2) := by decide +kernel
theorem d_17_9 : decode (codeOf 17) 9 = .ok (.invokestatic 136, 3) := by decide +kernel
theorem d_17_12 : decode (codeOf 17) 12 = .ok (.ifCond .ne 5, 3) := by decide +kernel
theorem d_17_15 : decode (codeOf 17) 15 = .ok (.iconst 2, 1) := by decide +kernel
theorem d_17_16 : decode (codeOf 17) 16 = .ok (.ireturn, 1) := by decide +kernel
theorem d_17_17 : decode (codeOf 17) 17 = .ok (.iload 4, 2) := by decide +kernel
theorem d_17_19 : decode (codeOf 17) 19 = .ok (.invokestatic 139, 3) := by decide +kernel
theorem d_17_22 : decode (codeOf 17) 22 = .ok (.istore 5, 2) := by decide +kernel
theorem d_17_24 : decode (codeOf 17) 24 = .ok (.iload_n 2, 1) := by decide +kernel
theorem d_17_25 : decode (codeOf 17) 25 = .ok (.aload_n 0, 1) := by decide +kernel
theorem d_17_26 : decode (codeOf 17) 26 = .ok (.getfield 12, 3) := by decide +kernel
theorem d_17_29 : decode (codeOf 17) 29 = .ok (.iload 5, 2) := by decide +kernel
theorem d_17_31 : decode (codeOf 17) 31 = .ok (.invokevirtual 36, 3) := by decide +kernel
theorem d_17_34 : decode (codeOf 17) 34 = .ok (.if_icmp .lt 5, 3) := by decide +kernel
theorem d_17_37 : decode (codeOf 17) 37 = .ok (.iconst 3, 1) := by decide +kernel
theorem d_17_38 : decode (codeOf 17) 38 = .ok (.ireturn, 1) := by decide +kernel
theorem d_17_39 : decode (codeOf 17) 39 = .ok (.aload_n 0, 1) := by decide +kernel
theorem d_17_40 : decode (codeOf 17) 40 = .ok (.aload_n 0, 1) := by decide +kernel
theorem d_17_41 : decode (codeOf 17) 41 = .ok (.iload_n 3, 1) := by decide +kernel
theorem d_17_42 : decode (codeOf 17) 42 = .ok (.invokevirtual 111, 3) := by decide +kernel
theorem d_17_45 : decode (codeOf 17) 45 = .ok (.aload_n 0, 1) := by decide +kernel
theorem d_17_46 : decode (codeOf 17) 46 = .ok (.getfield 12, 3) := by decide +kernel
theorem d_17_49 : decode (codeOf 17) 49 = .ok (.iload 5, 2) := by decide +kernel
theorem d_17_51 : decode (codeOf 17) 51 = .ok (.iload_n 2, 1) := by decide +kernel
theorem d_17_52 : decode (codeOf 17) 52 = .ok (.invokevirtual 142, 3) := by decide +kernel
theorem d_17_55 : decode (codeOf 17) 55 = .ok (.invokevirtual 130, 3) := by decide +kernel
theorem d_17_58 : decode (codeOf 17) 58 = .ok (.ifCond .ne 5, 3) := by decide +kernel
theorem d_17_61 : decode (codeOf 17) 61 = .ok (.iconst 4, 1) := by decide +kernel
theorem d_17_62 : decode (codeOf 17) 62 = .ok (.ireturn, 1) := by decide +kernel
theorem d_17_63 : decode (codeOf 17) 63 = .ok (.aload_n 0, 1) := by decide +kernel
theorem d_17_64 : decode (codeOf 17) 64 = .ok (.iload_n 1, 1) := by decide +kernel
theorem d_17_65 : decode (codeOf 17) 65 = .ok (.aload_n 0, 1) := by decide +kernel
theorem d_17_66 : decode (codeOf 17) 66 = .ok (.iload 5, 2) := by decide +kernel
theorem d_17_68 : decode (codeOf 17) 68 = .ok (.aload_n 0, 1) := by decide +kernel
theorem d_17_69 : decode (codeOf 17) 69 = .ok (.iload 4, 2) := by decide +kernel
theorem d_17_71 : decode (codeOf 17) 71 = .ok (.invokevirtual 145, 3) := by decide +kernel
theorem d_17_74 : decode (codeOf 17) 74 = .ok (.iconst 1, 1) := by decide +kernel
theorem d_17_75 : decode (codeOf 17) 75 = .ok (.iload_n 2, 1) := by decide +kernel
theorem d_17_76 : decode (codeOf 17) 76 = .ok (.ishl, 1) := by decide +kernel
theorem d_17_77 : decode (codeOf 17) 77 = .ok (.ior, 1) := by decide +kernel
theorem d_17_78 : decode (codeOf 17) 78 = .ok (.invokevirtual 118, 3) := by decide +kernel
theorem d_17_81 : decode (codeOf 17) 81 = .ok (.invokevirtual 114, 3) := by decide +kernel
theorem d_17_84 : decode (codeOf 17) 84 = .ok (.iconst 0, 1) := by decide +kernel
theorem d_17_85 : decode (codeOf 17) 85 = .ok (.ireturn, 1) := by decide +kernel
theorem d_18_0 : decode (codeOf 18) 0 = .ok (.aload_n 0, 1) := by decide +kernel
theorem d_18_1 : decode (codeOf 18) 1 = .ok (.iload_n 2, 1) := by decide +kernel
theorem d_18_2 : decode (codeOf 18) 2 = .ok (.invokevirtual 111, 3) := by decide +kernel
theorem d_18_5 : decode (codeOf 18) 5 = .ok (.istore 4, 2) := by decide +kernel
theorem d_18_7 : decode (codeOf 18) 7 = .ok (.iload 4, 2) := by decide +kernel
theorem d_18_9 : decode (codeOf 18) 9 = .ok (.invokestatic 136, 3) := by decide +kernel
theorem d_18_12 : decode (codeOf 18) 12 = .ok (.ifCond .ne 5, 3) := by decide +kernel
theorem d_18_15 : decode (codeOf 18) 15 = .ok (.iconst 2, 1) := by decide +kernel
theorem d_18_16 : decode (codeOf 18) 16 = .ok (.ireturn, 1) := by decide +kernel
theorem d_18_17 : decode (codeOf 18) 17 = .ok (.iload 4, 2) := by decide +kernel
theorem d_18_19 : decode (codeOf 18) 19 = .ok (.invokestatic 139, 3) := by decide +kernel
theorem d_18_22 : decode (codeOf 18) 22 = .ok (.istore 5, 2) := by decide +kernel
theorem d_18_24 : decode (codeOf 18) 24 = .ok (.iload_n 3, 1) := by decide +kernel
theorem d_18_25 : decode (codeOf 18) 25 = .ok (.aload_n 0, 1) := by decide +kernel
theorem d_18_26 : decode (codeOf 18) 26 = .ok (.getfield 12, 3) := by decide +kernel
theorem d_18_29 : decode (codeOf 18) 29 = .ok (.iload 5, 2) := by decide +kernel
theorem d_18_31 : decode (codeOf 18) 31 = .ok (.invokevirtual 36, 3) := by decide +kernel
theorem d_18_34 : decode (codeOf 18) 34 = .ok (.if_icmp .ge 16, 3) := by decide +kernel
theorem d_18_37 : decode (codeOf 18) 37 = .ok (.aload_n 0, 1) := by decide +kernel
theorem d_18_38 : decode (codeOf 18) 38 = .ok (.iload 4, 2) := by decide +kernel
theorem d_18_40 : decode (codeOf 18) 40 = .ok (.invokevirtual 145, 3) := by decide +kernel
theorem d_18_43 : decode (codeOf 18) 43 = .ok (.iload_n 3, 1) := by decide +kernel
theorem d_18_44 : decode (codeOf 18) 44 = .ok (.ishr, 1) := by decide +kernel
theorem d_18_45 : decode (codeOf 18) 45 = .ok (.iconst 1, 1) := by decide +kernel
theorem d_18_46 : decode (codeOf 18) 46 = .ok (.iand, 1) := by decide +kernel
theorem d_18_47 : decode (codeOf 18) 47 = .ok (.ifCond .ne 5, 3) := by decide +kernel
theorem d_18_50 : decode (codeOf 18) 50 = .ok (.iconst 3, 1) := by decide +kernel
theorem d_18_51 : decode (codeOf 18) 51 = .ok (.ireturn, 1) := by decide +kernel
theorem d_18_52 : decode (codeOf 18) 52 = .ok (.aload_n 0, 1) := by decide +kernel
theorem d_18_53 : decode (codeOf 18) 53 = .ok (.iload_n 1, 1) := by decide +kernel
theorem d_18_54 : decode (codeOf 18) 54 = .ok (.aload_n 0, 1) := by decide +kernel
theorem d_18_55 : decode (codeOf 18) 55 = .ok (.getfield 12, 3) := by decide +kernel
theorem d_18_58 : decode (codeOf 18) 58 = .ok (.iload 5, 2) := by decide +kernel
theorem d_18_60 : decode (codeOf 18) 60 = .ok (.iload_n 3, 1) := by decide +kernel
theorem d_18_61 : decode (codeOf 18) 61 = .ok (.invokevirtual 142, 3) := by decide +kernel
theorem d_18_64 : decode (codeOf 18) 64 = .ok (.invokevirtual 114, 3) := by decide +kernel
theorem d_18_67 : decode (codeOf 18) 67 = .ok (.iconst 0, 1) := by decide +kernel
theorem d_18_68 : decode (codeOf 18) 68 = .ok (.ireturn, 1) := by decide +kernel
theorem d_19_0 : decode (codeOf 19) 0 = .ok (.aload_n 0, 1) := by decide +kernel
theorem d_19_1 : decode (codeOf 19) 1 = .ok (.getfield 64, 3) := by decide +kernel
theorem d_19_4 : decode (codeOf 19) 4 = .ok (.ifCond .lt 12, 3) := by decide +kernel
theorem d_19_7 : decode (codeOf 19) 7 = .ok (.aload_n 0, 1) := by decide +kernel
theorem d_19_8 : decode (codeOf 19) 8 = .ok (.getfield 64, 3) := by decide +kernel
theorem d_19_11 : decode (codeOf 19) 11 = .ok (.bipush 6, 2) := by decide +kernel
theorem d_19_13 : decode (codeOf 19) 13 = .ok (.if_icmp .lt 5, 3) := by decide +kernel
theorem d_19_16 : decode (codeOf 19) 16 = .ok (.iconst 0, 1) := by decide +kernel
theorem d_19_17 : decode (codeOf 19) 17 = .ok (.ireturn, 1) := by decide +kernel
theorem d_19_18 : decode (codeOf 19) 18 = .ok (.aload_n 0, 1) := by decide +kernel
theorem d_19_19 : decode (codeOf 19) 19 = .ok (.getfield 22, 3) := by decide +kernel
theorem d_19_22 : decode (codeOf 19) 22 = .ok (.aload_n 0, 1) := by decide +kernel
theorem d_19_23 : decode (codeOf 19) 23 = .ok (.getfield 64, 3) := by decide +kernel
theorem d_19_26 : decode (codeOf 19) 26 = .ok (.iload_n 1, 1) := by decide +kernel
theorem d_19_27 : decode (codeOf 19) 27 = .ok (.iastore, 1) := by decide +kernel
theorem d_19_28 : decode (codeOf 19) 28 = .ok (.aload_n 0, 1) := by decide +kernel
theorem d_19_29 : decode (codeOf 19) 29 = .ok (.dup, 1) := by decide +kernel
theorem d_19_30 : decode (codeOf 19) 30 = .ok (.getfield 64, 3) := by decide +kernel
theorem d_19_33 : decode (codeOf 19) 33 = .ok (.iconst 1, 1) := by decide +kernel
theorem d_19_34 : decode (codeOf 19) 34 = .ok (.iadd, 1) := by decide +kernel
theorem d_19_35 : decode (codeOf 19) 35 = .ok (.putfield 64, 3) := by decide +kernel
theorem d_19_38 : decode (codeOf 19) 38 = .ok (.iconst 1, 1) := by decide +kernel
theorem d_19_39 : decode (codeOf 19) 39 = .ok (.ireturn, 1) := by decide +kernel
theorem d_20_0 : decode (codeOf 20) 0 = .ok (.aload_n 0, 1) := by decide +kernel
theorem d_20_1 : decode (codeOf 20) 1 = .ok (.getfield 64, 3) := by decide +kernel
theorem d_20_4 : decode (codeOf 20) 4 = .ok (.ifCond .gt 5, 3) := by decide +kernel
theorem d_20_7 : decode (codeOf 20) 7 = .ok (.iconst 5, 1) := by decide +kernel
theorem d_20_8 : decode (codeOf 20) 8 = .ok (.ireturn, 1) := by decide +kernel
theorem d_20_9 : decode (codeOf 20) 9 = .ok (.aload_n 0, 1) := by decide +kernel
theorem d_20_10 : decode (codeOf 20) 10 = .ok (.iload_n 1, 1) := by decide +kernel
theorem d_20_11 : decode (codeOf 20) 11 = .ok (.aload_n 0, 1) := by decide +kernel
theorem d_20_12 : decode (codeOf 20) 12 = .ok (.iconst 0, 1) := by decide +kernel
theorem d_20_13 : decode (codeOf 20) 13 = .ok (.invokevirtual 133, 3) := by decide +kernel
theorem d_20_16 : decode (codeOf 20) 16 = .ok (.invokevirtual 114, 3) := by decide +kernel
theorem d_20_19 : decode (codeOf 20) 19 = .ok (.aload_n 0, 1) := by decide +kernel
theorem d_20_20 : decode (codeOf 20) 20 = .ok (.dup, 1) := by decide +kernel
theorem d_20_21 : decode (codeOf 20) 21 = .ok (.getfield 64, 3) := by decide +kernel
theorem d_20_24 : decode (codeOf 20) 24 = .ok (.iconst 1, 1) := by decide +kernel
theorem d_20_25 : decode (codeOf 20) 25 = .ok (.isub, 1) := by decide +kernel
theorem d_20_26 : decode (codeOf 20) 26 = .ok (.putfield 64, 3) := by decide +kernel
theorem d_20_29 : decode (codeOf 20) 29 = .ok (.iconst 0, 1) := by decide +kernel
theorem d_20_30 : decode (codeOf 20) 30 = .ok (.ireturn, 1) := by decide +kernel
theorem d_21_0 : decode (codeOf 21) 0 = .ok (.iload_n 0, 1) := by decide +kernel
theorem d_21_1 : decode (codeOf 21) 1 = .ok (.iconst 2, 1) := by decide +kernel
theorem d_21_2 : decode (codeOf 21) 2 = .ok (.if_icmp .lt 9, 3) := by decide +kernel
theorem d_21_5 : decode (codeOf 21) 5 = .ok (.iload_n 0, 1) := by decide +kernel
theorem d_21_6 : decode (codeOf 21) 6 = .ok (.bipush 6, 2) := by decide +kernel
theorem d_21_8 : decode (codeOf 21) 8 = .ok (.if_icmp .lt 9, 3) := by decide +kernel
theorem d_21_11 : decode (codeOf 21) 11 = .ok (.iload_n 0, 1) := by decide +kernel
theorem d_21_12 : decode (codeOf 21) 12 = .ok (.bipush 10, 2) := by decide +kernel
theorem d_21_14 : decode (codeOf 21) 14 = .ok (.if_icmp .lt 7, 3) := by decide +kernel
theorem d_21_17 : decode (codeOf 21) 17 = .ok (.iconst 1, 1) := by decide +kernel
theorem d_21_18 : decode (codeOf 21) 18 = .ok (.goto 4, 3) := by decide +kernel
theorem d_21_21 : decode (codeOf 21) 21 = .ok (.iconst 0, 1) := by decide +kernel
theorem d_21_22 : decode (codeOf 21) 22 = .ok (.ireturn, 1) := by decide +kernel
theorem d_22_0 : decode (codeOf 22) 0 = .ok (.iload_n 0, 1) := by decide +kernel
theorem d_22_1 : decode (codeOf 22) 1 = .ok (.bipush 10, 2) := by decide +kernel
theorem d_22_3 : decode (codeOf 22) 3 = .ok (.if_icmp .ge 9, 3) := by decide +kernel
theorem d_22_6 : decode (codeOf 22) 6 = .ok (.iload_n 0, 1) := by decide +kernel
theorem d_22_7 : decode (codeOf 22) 7 = .ok (.iconst 2, 1) := by decide +kernel
theorem d_22_8 : decode (codeOf 22) 8 = .ok (.isub, 1) := by decide +kernel
theorem d_22_9 : decode (codeOf 22) 9 = .ok (.goto 10, 3) := by decide +kernel
theorem d_22_12 : decode (codeOf 22) 12 = .ok (.iload_n 0, 1) := by decide +kernel
theorem d_22_13 : decode (codeOf 22) 13 = .ok (.bipush 10, 2) := by decide +kernel
theorem d_22_15 : decode (codeOf 22) 15 = .ok (.isub, 1) := by decide +kernel
theorem d_22_16 : decode (codeOf 22) 16 = .ok (.bipush 8, 2) := by decide +kernel
theorem d_22_18 : decode (codeOf 22) 18 = .ok (.idiv, 1) := by decide +kernel
theorem d_22_19 : decode (codeOf 22) 19 = .ok (.ireturn, 1) := by decide +kernel
theorem d_23_0 : decode (codeOf 23) 0 = .ok (.iload_n 1, 1) := by decide +kernel
theorem d_23_1 : decode (codeOf 23) 1 = .ok (.ifCond .lt 17, 3) := by decide +kernel
theorem d_23_4 : decode (codeOf 23) 4 = .ok (.iload_n 1, 1) := by decide +kernel
theorem d_23_5 : decode (codeOf 23) 5 = .ok (.iconst 4, 1) := by decide +kernel
theorem d_23_6 : decode (codeOf 23) 6 = .ok (.if_icmp .ge 12, 3) := by decide +kernel
theorem d_23_9 : decode (codeOf 23) 9 = .ok (.aload_n 0, 1) := by decide +kernel
theorem d_23_10 : decode (codeOf 23) 10 = .ok (.getfield 25, 3) := by decide +kernel
theorem d_23_13 : decode (codeOf 23) 13 = .ok (.iload_n 1, 1) := by decide +kernel
theorem d_23_14 : decode (codeOf 23) 14 = .ok (.iaload, 1) := by decide +kernel
theorem d_23_15 : decode (codeOf 23) 15 = .ok (.goto 4, 3) := by decide +kernel
theorem d_23_18 : decode (codeOf 23) 18 = .ok (.iconst 0, 1) := by decide +kernel
theorem d_23_19 : decode (codeOf 23) 19 = .ok (.ireturn, 1) := by decide +kernel
theorem d_24_0 : decode (codeOf 24) 0 = .ok (.iload_n 1, 1) := by decide +kernel
theorem d_24_1 : decode (codeOf 24) 1 = .ok (.bipush 10, 2) := by decide +kernel
theorem d_24_3 : decode (codeOf 24) 3 = .ok (.if_icmp .ge 13, 3) := by decide +kernel
theorem d_24_6 : decode (codeOf 24) 6 = .ok (.aload_n 0, 1) := by decide +kernel
theorem d_24_7 : decode (codeOf 24) 7 = .ok (.iload_n 1, 1) := by decide +kernel
theorem d_24_8 : decode (codeOf 24) 8 = .ok (.iconst 2, 1) := by decide +kernel
theorem d_24_9 : decode (codeOf 24) 9 = .ok (.isub, 1) := by decide +kernel
theorem d_24_10 : decode (codeOf 24) 10 = .ok (.invokevirtual 148, 3) := by decide +kernel
theorem d_24_13 : decode (codeOf 24) 13 = .ok (.goto 10, 3) := by decide +kernel
theorem d_24_16 : decode (codeOf 24) 16 = .ok (.iload_n 1, 1) := by decide +kernel
theorem d_24_17 : decode (codeOf 24) 17 = .ok (.bipush 10, 2) := by decide +kernel
theorem d_24_19 : decode (codeOf 24) 19 = .ok (.isub, 1) := by decide +kernel
theorem d_24_20 : decode (codeOf 24) 20 = .ok (.bipush 8, 2) := by decide +kernel
theorem d_24_22 : decode (codeOf 24) 22 = .ok (.irem, 1) := by decide +kernel
theorem d_24_23 : decode (codeOf 24) 23 = .ok (.ireturn, 1) := by decide +kernel
theorem d_25_0 : decode (codeOf 25) 0 = .ok (.iload_n 2, 1) := by decide +kernel
theorem d_25_1 : decode (codeOf 25) 1 = .ok (.aload_n 0, 1) := by decide +kernel
theorem d_25_2 : decode (codeOf 25) 2 = .ok (.iload_n 1, 1) := by decide +kernel
theorem d_25_3 : decode (codeOf 25) 3 = .ok (.invokevirtual 148, 3) := by decide +kernel
theorem d_25_6 : decode (codeOf 25) 6 = .ok (.if_icmp .ne 9, 3) := by decide +kernel
theorem d_25_9 : decode (codeOf 25) 9 = .ok (.iconst 2, 1) := by decide +kernel
theorem d_25_10 : decode (codeOf 25) 10 = .ok (.iload_n 1, 1) := by decide +kernel
theorem d_25_11 : decode (codeOf 25) 11 = .ok (.iadd, 1) := by decide +kernel
theorem d_25_12 : decode (codeOf 25) 12 = .ok (.goto 12, 3) := by decide +kernel
theorem d_25_15 : decode (codeOf 25) 15 = .ok (.bipush 10, 2) := by decide +kernel
theorem d_25_17 : decode (codeOf 25) 17 = .ok (.iload_n 1, 1) := by decide +kernel
theorem d_25_18 : decode (codeOf 25) 18 = .ok (.bipush 8, 2) := by decide +kernel
theorem d_25_20 : decode (codeOf 25) 20 = .ok (.imul, 1) := by decide +kernel
theorem d_25_21 : decode (codeOf 25) 21 = .ok (.iadd, 1) := by decide +kernel
theorem d_25_22 : decode (codeOf 25) 22 = .ok (.iload_n 2, 1) := by decide +kernel
theorem d_25_23 : decode (codeOf 25) 23 = .ok (.iadd, 1) := by decide +kernel
theorem d_25_24 : decode (codeOf 25) 24 = .ok (.ireturn, 1) := by decide +kernel
theorem d_26_0 : decode (codeOf 26) 0 = .ok (.aload_n 0, 1) := by decide +kernel
theorem d_26_1 : decode (codeOf 26) 1 = .ok (.invokespecial 5, 3) := by decide +kernel
theorem d_26_4 : decode (codeOf 26) 4 = .ok (.aload_n 0, 1) := by decide +kernel
theorem d_26_5 : decode (codeOf 26) 5 = .ok (.new 11, 3) := by decide +kernel
theorem d_26_8 : decode (codeOf 26) 8 = .ok (.dup, 1) := by decide +kernel
theorem d_26_9 : decode (codeOf 26) 9 = .ok (.invokespecial 13, 3) := by decide +kernel
theorem d_26_12 : decode (codeOf 26) 12 = .ok (.putfield 14, 3) := by decide +kernel
theorem d_26_15 : decode (codeOf 26) 15 = .ok (.aload_n 0, 1) := by decide +kernel
theorem d_26_16 : decode (codeOf 26) 16 = .ok (.iconst 4, 1) := by decide +kernel
theorem d_26_17 : decode (codeOf 26) 17 = .ok (.newarray .int, 2) := by decide +kernel
theorem d_26_19 : decode (codeOf 26) 19 = .ok (.putfield 18, 3) := by decide +kernel
theorem d_26_22 : decode (codeOf 26) 22 = .ok (.aload_n 0, 1) := by decide +kernel
theorem d_26_23 : decode (codeOf 26) 23 = .ok (.bipush 16, 2) := by decide +kernel
theorem d_26_25 : decode (codeOf 26) 25 = .ok (.newarray .int, 2) := by decide +kernel
theorem d_26_27 : decode (codeOf 26) 27 = .ok (.putfield 22, 3) := by decide +kernel
theorem d_26_30 : decode (codeOf 26) 30 = .ok (.aload_n 0, 1) := by decide +kernel
theorem d_26_31 : decode (codeOf 26) 31 = .ok (.bipush 12, 2) := by decide +kernel
theorem d_26_33 : decode (codeOf 26) 33 = .ok (.newarray .int, 2) := by decide +kernel
theorem d_26_35 : decode (codeOf 26) 35 = .ok (.putfield 25, 3) := by decide +kernel
theorem d_26_38 : decode (codeOf 26) 38 = .ok (.aload_n 0, 1) := by decide +kernel
theorem d_26_39 : decode (codeOf 26) 39 = .ok (.bipush 36, 2) := by decide +kernel
theorem d_26_41 : decode (codeOf 26) 41 = .ok (.newarray .int, 2) := by decide +kernel
theorem d_26_43 : decode (codeOf 26) 43 = .ok (.putfield 28, 3) := by decide +kernel
theorem d_26_46 : decode (codeOf 26) 46 = .ok (.return_, 1) := by decide +kernel
theorem d_27_0 : decode (codeOf 27) 0 = .ok (.aload_n 1, 1) := by decide +kernel
theorem d_27_1 : decode (codeOf 27) 1 = .ok (.ifnull 8, 3) := by decide +kernel
theorem d_27_4 : decode (codeOf 27) 4 = .ok (.aload_n 0, 1) := by decide +kernel
theorem d_27_5 : decode (codeOf 27) 5 = .ok (.aload_n 1, 1) := by decide +kernel
theorem d_27_6 : decode (codeOf 27) 6 = .ok (.putfield 14, 3) := by decide +kernel
theorem d_27_9 : decode (codeOf 27) 9 = .ok (.aload_n 0, 1) := by decide +kernel
theorem d_27_10 : decode (codeOf 27) 10 = .ok (.iload_n 2, 1) := by decide +kernel
theorem d_27_11 : decode (codeOf 27) 11 = .ok (.invokevirtual 31, 3) := by decide +kernel
theorem d_27_14 : decode (codeOf 27) 14 = .ok (.iconst 0, 1) := by decide +kernel
theorem d_27_15 : decode (codeOf 27) 15 = .ok (.istore_n 3, 1) := by decide +kernel
theorem d_27_16 : decode (codeOf 27) 16 = .ok (.iload_n 3, 1) := by decide +kernel
theorem d_27_17 : decode (codeOf 27) 17 = .ok (.iconst 4, 1) := by decide +kernel
theorem d_27_18 : decode (codeOf 27) 18 = .ok (.if_icmp .ge 28, 3) := by decide +kernel
theorem d_27_21 : decode (codeOf 27) 21 = .ok (.aload_n 0, 1) := by decide +kernel
theorem d_27_22 : decode (codeOf 27) 22 = .ok (.getfield 18, 3) := by decide +kernel
theorem d_27_25 : decode (codeOf 27) 25 = .ok (.iload_n 3, 1) := by decide +kernel
theorem d_27_26 : decode (codeOf 27) 26 = .ok (.aload_n 0, 1) := by decide +kernel
theorem d_27_27 : decode (codeOf 27) 27 = .ok (.getfield 14, 3) := by decide +kernel
theorem d_27_30 : decode (codeOf 27) 30 = .ok (.iconst 0, 1) := by decide +kernel
theorem d_27_31 : decode (codeOf 27) 31 = .ok (.iload_n 3, 1) := by decide +kernel
theorem d_27_32 : decode (codeOf 27) 32 = .ok (.invokevirtual 35, 3) := by decide +kernel
theorem d_27_35 : decode (codeOf 27) 35 = .ok (.iload_n 2, 1) := by decide +kernel
theorem d_27_36 : decode (codeOf 27) 36 = .ok (.invokestatic 39, 3) := by decide +kernel
theorem d_27_39 : decode (codeOf 27) 39 = .ok (.iastore, 1) := by decide +kernel
theorem d_27_40 : decode (codeOf 27) 40 = .ok (.iinc 3 1, 3) := by decide +kernel
theorem d_27_43 : decode (codeOf 27) 43 = .ok (.goto (-27), 3) := by decide +kernel
theorem d_27_46 : decode (codeOf 27) 46 = .ok (.aload_n 0, 1) := by decide +kernel
theorem d_27_47 : decode (codeOf 27) 47 = .ok (.iconst 0, 1) := by decide +kernel
theorem d_27_48 : decode (codeOf 27) 48 = .ok (.putfield 42, 3) := by decide +kernel
theorem d_27_51 : decode (codeOf 27) 51 = .ok (.aload_n 0, 1) := by decide +kernel
theorem d_27_52 : decode (codeOf 27) 52 = .ok (.getfield 14, 3) := by decide +kernel
theorem d_27_55 : decode (codeOf 27) 55 = .ok (.iconst 0, 1) := by decide +kernel
theorem d_27_56 : decode (codeOf 27) 56 = .ok (.invokevirtual 46, 3) := by decide +kernel
theorem d_27_59 : decode (codeOf 27) 59 = .ok (.iconst 1, 1) := by decide +kernel
theorem d_27_60 : decode (codeOf 27) 60 = .ok (.isub, 1) := by decide +kernel
theorem d_27_61 : decode (codeOf 27) 61 = .ok (.istore_n 3, 1) := by decide +kernel
theorem d_27_62 : decode (codeOf 27) 62 = .ok (.iload_n 3, 1) := by decide +kernel
theorem d_27_63 : decode (codeOf 27) 63 = .ok (.ifCond .lt 27, 3) := by decide +kernel
theorem d_27_66 : decode (codeOf 27) 66 = .ok (.aload_n 0, 1) := by decide +kernel
theorem d_27_67 : decode (codeOf 27) 67 = .ok (.aload_n 0, 1) := by decide +kernel
theorem d_27_68 : decode (codeOf 27) 68 = .ok (.getfield 14, 3) := by decide +kernel
theorem d_27_71 : decode (codeOf 27) 71 = .ok (.iconst 0, 1) := by decide +kernel
theorem d_27_72 : decode (codeOf 27) 72 = .ok (.iload_n 3, 1) := by decide +kernel
theorem d_27_73 : decode (codeOf 27) 73 = .ok (.invokevirtual 50, 3) := by decide +kernel
theorem d_27_76 : decode (codeOf 27) 76 = .ok (.iload_n 2, 1) := by decide +kernel
theorem d_27_77 : decode (codeOf 27) 77 = .ok (.invokestatic 39, 3) := by decide +kernel
theorem d_27_80 : decode (codeOf 27) 80 = .ok (.invokevirtual 53, 3) := by decide +kernel
theorem d_27_83 : decode (codeOf 27) 83 = .ok (.pop, 1) := by decide +kernel
theorem d_27_84 : decode (codeOf 27) 84 = .ok (.iinc 3 (-1), 3) := by decide +kernel
theorem d_27_87 : decode (codeOf 27) 87 = .ok (.goto (-25), 3) := by decide +kernel
theorem d_27_90 : decode (codeOf 27) 90 = .ok (.aload_n 0, 1) := by decide +kernel
theorem d_27_91 : decode (codeOf 27) 91 = .ok (.iconst 0, 1) := by decide +kernel
theorem d_27_92 : decode (codeOf 27) 92 = .ok (.invokevirtual 57, 3) := by decide +kernel
theorem d_27_95 : decode (codeOf 27) 95 = .ok (.aload_n 0, 1) := by decide +kernel
theorem d_27_96 : decode (codeOf 27) 96 = .ok (.iconst 0, 1) := by decide +kernel
theorem d_27_97 : decode (codeOf 27) 97 = .ok (.putfield 60, 3) := by decide +kernel
theorem d_27_100 : decode (codeOf 27) 100 = .ok (.aload_n 0, 1) := by decide +kernel
theorem d_27_101 : decode (codeOf 27) 101 = .ok (.iconst 0, 1) := by decide +kernel
theorem d_27_102 : decode (codeOf 27) 102 = .ok (.putfield 63, 3) := by decide +kernel
theorem d_27_105 : decode (codeOf 27) 105 = .ok (.return_, 1) := by decide +kernel
theorem d_28_0 : decode (codeOf 28) 0 = .ok (.iconst 0, 1) := by decide +kernel
theorem d_28_1 : decode (codeOf 28) 1 = .ok (.istore_n 2, 1) := by decide +kernel
theorem d_28_2 : decode (codeOf 28) 2 = .ok (.iload_n 2, 1) := by decide +kernel
theorem d_28_3 : decode (codeOf 28) 3 = .ok (.iconst 4, 1) := by decide +kernel
theorem d_28_4 : decode (codeOf 28) 4 = .ok (.if_icmp .ge 52, 3) := by decide +kernel
theorem d_28_7 : decode (codeOf 28) 7 = .ok (.aload_n 0, 1) := by decide +kernel
theorem d_28_8 : decode (codeOf 28) 8 = .ok (.getfield 25, 3) := by decide +kernel
theorem d_28_11 : decode (codeOf 28) 11 = .ok (.iload_n 2, 1) := by decide +kernel
theorem d_28_12 : decode (codeOf 28) 12 = .ok (.iload_n 2, 1) := by decide +kernel
theorem d_28_13 : decode (codeOf 28) 13 = .ok (.iastore, 1) := by decide +kernel
theorem d_28_14 : decode (codeOf 28) 14 = .ok (.iconst 0, 1) := by decide +kernel
theorem d_28_15 : decode (codeOf 28) 15 = .ok (.istore_n 3, 1) := by decide +kernel
theorem d_28_16 : decode (codeOf 28) 16 = .ok (.iload_n 3, 1) := by decide +kernel
theorem d_28_17 : decode (codeOf 28) 17 = .ok (.iconst 3, 1) := by decide +kernel
theorem d_28_18 : decode (codeOf 28) 18 = .ok (.if_icmp .ge 32, 3) := by decide +kernel
theorem d_28_21 : decode (codeOf 28) 21 = .ok (.aload_n 0, 1) := by decide +kernel
theorem d_28_22 : decode (codeOf 28) 22 = .ok (.getfield 28, 3) := by decide +kernel
theorem d_28_25 : decode (codeOf 28) 25 = .ok (.iload_n 2, 1) := by decide +kernel
theorem d_28_26 : decode (codeOf 28) 26 = .ok (.iconst 3, 1) := by decide +kernel
theorem d_28_27 : decode (codeOf 28) 27 = .ok (.imul, 1) := by decide +kernel
theorem d_28_28 : decode (codeOf 28) 28 = .ok (.iload_n 3, 1) := by decide +kernel
theorem d_28_29 : decode (codeOf 28) 29 = .ok (.iadd, 1) := by decide +kernel
theorem d_28_30 : decode (codeOf 28) 30 = .ok (.aload_n 0, 1) := by decide +kernel
theorem d_28_31 : decode (codeOf 28) 31 = .ok (.getfield 14, 3) := by decide +kernel
theorem d_28_34 : decode (codeOf 28) 34 = .ok (.iload_n 2, 1) := by decide +kernel
theorem d_28_35 : decode (codeOf 28) 35 = .ok (.iload_n 3, 1) := by decide +kernel
theorem d_28_36 : decode (codeOf 28) 36 = .ok (.invokevirtual 66, 3) := by decide +kernel
theorem d_28_39 : decode (codeOf 28) 39 = .ok (.iload_n 1, 1) := by decide +kernel
theorem d_28_40 : decode (codeOf 28) 40 = .ok (.invokestatic 39, 3) := by decide +kernel
theorem d_28_43 : decode (codeOf 28) 43 = .ok (.iastore, 1) := by decide +kernel
theorem d_28_44 : decode (codeOf 28) 44 = .ok (.iinc 3 1, 3) := by decide +kernel
theorem d_28_47 : decode (codeOf 28) 47 = .ok (.goto (-31), 3) := by decide +kernel
theorem d_28_50 : decode (codeOf 28) 50 = .ok (.iinc 2 1, 3) := by decide +kernel
theorem d_28_53 : decode (codeOf 28) 53 = .ok (.goto (-51), 3) := by decide +kernel
theorem d_28_56 : decode (codeOf 28) 56 = .ok (.aload_n 0, 1) := by decide +kernel
theorem d_28_57 : decode (codeOf 28) 57 = .ok (.iconst 4, 1) := by decide +kernel
theorem d_28_58 : decode (codeOf 28) 58 = .ok (.putfield 69, 3) := by decide +kernel
theorem d_28_61 : decode (codeOf 28) 61 = .ok (.return_, 1) := by decide +kernel
theorem d_29_0 : decode (codeOf 29) 0 = .ok (.iload_n 0, 1) := by decide +kernel
theorem d_29_1 : decode (codeOf 29) 1 = .ok (.iconst 2, 1) := by decide +kernel
theorem d_29_2 : decode (codeOf 29) 2 = .ok (.if_icmp .ge 5, 3) := by decide +kernel
theorem d_29_5 : decode (codeOf 29) 5 = .ok (.iload_n 1, 1) := by decide +kernel
theorem d_29_6 : decode (codeOf 29) 6 = .ok (.ireturn, 1) := by decide +kernel
theorem d_29_7 : decode (codeOf 29) 7 = .ok (.iload_n 0, 1) := by decide +kernel
theorem d_29_8 : decode (codeOf 29) 8 = .ok (.bipush 6, 2) := by decide +kernel
theorem d_29_10 : decode (codeOf 29) 10 = .ok (.if_icmp .ge 13, 3) := by decide +kernel
theorem d_29_13 : decode (codeOf 29) 13 = .ok (.sipush 20000, 3) := by decide +kernel
theorem d_29_16 : decode (codeOf 29) 16 = .ok (.iload_n 0, 1) := by decide +kernel
theorem d_29_17 : decode (codeOf 29) 17 = .ok (.iadd, 1) := by decide +kernel
theorem d_29_18 : decode (codeOf 29) 18 = .ok (.iconst 2, 1) := by decide +kernel
theorem d_29_19 : decode (codeOf 29) 19 = .ok (.isub, 1) := by decide +kernel
theorem d_29_20 : decode (codeOf 29) 20 = .ok (.goto 11, 3) := by decide +kernel
theorem d_29_23 : decode (codeOf 29) 23 = .ok (.sipush 10000, 3) := by decide +kernel
theorem d_29_26 : decode (codeOf 29) 26 = .ok (.iload_n 0, 1) := by decide +kernel
theorem d_29_27 : decode (codeOf 29) 27 = .ok (.iadd, 1) := by decide +kernel
theorem d_29_28 : decode (codeOf 29) 28 = .ok (.bipush 6, 2) := by decide +kernel
theorem d_29_30 : decode (codeOf 29) 30 = .ok (.isub, 1) := by decide +kernel
theorem d_29_31 : decode (codeOf 29) 31 = .ok (.ireturn, 1) := by decide +kernel
theorem d_30_0 : decode (codeOf 30) 0 = .ok (.iconst 0, 1) := by decide +kernel
theorem d_30_1 : decode (codeOf 30) 1 = .ok (.istore_n 2, 1) := by decide +kernel
theorem d_30_2 : decode (codeOf 30) 2 = .ok (.iload_n 2, 1) := by decide +kernel
theorem d_30_3 : decode (codeOf 30) 3 = .ok (.iload_n 1, 1) := by decide +kernel
theorem d_30_4 : decode (codeOf 30) 4 = .ok (.if_icmp .ge 71, 3) := by decide +kernel
theorem d_30_7 : decode (codeOf 30) 7 = .ok (.aload_n 0, 1) := by decide +kernel
theorem d_30_8 : decode (codeOf 30) 8 = .ok (.getfield 63, 3) := by decide +kernel
theorem d_30_11 : decode (codeOf 30) 11 = .ok (.ifCond .ne 64, 3) := by decide +kernel
theorem d_30_14 : decode (codeOf 30) 14 = .ok (.aload_n 0, 1) := by decide +kernel
theorem d_30_15 : decode (codeOf 30) 15 = .ok (.aload_n 0, 1) := by decide +kernel
theorem d_30_16 : decode (codeOf 30) 16 = .ok (.getfield 14, 3) := by decide +kernel
theorem d_30_19 : decode (codeOf 30) 19 = .ok (.aload_n 0, 1) := by decide +kernel
theorem d_30_20 : decode (codeOf 30) 20 = .ok (.getfield 72, 3) := by decide +kernel
theorem d_30_23 : decode (codeOf 30) 23 = .ok (.aload_n 0, 1) := by decide +kernel
theorem d_30_24 : decode (codeOf 30) 24 = .ok (.getfield 75, 3) := by decide +kernel
theorem d_30_27 : decode (codeOf 30) 27 = .ok (.invokevirtual 78, 3) := by decide +kernel
theorem d_30_30 : decode (codeOf 30) 30 = .ok (.ifCond .eq 10, 3) := by decide +kernel
theorem d_30_33 : decode (codeOf 30) 33 = .ok (.aload_n 0, 1) := by decide +kernel
theorem d_30_34 : decode (codeOf 30) 34 = .ok (.invokevirtual 82, 3) := by decide +kernel
theorem d_30_37 : decode (codeOf 30) 37 = .ok (.goto 4, 3) := by decide +kernel
theorem d_30_40 : decode (codeOf 30) 40 = .ok (.iconst 2, 1) := by decide +kernel
theorem d_30_41 : decode (codeOf 30) 41 = .ok (.putfield 63, 3) := by decide +kernel
theorem d_30_44 : decode (codeOf 30) 44 = .ok (.aload_n 0, 1) := by decide +kernel
theorem d_30_45 : decode (codeOf 30) 45 = .ok (.getfield 63, 3) := by decide +kernel
theorem d_30_48 : decode (codeOf 30) 48 = .ok (.ifCond .eq 11, 3) := by decide +kernel
theorem d_30_51 : decode (codeOf 30) 51 = .ok (.aload_n 0, 1) := by decide +kernel
theorem d_30_52 : decode (codeOf 30) 52 = .ok (.getfield 63, 3) := by decide +kernel
theorem d_30_55 : decode (codeOf 30) 55 = .ok (.iconst 1, 1) := by decide +kernel
theorem d_30_56 : decode (codeOf 30) 56 = .ok (.if_icmp .ne 13, 3) := by decide +kernel
theorem d_30_59 : decode (codeOf 30) 59 = .ok (.aload_n 0, 1) := by decide +kernel
theorem d_30_60 : decode (codeOf 30) 60 = .ok (.dup, 1) := by decide +kernel
theorem d_30_61 : decode (codeOf 30) 61 = .ok (.getfield 60, 3) := by decide +kernel
theorem d_30_64 : decode (codeOf 30) 64 = .ok (.iconst 1, 1) := by decide +kernel
theorem d_30_65 : decode (codeOf 30) 65 = .ok (.iadd, 1) := by decide +kernel
theorem d_30_66 : decode (codeOf 30) 66 = .ok (.putfield 60, 3) := by decide +kernel
theorem d_30_69 : decode (codeOf 30) 69 = .ok (.iinc 2 1, 3) := by decide +kernel
theorem d_30_72 : decode (codeOf 30) 72 = .ok (.goto (-70), 3) := by decide +kernel
theorem d_30_75 : decode (codeOf 30) 75 = .ok (.return_, 1) := by decide +kernel
theorem d_31_0 : decode (codeOf 31) 0 = .ok (.aload_n 0, 1) := by decide +kernel
theorem d_31_1 : decode (codeOf 31) 1 = .ok (.iload_n 1, 1) := by decide +kernel
theorem d_31_2 : decode (codeOf 31) 2 = .ok (.putfield 72, 3) := by decide +kernel
theorem d_31_5 : decode (codeOf 31) 5 = .ok (.aload_n 0, 1) := by decide +kernel
theorem d_31_6 : decode (codeOf 31) 6 = .ok (.iconst 0, 1) := by decide +kernel
theorem d_31_7 : decode (codeOf 31) 7 = .ok (.putfield 75, 3) := by decide +kernel
theorem d_31_10 : decode (codeOf 31) 10 = .ok (.return_, 1) := by decide +kernel
theorem d_32_0 : decode (codeOf 32) 0 = .ok (.iload_n 1, 1) := by decide +kernel
theorem d_32_1 : decode (codeOf 32) 1 = .ok (.ifCond .lt 17, 3) := by decide +kernel
theorem d_32_4 : decode (codeOf 32) 4 = .ok (.iload_n 1, 1) := by decide +kernel
theorem d_32_5 : decode (codeOf 32) 5 = .ok (.iconst 4, 1) := by decide +kernel
theorem d_32_6 : decode (codeOf 32) 6 = .ok (.if_icmp .ge 12, 3) := by decide +kernel
theorem d_32_9 : decode (codeOf 32) 9 = .ok (.aload_n 0, 1) := by decide +kernel
theorem d_32_10 : decode (codeOf 32) 10 = .ok (.getfield 18, 3) := by decide +kernel
theorem d_32_13 : decode (codeOf 32) 13 = .ok (.iload_n 1, 1) := by decide +kernel
theorem d_32_14 : decode (codeOf 32) 14 = .ok (.iaload, 1) := by decide +kernel
theorem d_32_15 : decode (codeOf 32) 15 = .ok (.goto 4, 3) := by decide +kernel
theorem d_32_18 : decode (codeOf 32) 18 = .ok (.iconst (-1), 1) := by decide +kernel
theorem d_32_19 : decode (codeOf 32) 19 = .ok (.ireturn, 1) := by decide +kernel
theorem d_33_0 : decode (codeOf 33) 0 = .ok (.iload_n 0, 1) := by decide +kernel
theorem d_33_1 : decode (codeOf 33) 1 = .ok (.ifCond .lt 14, 3) := by decide +kernel
theorem d_33_4 : decode (codeOf 33) 4 = .ok (.iload_n 0, 1) := by decide +kernel
theorem d_33_5 : decode (codeOf 33) 5 = .ok (.sipush 10000, 3) := by decide +kernel
theorem d_33_8 : decode (codeOf 33) 8 = .ok (.if_icmp .ge 7, 3) := by decide +kernel
theorem d_33_11 : decode (codeOf 33) 11 = .ok (.iconst 1, 1) := by decide +kernel
theorem d_33_12 : decode (codeOf 33) 12 = .ok (.goto 4, 3) := by decide +kernel
theorem d_33_15 : decode (codeOf 33) 15 = .ok (.iconst 0, 1) := by decide +kernel
theorem d_33_16 : decode (codeOf 33) 16 = .ok (.ireturn, 1) := by decide +kernel
theorem d_34_0 : decode (codeOf 34) 0 = .ok (.iload_n 0, 1) := by decide +kernel
theorem d_34_1 : decode (codeOf 34) 1 = .ok (.sipush 10000, 3) := by decide +kernel
theorem d_34_4 : decode (codeOf 34) 4 = .ok (.if_icmp .lt 14, 3) := by decide +kernel
theorem d_34_7 : decode (codeOf 34) 7 = .ok (.iload_n 0, 1) := by decide +kernel
theorem d_34_8 : decode (codeOf 34) 8 = .ok (.sipush 20000, 3) := by decide +kernel
theorem d_34_11 : decode (codeOf 34) 11 = .ok (.if_icmp .ge 7, 3) := by decide +kernel
theorem d_34_14 : decode (codeOf 34) 14 = .ok (.iconst 1, 1) := by decide +kernel
theorem d_34_15 : decode (codeOf 34) 15 = .ok (.goto 4, 3) := by decide +kernel
theorem d_34_18 : decode (codeOf 34) 18 = .ok (.iconst 0, 1) := by decide +kernel
theorem d_34_19 : decode (codeOf 34) 19 = .ok (.ireturn, 1) := by decide +kernel
theorem d_35_0 : decode (codeOf 35) 0 = .ok (.aload_n 0, 1) := by decide +kernel
theorem d_35_1 : decode (codeOf 35) 1 = .ok (.getfield 14, 3) := by decide +kernel
theorem d_35_4 : decode (codeOf 35) 4 = .ok (.aload_n 0, 1) := by decide +kernel
theorem d_35_5 : decode (codeOf 35) 5 = .ok (.getfield 72, 3) := by decide +kernel
theorem d_35_8 : decode (codeOf 35) 8 = .ok (.aload_n 0, 1) := by decide +kernel
theorem d_35_9 : decode (codeOf 35) 9 = .ok (.getfield 75, 3) := by decide +kernel
theorem d_35_12 : decode (codeOf 35) 12 = .ok (.iconst 0, 1) := by decide +kernel
theorem d_35_13 : decode (codeOf 35) 13 = .ok (.invokevirtual 86, 3) := by decide +kernel
theorem d_35_16 : decode (codeOf 35) 16 = .ok (.istore_n 1, 1) := by decide +kernel
theorem d_35_17 : decode (codeOf 35) 17 = .ok (.aload_n 0, 1) := by decide +kernel
theorem d_35_18 : decode (codeOf 35) 18 = .ok (.getfield 14, 3) := by decide +kernel
theorem d_35_21 : decode (codeOf 35) 21 = .ok (.aload_n 0, 1) := by decide +kernel
theorem d_35_22 : decode (codeOf 35) 22 = .ok (.getfield 72, 3) := by decide +kernel
theorem d_35_25 : decode (codeOf 35) 25 = .ok (.aload_n 0, 1) := by decide +kernel
theorem d_35_26 : decode (codeOf 35) 26 = .ok (.getfield 75, 3) := by decide +kernel
theorem d_35_29 : decode (codeOf 35) 29 = .ok (.iconst 1, 1) := by decide +kernel
theorem d_35_30 : decode (codeOf 35) 30 = .ok (.invokevirtual 86, 3) := by decide +kernel
theorem d_35_33 : decode (codeOf 35) 33 = .ok (.istore_n 2, 1) := by decide +kernel
theorem d_35_34 : decode (codeOf 35) 34 = .ok (.aload_n 0, 1) := by decide +kernel
theorem d_35_35 : decode (codeOf 35) 35 = .ok (.getfield 14, 3) := by decide +kernel
theorem d_35_38 : decode (codeOf 35) 38 = .ok (.aload_n 0, 1) := by decide +kernel
theorem d_35_39 : decode (codeOf 35) 39 = .ok (.getfield 72, 3) := by decide +kernel
theorem d_35_42 : decode (codeOf 35) 42 = .ok (.aload_n 0, 1) := by decide +kernel
theorem d_35_43 : decode (codeOf 35) 43 = .ok (.getfield 75, 3) := by decide +kernel
theorem d_35_46 : decode (codeOf 35) 46 = .ok (.iconst 2, 1) := by decide +kernel
theorem d_35_47 : decode (codeOf 35) 47 = .ok (.invokevirtual 86, 3) := by decide +kernel
theorem d_35_50 : decode (codeOf 35) 50 = .ok (.istore_n 3, 1) := by decide +kernel
theorem d_35_51 : decode (codeOf 35) 51 = .ok (.aload_n 0, 1) := by decide +kernel
theorem d_35_52 : decode (codeOf 35) 52 = .ok (.getfield 14, 3) := by decide +kernel
theorem d_35_55 : decode (codeOf 35) 55 = .ok (.aload_n 0, 1) := by decide +kernel
theorem d_35_56 : decode (codeOf 35) 56 = .ok (.getfield 72, 3) := by decide +kernel
theorem d_35_59 : decode (codeOf 35) 59 = .ok (.aload_n 0, 1) := by decide +kernel
theorem d_35_60 : decode (codeOf 35) 60 = .ok (.getfield 75, 3) := by decide +kernel
theorem d_35_63 : decode (codeOf 35) 63 = .ok (.iconst 3, 1) := by decide +kernel
theorem d_35_64 : decode (codeOf 35) 64 = .ok (.invokevirtual 86, 3) := by decide +kernel
theorem d_35_67 : decode (codeOf 35) 67 = .ok (.istore 4, 2) := by decide +kernel
theorem d_35_69 : decode (codeOf 35) 69 = .ok (.iload_n 1, 1) := by decide +kernel
theorem d_35_70 : decode (codeOf 35) 70 = .ok (.tableswitch 138 0 8 #[50, 61, 68, 75, 82, 91, 100, 121, 127], 50) := by decide +kernel
theorem d_35_120 : decode (codeOf 35) 120 = .ok (.aload_n 0, 1) := by decide +kernel
theorem d_35_121 : decode (codeOf 35) 121 = .ok (.iload_n 2, 1) := by decide +kernel
theorem d_35_122 : decode (codeOf 35) 122 = .ok (.aload_n 0, 1) := by decide +kernel
theorem d_35_123 : decode (codeOf 35) 123 = .ok (.iload_n 3, 1) := by decide +kernel
theorem d_35_124 : decode (codeOf 35) 124 = .ok (.invokevirtual 90, 3) := by decide +kernel
theorem d_35_127 : decode (codeOf 35) 127 = .ok (.invokevirtual 93, 3) := by decide +kernel
theorem d_35_130 : decode (codeOf 35) 130 = .ok (.ireturn, 1) := by decide +kernel
theorem d_35_131 : decode (codeOf 35) 131 = .ok (.aload_n 0, 1) := by decide +kernel
theorem d_35_132 : decode (codeOf 35) 132 = .ok (.iload_n 2, 1) := by decide +kernel
theorem d_35_133 : decode (codeOf 35) 133 = .ok (.iload_n 3, 1) := by decide +kernel
theorem d_35_134 : decode (codeOf 35) 134 = .ok (.invokevirtual 93, 3) := by decide +kernel
theorem d_35_137 : decode (codeOf 35) 137 = .ok (.ireturn, 1) := by decide +kernel
theorem d_35_138 : decode (codeOf 35) 138 = .ok (.aload_n 0, 1) := by decide +kernel
theorem d_35_139 : decode (codeOf 35) 139 = .ok (.iload_n 2, 1) := by decide +kernel
theorem d_35_140 : decode (codeOf 35) 140 = .ok (.iload_n 3, 1) := by decide +kernel
theorem d_35_141 : decode (codeOf 35) 141 = .ok (.invokevirtual 96, 3) := by decide +kernel
theorem d_35_144 : decode (codeOf 35) 144 = .ok (.ireturn, 1) := by decide +kernel
theorem d_35_145 : decode (codeOf 35) 145 = .ok (.aload_n 0, 1) := by decide +kernel
theorem d_35_146 : decode (codeOf 35) 146 = .ok (.iload_n 2, 1) := by decide +kernel
theorem d_35_147 : decode (codeOf 35) 147 = .ok (.iload_n 3, 1) := by decide +kernel
theorem d_35_148 : decode (codeOf 35) 148 = .ok (.invokevirtual 99, 3) := by decide +kernel
theorem d_35_151 : decode (codeOf 35) 151 = .ok (.ireturn, 1) := by decide +kernel
theorem d_35_152 : decode (codeOf 35) 152 = .ok (.aload_n 0, 1) := by decide +kernel
theorem d_35_153 : decode (codeOf 35) 153 = .ok (.iload_n 2, 1) := by decide +kernel
theorem d_35_154 : decode (codeOf 35) 154 = .ok (.iload_n 3, 1) := by decide +kernel
theorem d_35_155 : decode (codeOf 35) 155 = .ok (.iload 4, 2) := by decide +kernel
theorem d_35_157 : decode (codeOf 35) 157 = .ok (.invokevirtual 102, 3) := by decide +kernel
theorem d_35_160 : decode (codeOf 35) 160 = .ok (.ireturn, 1) := by decide +kernel
theorem d_35_161 : decode (codeOf 35) 161 = .ok (.aload_n 0, 1) := by decide +kernel
theorem d_35_162 : decode (codeOf 35) 162 = .ok (.iload_n 2, 1) := by decide +kernel
theorem d_35_163 : decode (codeOf 35) 163 = .ok (.iload_n 3, 1) := by decide +kernel
theorem d_35_164 : decode (codeOf 35) 164 = .ok (.iload 4, 2) := by decide +kernel
theorem d_35_166 : decode (codeOf 35) 166 = .ok (.invokevirtual 105, 3) := by decide +kernel
theorem d_35_169 : decode (codeOf 35) 169 = .ok (.ireturn, 1) := by decide +kernel
theorem d_35_170 : decode (codeOf 35) 170 = .ok (.aload_n 0, 1) := by decide +kernel
theorem d_35_171 : decode (codeOf 35) 171 = .ok (.aload_n 0, 1) := by decide +kernel
theorem d_35_172 : decode (codeOf 35) 172 = .ok (.iload_n 2, 1) := by decide +kernel
theorem d_35_173 : decode (codeOf 35) 173 = .ok (.invokevirtual 90, 3) := by decide +kernel
theorem d_35_176 : decode (codeOf 35) 176 = .ok (.invokevirtual 53, 3) := by decide +kernel
theorem d_35_179 : decode (codeOf 35) 179 = .ok (.ifCond .eq 10, 3) := by decide +kernel
theorem d_35_182 : decode (codeOf 35) 182 = .ok (.aload_n 0, 1) := by decide +kernel
theorem d_35_183 : decode (codeOf 35) 183 = .ok (.invokevirtual 108, 3) := by decide +kernel
theorem d_35_186 : decode (codeOf 35) 186 = .ok (.goto 4, 3) := by decide +kernel
theorem d_35_189 : decode (codeOf 35) 189 = .ok (.iconst 3, 1) := by decide +kernel
theorem d_35_190 : decode (codeOf 35) 190 = .ok (.ireturn, 1) := by decide +kernel
theorem d_35_191 : decode (codeOf 35) 191 = .ok (.aload_n 0, 1) := by decide +kernel
theorem d_35_192 : decode (codeOf 35) 192 = .ok (.iload_n 2, 1) := by decide +kernel
theorem d_35_193 : decode (codeOf 35) 193 = .ok (.invokevirtual 111, 3) := by decide +kernel
theorem d_35_196 : decode (codeOf 35) 196 = .ok (.ireturn, 1) := by decide +kernel
theorem d_35_197 : decode (codeOf 35) 197 = .ok (.aload_n 0, 1) := by decide +kernel
theorem d_35_198 : decode (codeOf 35) 198 = .ok (.iload_n 2, 1) := by decide +kernel
theorem d_35_199 : decode (codeOf 35) 199 = .ok (.sipush 10000, 3) := by decide +kernel
theorem d_35_202 : decode (codeOf 35) 202 = .ok (.iload_n 3, 1) := by decide +kernel
theorem d_35_203 : decode (codeOf 35) 203 = .ok (.iadd, 1) := by decide +kernel
theorem d_35_204 : decode (codeOf 35) 204 = .ok (.invokevirtual 93, 3) := by decide +kernel
theorem d_35_207 : decode (codeOf 35) 207 = .ok (.ireturn, 1) := by decide +kernel
theorem d_35_208 : decode (codeOf 35) 208 = .ok (.aload_n 0, 1) := by decide +kernel
theorem d_35_209 : decode (codeOf 35) 209 = .ok (.iload_n 1, 1) := by decide +kernel
theorem d_35_210 : decode (codeOf 35) 210 = .ok (.iload_n 2, 1) := by decide +kernel
theorem d_35_211 : decode (codeOf 35) 211 = .ok (.iload_n 3, 1) := by decide +kernel
theorem d_35_212 : decode (codeOf 35) 212 = .ok (.invokevirtual 114, 3) := by decide +kernel
theorem d_35_215 : decode (codeOf 35) 215 = .ok (.ireturn, 1) := by decide +kernel
theorem d_36_0 : decode (codeOf 36) 0 = .ok (.iload_n 1, 1) := by decide +kernel
theorem d_36_1 : decode (codeOf 36) 1 = .ok (.tableswitch 117 9 12 #[31, 37, 71, 88], 31) := by decide +kernel
theorem d_36_32 : decode (codeOf 36) 32 = .ok (.aload_n 0, 1) := by decide +kernel
theorem d_36_33 : decode (codeOf 36) 33 = .ok (.iload_n 2, 1) := by decide +kernel
theorem d_36_34 : decode (codeOf 36) 34 = .ok (.invokevirtual 117, 3) := by decide +kernel
theorem d_36_37 : decode (codeOf 36) 37 = .ok (.ireturn, 1) := by decide +kernel
theorem d_36_38 : decode (codeOf 36) 38 = .ok (.aload_n 0, 1) := by decide +kernel
theorem d_36_39 : decode (codeOf 36) 39 = .ok (.iload_n 2, 1) := by decide +kernel
theorem d_36_40 : decode (codeOf 36) 40 = .ok (.invokevirtual 90, 3) := by decide +kernel
theorem d_36_43 : decode (codeOf 36) 43 = .ok (.invokestatic 120, 3) := by decide +kernel
theorem d_36_46 : decode (codeOf 36) 46 = .ok (.ifCond .ne 5, 3) := by decide +kernel
theorem d_36_49 : decode (codeOf 36) 49 = .ok (.iconst 2, 1) := by decide +kernel
theorem d_36_50 : decode (codeOf 36) 50 = .ok (.ireturn, 1) := by decide +kernel
theorem d_36_51 : decode (codeOf 36) 51 = .ok (.aload_n 0, 1) := by decide +kernel
theorem d_36_52 : decode (codeOf 36) 52 = .ok (.iload_n 2, 1) := by decide +kernel
theorem d_36_53 : decode (codeOf 36) 53 = .ok (.invokevirtual 90, 3) := by decide +kernel
theorem d_36_56 : decode (codeOf 36) 56 = .ok (.ifCond .eq 11, 3) := by decide +kernel
theorem d_36_59 : decode (codeOf 36) 59 = .ok (.aload_n 0, 1) := by decide +kernel
theorem d_36_60 : decode (codeOf 36) 60 = .ok (.iload_n 3, 1) := by decide +kernel
theorem d_36_61 : decode (codeOf 36) 61 = .ok (.invokevirtual 117, 3) := by decide +kernel
theorem d_36_64 : decode (codeOf 36) 64 = .ok (.goto 7, 3) := by decide +kernel
theorem d_36_67 : decode (codeOf 36) 67 = .ok (.aload_n 0, 1) := by decide +kernel
theorem d_36_68 : decode (codeOf 36) 68 = .ok (.invokevirtual 108, 3) := by decide +kernel
theorem d_36_71 : decode (codeOf 36) 71 = .ok (.ireturn, 1) := by decide +kernel
theorem d_36_72 : decode (codeOf 36) 72 = .ok (.aload_n 0, 1) := by decide +kernel
theorem d_36_73 : decode (codeOf 36) 73 = .ok (.getfield 18, 3) := by decide +kernel
theorem d_36_76 : decode (codeOf 36) 76 = .ok (.iconst 3, 1) := by decide +kernel
theorem d_36_77 : decode (codeOf 36) 77 = .ok (.sipush 10000, 3) := by decide +kernel
theorem d_36_80 : decode (codeOf 36) 80 = .ok (.iload_n 3, 1) := by decide +kernel
theorem d_36_81 : decode (codeOf 36) 81 = .ok (.iadd, 1) := by decide +kernel
theorem d_36_82 : decode (codeOf 36) 82 = .ok (.iastore, 1) := by decide +kernel
theorem d_36_83 : decode (codeOf 36) 83 = .ok (.aload_n 0, 1) := by decide +kernel
theorem d_36_84 : decode (codeOf 36) 84 = .ok (.iload_n 2, 1) := by decide +kernel
theorem d_36_85 : decode (codeOf 36) 85 = .ok (.invokevirtual 117, 3) := by decide +kernel
theorem d_36_88 : decode (codeOf 36) 88 = .ok (.ireturn, 1) := by decide +kernel
theorem d_36_89 : decode (codeOf 36) 89 = .ok (.aload_n 0, 1) := by decide +kernel
theorem d_36_90 : decode (codeOf 36) 90 = .ok (.iload_n 2, 1) := by decide +kernel
theorem d_36_91 : decode (codeOf 36) 91 = .ok (.invokevirtual 90, 3) := by decide +kernel
theorem d_36_94 : decode (codeOf 36) 94 = .ok (.invokestatic 123, 3) := by decide +kernel
theorem d_36_97 : decode (codeOf 36) 97 = .ok (.ifCond .eq 19, 3) := by decide +kernel
theorem d_36_100 : decode (codeOf 36) 100 = .ok (.aload_n 0, 1) := by decide +kernel
theorem d_36_101 : decode (codeOf 36) 101 = .ok (.aload_n 0, 1) := by decide +kernel
theorem d_36_102 : decode (codeOf 36) 102 = .ok (.iload_n 2, 1) := by decide +kernel
theorem d_36_103 : decode (codeOf 36) 103 = .ok (.invokevirtual 90, 3) := by decide +kernel
theorem d_36_106 : decode (codeOf 36) 106 = .ok (.sipush 10000, 3) := by decide +kernel
theorem d_36_109 : decode (codeOf 36) 109 = .ok (.isub, 1) := by decide +kernel
theorem d_36_110 : decode (codeOf 36) 110 = .ok (.invokevirtual 117, 3) := by decide +kernel
theorem d_36_113 : decode (codeOf 36) 113 = .ok (.goto 4, 3) := by decide +kernel
theorem d_36_116 : decode (codeOf 36) 116 = .ok (.iconst 2, 1) := by decide +kernel
theorem d_36_117 : decode (codeOf 36) 117 = .ok (.ireturn, 1) := by decide +kernel
theorem d_36_118 : decode (codeOf 36) 118 = .ok (.aload_n 0, 1) := by decide +kernel
theorem d_36_119 : decode (codeOf 36) 119 = .ok (.iconst 0, 1) := by decide +kernel
theorem d_36_120 : decode (codeOf 36) 120 = .ok (.invokevirtual 90, 3) := by decide +kernel
theorem d_36_123 : decode (codeOf 36) 123 = .ok (.invokestatic 120, 3) := by decide +kernel
theorem d_36_126 : decode (codeOf 36) 126 = .ok (.ifCond .eq 7, 3) := by decide +kernel
theorem d_36_129 : decode (codeOf 36) 129 = .ok (.iconst 1, 1) := by decide +kernel
theorem d_36_130 : decode (codeOf 36) 130 = .ok (.goto 4, 3) := by decide +kernel
theorem d_36_133 : decode (codeOf 36) 133 = .ok (.iconst 2, 1) := by decide +kernel
theorem d_36_134 : decode (codeOf 36) 134 = .ok (.ireturn, 1) := by decide +kernel
theorem d_37_0 : decode (codeOf 37) 0 = .ok (.aload_n 0, 1) := by decide +kernel
theorem d_37_1 : decode (codeOf 37) 1 = .ok (.iload_n 1, 1) := by decide +kernel
theorem d_37_2 : decode (codeOf 37) 2 = .ok (.invokevirtual 57, 3) := by decide +kernel
theorem d_37_5 : decode (codeOf 37) 5 = .ok (.iconst 0, 1) := by decide +kernel
theorem d_37_6 : decode (codeOf 37) 6 = .ok (.ireturn, 1) := by decide +kernel
theorem d_38_0 : decode (codeOf 38) 0 = .ok (.aload_n 0, 1) := by decide +kernel
theorem d_38_1 : decode (codeOf 38) 1 = .ok (.dup, 1) := by decide +kernel
theorem d_38_2 : decode (codeOf 38) 2 = .ok (.getfield 75, 3) := by decide +kernel
theorem d_38_5 : decode (codeOf 38) 5 = .ok (.iconst 1, 1) := by decide +kernel
theorem d_38_6 : decode (codeOf 38) 6 = .ok (.iadd, 1) := by decide +kernel
theorem d_38_7 : decode (codeOf 38) 7 = .ok (.putfield 75, 3) := by decide +kernel
theorem d_38_10 : decode (codeOf 38) 10 = .ok (.iconst 0, 1) := by decide +kernel
theorem d_38_11 : decode (codeOf 38) 11 = .ok (.ireturn, 1) := by decide +kernel
theorem d_39_0 : decode (codeOf 39) 0 = .ok (.iload_n 1, 1) := by decide +kernel
theorem d_39_1 : decode (codeOf 39) 1 = .ok (.ifCond .lt 15, 3) := by decide +kernel
theorem d_39_4 : decode (codeOf 39) 4 = .ok (.iload_n 1, 1) := by decide +kernel
theorem d_39_5 : decode (codeOf 39) 5 = .ok (.iconst 4, 1) := by decide +kernel
theorem d_39_6 : decode (codeOf 39) 6 = .ok (.if_icmp .ge 10, 3) := by decide +kernel
theorem d_39_9 : decode (codeOf 39) 9 = .ok (.aload_n 0, 1) := by decide +kernel
theorem d_39_10 : decode (codeOf 39) 10 = .ok (.getfield 18, 3) := by decide +kernel
theorem d_39_13 : decode (codeOf 39) 13 = .ok (.iload_n 1, 1) := by decide +kernel
theorem d_39_14 : decode (codeOf 39) 14 = .ok (.iload_n 2, 1) := by decide +kernel
theorem d_39_15 : decode (codeOf 39) 15 = .ok (.iastore, 1) := by decide +kernel
theorem d_39_16 : decode (codeOf 39) 16 = .ok (.aload_n 0, 1) := by decide +kernel
theorem d_39_17 : decode (codeOf 39) 17 = .ok (.invokevirtual 108, 3) := by decide +kernel
theorem d_39_20 : decode (codeOf 39) 20 = .ok (.ireturn, 1) := by decide +kernel
theorem d_40_0 : decode (codeOf 40) 0 = .ok (.aload_n 0, 1) := by decide +kernel
theorem d_40_1 : decode (codeOf 40) 1 = .ok (.iload_n 1, 1) := by decide +kernel
theorem d_40_2 : decode (codeOf 40) 2 = .ok (.invokevirtual 90, 3) := by decide +kernel
theorem d_40_5 : decode (codeOf 40) 5 = .ok (.invokestatic 120, 3) := by decide +kernel
theorem d_40_8 : decode (codeOf 40) 8 = .ok (.ifCond .eq 14, 3) := by decide +kernel
theorem d_40_11 : decode (codeOf 40) 11 = .ok (.aload_n 0, 1) := by decide +kernel
theorem d_40_12 : decode (codeOf 40) 12 = .ok (.iload_n 2, 1) := by decide +kernel
theorem d_40_13 : decode (codeOf 40) 13 = .ok (.invokevirtual 90, 3) := by decide +kernel
theorem d_40_16 : decode (codeOf 40) 16 = .ok (.invokestatic 120, 3) := by decide +kernel
theorem d_40_19 : decode (codeOf 40) 19 = .ok (.ifCond .ne 5, 3) := by decide +kernel
theorem d_40_22 : decode (codeOf 40) 22 = .ok (.iconst 2, 1) := by decide +kernel
theorem d_40_23 : decode (codeOf 40) 23 = .ok (.ireturn, 1) := by decide +kernel
theorem d_40_24 : decode (codeOf 40) 24 = .ok (.aload_n 0, 1) := by decide +kernel
theorem d_40_25 : decode (codeOf 40) 25 = .ok (.iload_n 1, 1) := by decide +kernel
theorem d_40_26 : decode (codeOf 40) 26 = .ok (.aload_n 0, 1) := by decide +kernel
theorem d_40_27 : decode (codeOf 40) 27 = .ok (.iload_n 1, 1) := by decide +kernel
theorem d_40_28 : decode (codeOf 40) 28 = .ok (.invokevirtual 90, 3) := by decide +kernel
theorem d_40_31 : decode (codeOf 40) 31 = .ok (.aload_n 0, 1) := by decide +kernel
theorem d_40_32 : decode (codeOf 40) 32 = .ok (.iload_n 2, 1) := by decide +kernel
theorem d_40_33 : decode (codeOf 40) 33 = .ok (.invokevirtual 90, 3) := by decide +kernel
theorem d_40_36 : decode (codeOf 40) 36 = .ok (.iadd, 1) := by decide +kernel
theorem d_40_37 : decode (codeOf 40) 37 = .ok (.sipush 10000, 3) := by decide +kernel
theorem d_40_40 : decode (codeOf 40) 40 = .ok (.irem, 1) := by decide +kernel
theorem d_40_41 : decode (codeOf 40) 41 = .ok (.invokevirtual 93, 3) := by decide +kernel
theorem d_40_44 : decode (codeOf 40) 44 = .ok (.ireturn, 1) := by decide +kernel
theorem d_41_0 : decode (codeOf 41) 0 = .ok (.aload_n 0, 1) := by decide +kernel
theorem d_41_1 : decode (codeOf 41) 1 = .ok (.getfield 69, 3) := by decide +kernel
theorem d_41_4 : decode (codeOf 41) 4 = .ok (.ifCond .lt 12, 3) := by decide +kernel
theorem d_41_7 : decode (codeOf 41) 7 = .ok (.aload_n 0, 1) := by decide +kernel
theorem d_41_8 : decode (codeOf 41) 8 = .ok (.getfield 69, 3) := by decide +kernel
theorem d_41_11 : decode (codeOf 41) 11 = .ok (.bipush 12, 2) := by decide +kernel
theorem d_41_13 : decode (codeOf 41) 13 = .ok (.if_icmp .lt 5, 3) := by decide +kernel
theorem d_41_16 : decode (codeOf 41) 16 = .ok (.iconst 3, 1) := by decide +kernel
theorem d_41_17 : decode (codeOf 41) 17 = .ok (.ireturn, 1) := by decide +kernel
theorem d_41_18 : decode (codeOf 41) 18 = .ok (.aload_n 0, 1) := by decide +kernel
theorem d_41_19 : decode (codeOf 41) 19 = .ok (.getfield 69, 3) := by decide +kernel
theorem d_41_22 : decode (codeOf 41) 22 = .ok (.istore_n 3, 1) := by decide +kernel
theorem d_41_23 : decode (codeOf 41) 23 = .ok (.aload_n 0, 1) := by decide +kernel
theorem d_41_24 : decode (codeOf 41) 24 = .ok (.getfield 25, 3) := by decide +kernel
theorem d_41_27 : decode (codeOf 41) 27 = .ok (.iload_n 3, 1) := by decide +kernel
theorem d_41_28 : decode (codeOf 41) 28 = .ok (.iload_n 2, 1) := by decide +kernel
theorem d_41_29 : decode (codeOf 41) 29 = .ok (.iastore, 1) := by decide +kernel
theorem d_41_30 : decode (codeOf 41) 30 = .ok (.iconst 0, 1) := by decide +kernel
theorem d_41_31 : decode (codeOf 41) 31 = .ok (.istore 4, 2) := by decide +kernel
theorem d_41_33 : decode (codeOf 41) 33 = .ok (.iload 4, 2) := by decide +kernel
theorem d_41_35 : decode (codeOf 41) 35 = .ok (.iconst 3, 1) := by decide +kernel
theorem d_41_36 : decode (codeOf 41) 36 = .ok (.if_icmp .ge 21, 3) := by decide +kernel
theorem d_41_39 : decode (codeOf 41) 39 = .ok (.aload_n 0, 1) := by decide +kernel
theorem d_41_40 : decode (codeOf 41) 40 = .ok (.getfield 28, 3) := by decide +kernel
theorem d_41_43 : decode (codeOf 41) 43 = .ok (.iload_n 3, 1) := by decide +kernel
theorem d_41_44 : decode (codeOf 41) 44 = .ok (.iconst 3, 1) := by decide +kernel
theorem d_41_45 : decode (codeOf 41) 45 = .ok (.imul, 1) := by decide +kernel
theorem d_41_46 : decode (codeOf 41) 46 = .ok (.iload 4, 2) := by decide +kernel
theorem d_41_48 : decode (codeOf 41) 48 = .ok (.iadd, 1) := by decide +kernel
theorem d_41_49 : decode (codeOf 41) 49 = .ok (.iconst (-1), 1) := by decide +kernel
theorem d_41_50 : decode (codeOf 41) 50 = .ok (.iastore, 1) := by decide +kernel
theorem d_41_51 : decode (codeOf 41) 51 = .ok (.iinc 4 1, 3) := by decide +kernel
theorem d_41_54 : decode (codeOf 41) 54 = .ok (.goto (-21), 3) := by decide +kernel
theorem d_41_57 : decode (codeOf 41) 57 = .ok (.aload_n 0, 1) := by decide +kernel
theorem d_41_58 : decode (codeOf 41) 58 = .ok (.dup, 1) := by decide +kernel
theorem d_41_59 : decode (codeOf 41) 59 = .ok (.getfield 69, 3) := by decide +kernel
theorem d_41_62 : decode (codeOf 41) 62 = .ok (.iconst 1, 1) := by decide +kernel
theorem d_41_63 : decode (codeOf 41) 63 = .ok (.iadd, 1) := by decide +kernel
theorem d_41_64 : decode (codeOf 41) 64 = .ok (.putfield 69, 3) := by decide +kernel
theorem d_41_67 : decode (codeOf 41) 67 = .ok (.aload_n 0, 1) := by decide +kernel
theorem d_41_68 : decode (codeOf 41) 68 = .ok (.iload_n 1, 1) := by decide +kernel
theorem d_41_69 : decode (codeOf 41) 69 = .ok (.sipush 20000, 3) := by decide +kernel
theorem d_41_72 : decode (codeOf 41) 72 = .ok (.iload_n 3, 1) := by decide +kernel
theorem d_41_73 : decode (codeOf 41) 73 = .ok (.iadd, 1) := by decide +kernel
theorem d_41_74 : decode (codeOf 41) 74 = .ok (.invokevirtual 93, 3) := by decide +kernel
theorem d_41_77 : decode (codeOf 41) 77 = .ok (.ireturn, 1) := by decide +kernel
theorem d_42_0 : decode (codeOf 42) 0 = .ok (.iload_n 1, 1) := by decide +kernel
theorem d_42_1 : decode (codeOf 42) 1 = .ok (.sipush 20000, 3) := by decide +kernel
theorem d_42_4 : decode (codeOf 42) 4 = .ok (.isub, 1) := by decide +kernel
theorem d_42_5 : decode (codeOf 42) 5 = .ok (.istore_n 3, 1) := by decide +kernel
theorem d_42_6 : decode (codeOf 42) 6 = .ok (.iload_n 3, 1) := by decide +kernel
theorem d_42_7 : decode (codeOf 42) 7 = .ok (.ifCond .lt 30, 3) := by decide +kernel
theorem d_42_10 : decode (codeOf 42) 10 = .ok (.iload_n 3, 1) := by decide +kernel
theorem d_42_11 : decode (codeOf 42) 11 = .ok (.bipush 12, 2) := by decide +kernel
theorem d_42_13 : decode (codeOf 42) 13 = .ok (.if_icmp .ge 24, 3) := by decide +kernel
theorem d_42_16 : decode (codeOf 42) 16 = .ok (.iload_n 2, 1) := by decide +kernel
theorem d_42_17 : decode (codeOf 42) 17 = .ok (.ifCond .lt 20, 3) := by decide +kernel
theorem d_42_20 : decode (codeOf 42) 20 = .ok (.iload_n 2, 1) := by decide +kernel
theorem d_42_21 : decode (codeOf 42) 21 = .ok (.aload_n 0, 1) := by decide +kernel
theorem d_42_22 : decode (codeOf 42) 22 = .ok (.getfield 14, 3) := by decide +kernel
theorem d_42_25 : decode (codeOf 42) 25 = .ok (.aload_n 0, 1) := by decide +kernel
theorem d_42_26 : decode (codeOf 42) 26 = .ok (.getfield 25, 3) := by decide +kernel
theorem d_42_29 : decode (codeOf 42) 29 = .ok (.iload_n 3, 1) := by decide +kernel
theorem d_42_30 : decode (codeOf 42) 30 = .ok (.iaload, 1) := by decide +kernel
theorem d_42_31 : decode (codeOf 42) 31 = .ok (.invokevirtual 126, 3) := by decide +kernel
theorem d_42_34 : decode (codeOf 42) 34 = .ok (.if_icmp .lt 5, 3) := by decide +kernel
theorem d_42_37 : decode (codeOf 42) 37 = .ok (.iconst (-1), 1) := by decide +kernel
theorem d_42_38 : decode (codeOf 42) 38 = .ok (.ireturn, 1) := by decide +kernel
theorem d_42_39 : decode (codeOf 42) 39 = .ok (.iload_n 3, 1) := by decide +kernel
theorem d_42_40 : decode (codeOf 42) 40 = .ok (.iconst 3, 1) := by decide +kernel
theorem d_42_41 : decode (codeOf 42) 41 = .ok (.imul, 1) := by decide +kernel
theorem d_42_42 : decode (codeOf 42) 42 = .ok (.iload_n 2, 1) := by decide +kernel
theorem d_42_43 : decode (codeOf 42) 43 = .ok (.iadd, 1) := by decide +kernel
theorem d_42_44 : decode (codeOf 42) 44 = .ok (.ireturn, 1) := by decide +kernel
theorem d_43_0 : decode (codeOf 43) 0 = .ok (.aload_n 0, 1) := by decide +kernel
theorem d_43_1 : decode (codeOf 43) 1 = .ok (.aload_n 0, 1) := by decide +kernel
theorem d_43_2 : decode (codeOf 43) 2 = .ok (.iload_n 1, 1) := by decide +kernel
theorem d_43_3 : decode (codeOf 43) 3 = .ok (.invokevirtual 90, 3) := by decide +kernel
theorem d_43_6 : decode (codeOf 43) 6 = .ok (.iload_n 2, 1) := by decide +kernel
theorem d_43_7 : decode (codeOf 43) 7 = .ok (.invokevirtual 128, 3) := by decide +kernel
theorem d_43_10 : decode (codeOf 43) 10 = .ok (.istore 4, 2) := by decide +kernel
theorem d_43_12 : decode (codeOf 43) 12 = .ok (.iload 4, 2) := by decide +kernel
theorem d_43_14 : decode (codeOf 43) 14 = .ok (.ifCond .lt 13, 3) := by decide +kernel
theorem d_43_17 : decode (codeOf 43) 17 = .ok (.iload 4, 2) := by decide +kernel
theorem d_43_19 : decode (codeOf 43) 19 = .ok (.aload_n 0, 1) := by decide +kernel
theorem d_43_20 : decode (codeOf 43) 20 = .ok (.getfield 28, 3) := by decide +kernel
theorem d_43_23 : decode (codeOf 43) 23 = .ok (.arraylength, 1) := by decide +kernel
theorem d_43_24 : decode (codeOf 43) 24 = .ok (.if_icmp .lt 5, 3) := by decide +kernel
theorem d_43_27 : decode (codeOf 43) 27 = .ok (.iconst 2, 1) := by decide +kernel
theorem d_43_28 : decode (codeOf 43) 28 = .ok (.ireturn, 1) := by decide +kernel
theorem d_43_29 : decode (codeOf 43) 29 = .ok (.aload_n 0, 1) := by decide +kernel
theorem d_43_30 : decode (codeOf 43) 30 = .ok (.getfield 28, 3) := by decide +kernel
theorem d_43_33 : decode (codeOf 43) 33 = .ok (.iload 4, 2) := by decide +kernel
theorem d_43_35 : decode (codeOf 43) 35 = .ok (.aload_n 0, 1) := by decide +kernel
theorem d_43_36 : decode (codeOf 43) 36 = .ok (.iload_n 3, 1) := by decide +kernel
theorem d_43_37 : decode (codeOf 43) 37 = .ok (.invokevirtual 90, 3) := by decide +kernel
theorem d_43_40 : decode (codeOf 43) 40 = .ok (.iastore, 1) := by decide +kernel
theorem d_43_41 : decode (codeOf 43) 41 = .ok (.aload_n 0, 1) := by decide +kernel
theorem d_43_42 : decode (codeOf 43) 42 = .ok (.invokevirtual 108, 3) := by decide +kernel
theorem d_43_45 : decode (codeOf 43) 45 = .ok (.ireturn, 1) := by decide +kernel
theorem d_44_0 : decode (codeOf 44) 0 = .ok (.aload_n 0, 1) := by decide +kernel
theorem d_44_1 : decode (codeOf 44) 1 = .ok (.aload_n 0, 1) := by decide +kernel
theorem d_44_2 : decode (codeOf 44) 2 = .ok (.iload_n 2, 1) := by decide +kernel
theorem d_44_3 : decode (codeOf 44) 3 = .ok (.invokevirtual 90, 3) := by decide +kernel
theorem d_44_6 : decode (codeOf 44) 6 = .ok (.iload_n 3, 1) := by decide +kernel
theorem d_44_7 : decode (codeOf 44) 7 = .ok (.invokevirtual 128, 3) := by decide +kernel
theorem d_44_10 : decode (codeOf 44) 10 = .ok (.istore 4, 2) := by decide +kernel
theorem d_44_12 : decode (codeOf 44) 12 = .ok (.iload 4, 2) := by decide +kernel
theorem d_44_14 : decode (codeOf 44) 14 = .ok (.ifCond .lt 24, 3) := by decide +kernel
theorem d_44_17 : decode (codeOf 44) 17 = .ok (.iload 4, 2) := by decide +kernel
theorem d_44_19 : decode (codeOf 44) 19 = .ok (.aload_n 0, 1) := by decide +kernel
theorem d_44_20 : decode (codeOf 44) 20 = .ok (.getfield 28, 3) := by decide +kernel
theorem d_44_23 : decode (codeOf 44) 23 = .ok (.arraylength, 1) := by decide +kernel
theorem d_44_24 : decode (codeOf 44) 24 = .ok (.if_icmp .ge 14, 3) := by decide +kernel
theorem d_44_27 : decode (codeOf 44) 27 = .ok (.aload_n 0, 1) := by decide +kernel
theorem d_44_28 : decode (codeOf 44) 28 = .ok (.getfield 28, 3) := by decide +kernel
theorem d_44_31 : decode (codeOf 44) 31 = .ok (.iload 4, 2) := by decide +kernel
theorem d_44_33 : decode (codeOf 44) 33 = .ok (.iaload, 1) := by decide +kernel
theorem d_44_34 : decode (codeOf 44) 34 = .ok (.iconst (-1), 1) := by decide +kernel
theorem d_44_35 : decode (codeOf 44) 35 = .ok (.if_icmp .ne 5, 3) := by decide +kernel
theorem d_44_38 : decode (codeOf 44) 38 = .ok (.iconst 2, 1) := by decide +kernel
theorem d_44_39 : decode (codeOf 44) 39 = .ok (.ireturn, 1) := by decide +kernel
theorem d_44_40 : decode (codeOf 44) 40 = .ok (.aload_n 0, 1) := by decide +kernel
theorem d_44_41 : decode (codeOf 44) 41 = .ok (.iload_n 1, 1) := by decide +kernel
theorem d_44_42 : decode (codeOf 44) 42 = .ok (.aload_n 0, 1) := by decide +kernel
theorem d_44_43 : decode (codeOf 44) 43 = .ok (.getfield 28, 3) := by decide +kernel
theorem d_44_46 : decode (codeOf 44) 46 = .ok (.iload 4, 2) := by decide +kernel
theorem d_44_48 : decode (codeOf 44) 48 = .ok (.iaload, 1) := by decide +kernel
theorem d_44_49 : decode (codeOf 44) 49 = .ok (.invokevirtual 93, 3) := by decide +kernel
theorem d_44_52 : decode (codeOf 44) 52 = .ok (.ireturn, 1) := by decide +kernel
theorem d_45_0 : decode (codeOf 45) 0 = .ok (.aload_n 0, 1) := by decide +kernel
theorem d_45_1 : decode (codeOf 45) 1 = .ok (.getfield 42, 3) := by decide +kernel
theorem d_45_4 : decode (codeOf 45) 4 = .ok (.ifCond .lt 12, 3) := by decide +kernel
theorem d_45_7 : decode (codeOf 45) 7 = .ok (.aload_n 0, 1) := by decide +kernel
theorem d_45_8 : decode (codeOf 45) 8 = .ok (.getfield 42, 3) := by decide +kernel
theorem d_45_11 : decode (codeOf 45) 11 = .ok (.bipush 16, 2) := by decide +kernel
theorem d_45_13 : decode (codeOf 45) 13 = .ok (.if_icmp .lt 5, 3) := by decide +kernel
theorem d_45_16 : decode (codeOf 45) 16 = .ok (.iconst 0, 1) := by decide +kernel
theorem d_45_17 : decode (codeOf 45) 17 = .ok (.ireturn, 1) := by decide +kernel
theorem d_45_18 : decode (codeOf 45) 18 = .ok (.aload_n 0, 1) := by decide +kernel
theorem d_45_19 : decode (codeOf 45) 19 = .ok (.getfield 22, 3) := by decide +kernel
theorem d_45_22 : decode (codeOf 45) 22 = .ok (.aload_n 0, 1) := by decide +kernel
theorem d_45_23 : decode (codeOf 45) 23 = .ok (.getfield 42, 3) := by decide +kernel
theorem d_45_26 : decode (codeOf 45) 26 = .ok (.iload_n 1, 1) := by decide +kernel
theorem d_45_27 : decode (codeOf 45) 27 = .ok (.iastore, 1) := by decide +kernel
theorem d_45_28 : decode (codeOf 45) 28 = .ok (.aload_n 0, 1) := by decide +kernel
theorem d_45_29 : decode (codeOf 45) 29 = .ok (.dup, 1) := by decide +kernel
theorem d_45_30 : decode (codeOf 45) 30 = .ok (.getfield 42, 3) := by decide +kernel
theorem d_45_33 : decode (codeOf 45) 33 = .ok (.iconst 1, 1) := by decide +kernel
theorem d_45_34 : decode (codeOf 45) 34 = .ok (.iadd, 1) := by decide +kernel
theorem d_45_35 : decode (codeOf 45) 35 = .ok (.putfield 42, 3) := by decide +kernel
theorem d_45_38 : decode (codeOf 45) 38 = .ok (.iconst 1, 1) := by decide +kernel
theorem d_45_39 : decode (codeOf 45) 39 = .ok (.ireturn, 1) := by decide +kernel
theorem d_46_0 : decode (codeOf 46) 0 = .ok (.aload_n 0, 1) := by decide +kernel
theorem d_46_1 : decode (codeOf 46) 1 = .ok (.getfield 42, 3) := by decide +kernel
theorem d_46_4 : decode (codeOf 46) 4 = .ok (.iconst 1, 1) := by decide +kernel
theorem d_46_5 : decode (codeOf 46) 5 = .ok (.isub, 1) := by decide +kernel
theorem d_46_6 : decode (codeOf 46) 6 = .ok (.istore_n 2, 1) := by decide +kernel
theorem d_46_7 : decode (codeOf 46) 7 = .ok (.iload_n 2, 1) := by decide +kernel
theorem d_46_8 : decode (codeOf 46) 8 = .ok (.ifCond .lt 9, 3) := by decide +kernel
theorem d_46_11 : decode (codeOf 46) 11 = .ok (.iload_n 2, 1) := by decide +kernel
theorem d_46_12 : decode (codeOf 46) 12 = .ok (.bipush 16, 2) := by decide +kernel
theorem d_46_14 : decode (codeOf 46) 14 = .ok (.if_icmp .lt 5, 3) := by decide +kernel
theorem d_46_17 : decode (codeOf 46) 17 = .ok (.iconst 2, 1) := by decide +kernel
theorem d_46_18 : decode (codeOf 46) 18 = .ok (.ireturn, 1) := by decide +kernel
theorem d_46_19 : decode (codeOf 46) 19 = .ok (.aload_n 0, 1) := by decide +kernel
theorem d_46_20 : decode (codeOf 46) 20 = .ok (.iload_n 2, 1) := by decide +kernel
theorem d_46_21 : decode (codeOf 46) 21 = .ok (.putfield 42, 3) := by decide +kernel
theorem d_46_24 : decode (codeOf 46) 24 = .ok (.aload_n 0, 1) := by decide +kernel
theorem d_46_25 : decode (codeOf 46) 25 = .ok (.iload_n 1, 1) := by decide +kernel
theorem d_46_26 : decode (codeOf 46) 26 = .ok (.aload_n 0, 1) := by decide +kernel
theorem d_46_27 : decode (codeOf 46) 27 = .ok (.getfield 22, 3) := by decide +kernel
theorem d_46_30 : decode (codeOf 46) 30 = .ok (.iload_n 2, 1) := by decide +kernel
theorem d_46_31 : decode (codeOf 46) 31 = .ok (.iaload, 1) := by decide +kernel
theorem d_46_32 : decode (codeOf 46) 32 = .ok (.invokevirtual 93, 3) := by decide +kernel
theorem d_46_35 : decode (codeOf 46) 35 = .ok (.ireturn, 1) := by decide +kernel
theorem d_47_0 : decode (codeOf 47) 0 = .ok (.aload_n 0, 1) := by decide +kernel
theorem d_47_1 : decode (codeOf 47) 1 = .ok (.invokespecial 5, 3) := by decide +kernel
theorem d_47_4 : decode (codeOf 47) 4 = .ok (.aload_n 0, 1) := by decide +kernel
theorem d_47_5 : decode (codeOf 47) 5 = .ok (.sipush 154, 3) := by decide +kernel
theorem d_47_8 : decode (codeOf 47) 8 = .ok (.newarray .int, 2) := by decide +kernel
theorem d_47_10 : decode (codeOf 47) 10 = .ok (.putfield 11, 3) := by decide +kernel
theorem d_47_13 : decode (codeOf 47) 13 = .ok (.return_, 1) := by decide +kernel
theorem d_48_0 : decode (codeOf 48) 0 = .ok (.iload_n 1, 1) := by decide +kernel
theorem d_48_1 : decode (codeOf 48) 1 = .ok (.ifCond .lt 19, 3) := by decide +kernel
theorem d_48_4 : decode (codeOf 48) 4 = .ok (.iload_n 1, 1) := by decide +kernel
theorem d_48_5 : decode (codeOf 48) 5 = .ok (.sipush 154, 3) := by decide +kernel
theorem d_48_8 : decode (codeOf 48) 8 = .ok (.if_icmp .ge 12, 3) := by decide +kernel
theorem d_48_11 : decode (codeOf 48) 11 = .ok (.aload_n 0, 1) := by decide +kernel
theorem d_48_12 : decode (codeOf 48) 12 = .ok (.getfield 11, 3) := by decide +kernel
theorem d_48_15 : decode (codeOf 48) 15 = .ok (.iload_n 1, 1) := by decide +kernel
theorem d_48_16 : decode (codeOf 48) 16 = .ok (.iaload, 1) := by decide +kernel
theorem d_48_17 : decode (codeOf 48) 17 = .ok (.goto 4, 3) := by decide +kernel
theorem d_48_20 : decode (codeOf 48) 20 = .ok (.iconst 0, 1) := by decide +kernel
theorem d_48_21 : decode (codeOf 48) 21 = .ok (.ireturn, 1) := by decide +kernel
theorem d_49_0 : decode (codeOf 49) 0 = .ok (.iload_n 1, 1) := by decide +kernel
theorem d_49_1 : decode (codeOf 49) 1 = .ok (.ifCond .lt 17, 3) := by decide +kernel
theorem d_49_4 : decode (codeOf 49) 4 = .ok (.iload_n 1, 1) := by decide +kernel
theorem d_49_5 : decode (codeOf 49) 5 = .ok (.sipush 154, 3) := by decide +kernel
theorem d_49_8 : decode (codeOf 49) 8 = .ok (.if_icmp .ge 10, 3) := by decide +kernel
theorem d_49_11 : decode (codeOf 49) 11 = .ok (.aload_n 0, 1) := by decide +kernel
theorem d_49_12 : decode (codeOf 49) 12 = .ok (.getfield 11, 3) := by decide +kernel
theorem d_49_15 : decode (codeOf 49) 15 = .ok (.iload_n 1, 1) := by decide +kernel
theorem d_49_16 : decode (codeOf 49) 16 = .ok (.iload_n 2, 1) := by decide +kernel
theorem d_49_17 : decode (codeOf 49) 17 = .ok (.iastore, 1) := by decide +kernel
theorem d_49_18 : decode (codeOf 49) 18 = .ok (.return_, 1) := by decide +kernel
theorem d_50_0 : decode (codeOf 50) 0 = .ok (.aload_n 1, 1) := by decide +kernel
theorem d_50_1 : decode (codeOf 50) 1 = .ok (.ifnull 24, 3) := by decide +kernel
theorem d_50_4 : decode (codeOf 50) 4 = .ok (.aload_n 1, 1) := by decide +kernel
theorem d_50_5 : decode (codeOf 50) 5 = .ok (.arraylength, 1) := by decide +kernel
theorem d_50_6 : decode (codeOf 50) 6 = .ok (.sipush 154, 3) := by decide +kernel
theorem d_50_9 : decode (codeOf 50) 9 = .ok (.if_icmp .ne 16, 3) := by decide +kernel
theorem d_50_12 : decode (codeOf 50) 12 = .ok (.aload_n 1, 1) := by decide +kernel
theorem d_50_13 : decode (codeOf 50) 13 = .ok (.iconst 0, 1) := by decide +kernel
theorem d_50_14 : decode (codeOf 50) 14 = .ok (.aload_n 0, 1) := by decide +kernel
theorem d_50_15 : decode (codeOf 50) 15 = .ok (.getfield 11, 3) := by decide +kernel
theorem d_50_18 : decode (codeOf 50) 18 = .ok (.iconst 0, 1) := by decide +kernel
theorem d_50_19 : decode (codeOf 50) 19 = .ok (.sipush 154, 3) := by decide +kernel
theorem d_50_22 : decode (codeOf 50) 22 = .ok (.invokestatic 15, 3) := by decide +kernel
theorem d_50_25 : decode (codeOf 50) 25 = .ok (.return_, 1) := by decide +kernel
theorem d_51_0 : decode (codeOf 51) 0 = .ok (.iconst 0, 1) := by decide +kernel
theorem d_51_1 : decode (codeOf 51) 1 = .ok (.istore_n 1, 1) := by decide +kernel
theorem d_51_2 : decode (codeOf 51) 2 = .ok (.iload_n 1, 1) := by decide +kernel
theorem d_51_3 : decode (codeOf 51) 3 = .ok (.sipush 154, 3) := by decide +kernel
theorem d_51_6 : decode (codeOf 51) 6 = .ok (.if_icmp .ge 16, 3) := by decide +kernel
theorem d_51_9 : decode (codeOf 51) 9 = .ok (.aload_n 0, 1) := by decide +kernel
theorem d_51_10 : decode (codeOf 51) 10 = .ok (.getfield 11, 3) := by decide +kernel
theorem d_51_13 : decode (codeOf 51) 13 = .ok (.iload_n 1, 1) := by decide +kernel
