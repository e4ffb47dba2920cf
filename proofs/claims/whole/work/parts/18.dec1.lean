theorem d_51_14 : decode (codeOf 51) 14 = .ok (.iconst 0, 1) := by decide +kernel
theorem d_51_15 : decode (codeOf 51) 15 = .ok (.iastore, 1) := by decide +kernel
theorem d_51_16 : decode (codeOf 51) 16 = .ok (.iinc 1 1, 3) := by decide +kernel
theorem d_51_19 : decode (codeOf 51) 19 = .ok (.goto (-17), 3) := by decide +kernel
theorem d_51_22 : decode (codeOf 51) 22 = .ok (.return_, 1) := by decide +kernel
theorem d_52_0 : decode (codeOf 52) 0 = .ok (.aload_n 0, 1) := by decide +kernel
theorem d_52_1 : decode (codeOf 52) 1 = .ok (.getfield 11, 3) := by decide +kernel
theorem d_52_4 : decode (codeOf 52) 4 = .ok (.iconst 0, 1) := by decide +kernel
theorem d_52_5 : decode (codeOf 52) 5 = .ok (.iaload, 1) := by decide +kernel
theorem d_52_6 : decode (codeOf 52) 6 = .ok (.ireturn, 1) := by decide +kernel
theorem d_53_0 : decode (codeOf 53) 0 = .ok (.aload_n 0, 1) := by decide +kernel
theorem d_53_1 : decode (codeOf 53) 1 = .ok (.getfield 11, 3) := by decide +kernel
theorem d_53_4 : decode (codeOf 53) 4 = .ok (.iconst 1, 1) := by decide +kernel
theorem d_53_5 : decode (codeOf 53) 5 = .ok (.iaload, 1) := by decide +kernel
theorem d_53_6 : decode (codeOf 53) 6 = .ok (.ireturn, 1) := by decide +kernel
theorem d_54_0 : decode (codeOf 54) 0 = .ok (.iconst 1, 1) := by decide +kernel
theorem d_54_1 : decode (codeOf 54) 1 = .ok (.aload_n 0, 1) := by decide +kernel
theorem d_54_2 : decode (codeOf 54) 2 = .ok (.invokevirtual 21, 3) := by decide +kernel
theorem d_54_5 : decode (codeOf 54) 5 = .ok (.ishl, 1) := by decide +kernel
theorem d_54_6 : decode (codeOf 54) 6 = .ok (.iconst 1, 1) := by decide +kernel
theorem d_54_7 : decode (codeOf 54) 7 = .ok (.isub, 1) := by decide +kernel
theorem d_54_8 : decode (codeOf 54) 8 = .ok (.ireturn, 1) := by decide +kernel
theorem d_55_0 : decode (codeOf 55) 0 = .ok (.iload_n 1, 1) := by decide +kernel
theorem d_55_1 : decode (codeOf 55) 1 = .ok (.ifCond .lt 15, 3) := by decide +kernel
theorem d_55_4 : decode (codeOf 55) 4 = .ok (.iload_n 1, 1) := by decide +kernel
theorem d_55_5 : decode (codeOf 55) 5 = .ok (.aload_n 0, 1) := by decide +kernel
theorem d_55_6 : decode (codeOf 55) 6 = .ok (.invokevirtual 25, 3) := by decide +kernel
theorem d_55_9 : decode (codeOf 55) 9 = .ok (.if_icmp .ge 7, 3) := by decide +kernel
theorem d_55_12 : decode (codeOf 55) 12 = .ok (.iconst 1, 1) := by decide +kernel
theorem d_55_13 : decode (codeOf 55) 13 = .ok (.goto 4, 3) := by decide +kernel
theorem d_55_16 : decode (codeOf 55) 16 = .ok (.iconst 0, 1) := by decide +kernel
theorem d_55_17 : decode (codeOf 55) 17 = .ok (.ireturn, 1) := by decide +kernel
theorem d_56_0 : decode (codeOf 56) 0 = .ok (.iload_n 1, 1) := by decide +kernel
theorem d_56_1 : decode (codeOf 56) 1 = .ok (.ifCond .lt 15, 3) := by decide +kernel
theorem d_56_4 : decode (codeOf 56) 4 = .ok (.iload_n 1, 1) := by decide +kernel
theorem d_56_5 : decode (codeOf 56) 5 = .ok (.aload_n 0, 1) := by decide +kernel
theorem d_56_6 : decode (codeOf 56) 6 = .ok (.invokevirtual 21, 3) := by decide +kernel
theorem d_56_9 : decode (codeOf 56) 9 = .ok (.if_icmp .ge 7, 3) := by decide +kernel
theorem d_56_12 : decode (codeOf 56) 12 = .ok (.iconst 1, 1) := by decide +kernel
theorem d_56_13 : decode (codeOf 56) 13 = .ok (.goto 4, 3) := by decide +kernel
theorem d_56_16 : decode (codeOf 56) 16 = .ok (.iconst 0, 1) := by decide +kernel
theorem d_56_17 : decode (codeOf 56) 17 = .ok (.ireturn, 1) := by decide +kernel
theorem d_57_0 : decode (codeOf 57) 0 = .ok (.aload_n 0, 1) := by decide +kernel
theorem d_57_1 : decode (codeOf 57) 1 = .ok (.iload_n 1, 1) := by decide +kernel
theorem d_57_2 : decode (codeOf 57) 2 = .ok (.invokevirtual 28, 3) := by decide +kernel
theorem d_57_5 : decode (codeOf 57) 5 = .ok (.ifCond .eq 20, 3) := by decide +kernel
theorem d_57_8 : decode (codeOf 57) 8 = .ok (.iload_n 2, 1) := by decide +kernel
theorem d_57_9 : decode (codeOf 57) 9 = .ok (.ifCond .lt 16, 3) := by decide +kernel
theorem d_57_12 : decode (codeOf 57) 12 = .ok (.iload_n 2, 1) := by decide +kernel
theorem d_57_13 : decode (codeOf 57) 13 = .ok (.aload_n 0, 1) := by decide +kernel
theorem d_57_14 : decode (codeOf 57) 14 = .ok (.iload_n 1, 1) := by decide +kernel
theorem d_57_15 : decode (codeOf 57) 15 = .ok (.invokevirtual 32, 3) := by decide +kernel
theorem d_57_18 : decode (codeOf 57) 18 = .ok (.if_icmp .ge 7, 3) := by decide +kernel
theorem d_57_21 : decode (codeOf 57) 21 = .ok (.iconst 1, 1) := by decide +kernel
theorem d_57_22 : decode (codeOf 57) 22 = .ok (.goto 4, 3) := by decide +kernel
theorem d_57_25 : decode (codeOf 57) 25 = .ok (.iconst 0, 1) := by decide +kernel
theorem d_57_26 : decode (codeOf 57) 26 = .ok (.ireturn, 1) := by decide +kernel
theorem d_58_0 : decode (codeOf 58) 0 = .ok (.iload_n 1, 1) := by decide +kernel
theorem d_58_1 : decode (codeOf 58) 1 = .ok (.iconst 2, 1) := by decide +kernel
theorem d_58_2 : decode (codeOf 58) 2 = .ok (.if_icmp .ge 13, 3) := by decide +kernel
theorem d_58_5 : decode (codeOf 58) 5 = .ok (.iload_n 1, 1) := by decide +kernel
theorem d_58_6 : decode (codeOf 58) 6 = .ok (.ifCond .lt 7, 3) := by decide +kernel
theorem d_58_9 : decode (codeOf 58) 9 = .ok (.iconst 1, 1) := by decide +kernel
theorem d_58_10 : decode (codeOf 58) 10 = .ok (.goto 4, 3) := by decide +kernel
theorem d_58_13 : decode (codeOf 58) 13 = .ok (.iconst 0, 1) := by decide +kernel
theorem d_58_14 : decode (codeOf 58) 14 = .ok (.ireturn, 1) := by decide +kernel
theorem d_58_15 : decode (codeOf 58) 15 = .ok (.iload_n 1, 1) := by decide +kernel
theorem d_58_16 : decode (codeOf 58) 16 = .ok (.bipush 6, 2) := by decide +kernel
theorem d_58_18 : decode (codeOf 58) 18 = .ok (.if_icmp .ge 13, 3) := by decide +kernel
theorem d_58_21 : decode (codeOf 58) 21 = .ok (.aload_n 0, 1) := by decide +kernel
theorem d_58_22 : decode (codeOf 58) 22 = .ok (.iload_n 1, 1) := by decide +kernel
theorem d_58_23 : decode (codeOf 58) 23 = .ok (.iconst 2, 1) := by decide +kernel
theorem d_58_24 : decode (codeOf 58) 24 = .ok (.isub, 1) := by decide +kernel
theorem d_58_25 : decode (codeOf 58) 25 = .ok (.invokevirtual 36, 3) := by decide +kernel
theorem d_58_28 : decode (codeOf 58) 28 = .ok (.goto 11, 3) := by decide +kernel
theorem d_58_31 : decode (codeOf 58) 31 = .ok (.aload_n 0, 1) := by decide +kernel
theorem d_58_32 : decode (codeOf 58) 32 = .ok (.iload_n 1, 1) := by decide +kernel
theorem d_58_33 : decode (codeOf 58) 33 = .ok (.bipush 6, 2) := by decide +kernel
theorem d_58_35 : decode (codeOf 58) 35 = .ok (.isub, 1) := by decide +kernel
theorem d_58_36 : decode (codeOf 58) 36 = .ok (.invokevirtual 28, 3) := by decide +kernel
theorem d_58_39 : decode (codeOf 58) 39 = .ok (.ireturn, 1) := by decide +kernel
theorem d_59_0 : decode (codeOf 59) 0 = .ok (.aload_n 0, 1) := by decide +kernel
theorem d_59_1 : decode (codeOf 59) 1 = .ok (.iconst 2, 1) := by decide +kernel
theorem d_59_2 : decode (codeOf 59) 2 = .ok (.iload_n 1, 1) := by decide +kernel
theorem d_59_3 : decode (codeOf 59) 3 = .ok (.iconst 4, 1) := by decide +kernel
theorem d_59_4 : decode (codeOf 59) 4 = .ok (.imul, 1) := by decide +kernel
theorem d_59_5 : decode (codeOf 59) 5 = .ok (.iadd, 1) := by decide +kernel
theorem d_59_6 : decode (codeOf 59) 6 = .ok (.invokevirtual 39, 3) := by decide +kernel
theorem d_59_9 : decode (codeOf 59) 9 = .ok (.ireturn, 1) := by decide +kernel
theorem d_60_0 : decode (codeOf 60) 0 = .ok (.aload_n 0, 1) := by decide +kernel
theorem d_60_1 : decode (codeOf 60) 1 = .ok (.iconst 2, 1) := by decide +kernel
theorem d_60_2 : decode (codeOf 60) 2 = .ok (.iload_n 1, 1) := by decide +kernel
theorem d_60_3 : decode (codeOf 60) 3 = .ok (.iconst 4, 1) := by decide +kernel
theorem d_60_4 : decode (codeOf 60) 4 = .ok (.imul, 1) := by decide +kernel
theorem d_60_5 : decode (codeOf 60) 5 = .ok (.iadd, 1) := by decide +kernel
theorem d_60_6 : decode (codeOf 60) 6 = .ok (.iconst 1, 1) := by decide +kernel
theorem d_60_7 : decode (codeOf 60) 7 = .ok (.iadd, 1) := by decide +kernel
theorem d_60_8 : decode (codeOf 60) 8 = .ok (.iload_n 2, 1) := by decide +kernel
theorem d_60_9 : decode (codeOf 60) 9 = .ok (.iadd, 1) := by decide +kernel
theorem d_60_10 : decode (codeOf 60) 10 = .ok (.invokevirtual 39, 3) := by decide +kernel
theorem d_60_13 : decode (codeOf 60) 13 = .ok (.ireturn, 1) := by decide +kernel
theorem d_61_0 : decode (codeOf 61) 0 = .ok (.aload_n 0, 1) := by decide +kernel
theorem d_61_1 : decode (codeOf 61) 1 = .ok (.getfield 11, 3) := by decide +kernel
theorem d_61_4 : decode (codeOf 61) 4 = .ok (.iconst 0, 1) := by decide +kernel
theorem d_61_5 : decode (codeOf 61) 5 = .ok (.dup2, 1) := by decide +kernel
theorem d_61_6 : decode (codeOf 61) 6 = .ok (.iaload, 1) := by decide +kernel
theorem d_61_7 : decode (codeOf 61) 7 = .ok (.iconst 1, 1) := by decide +kernel
theorem d_61_8 : decode (codeOf 61) 8 = .ok (.iadd, 1) := by decide +kernel
theorem d_61_9 : decode (codeOf 61) 9 = .ok (.iastore, 1) := by decide +kernel
theorem d_61_10 : decode (codeOf 61) 10 = .ok (.return_, 1) := by decide +kernel
theorem d_62_0 : decode (codeOf 62) 0 = .ok (.iconst 2, 1) := by decide +kernel
theorem d_62_1 : decode (codeOf 62) 1 = .ok (.iload_n 1, 1) := by decide +kernel
theorem d_62_2 : decode (codeOf 62) 2 = .ok (.iconst 4, 1) := by decide +kernel
theorem d_62_3 : decode (codeOf 62) 3 = .ok (.imul, 1) := by decide +kernel
theorem d_62_4 : decode (codeOf 62) 4 = .ok (.iadd, 1) := by decide +kernel
theorem d_62_5 : decode (codeOf 62) 5 = .ok (.istore_n 3, 1) := by decide +kernel
theorem d_62_6 : decode (codeOf 62) 6 = .ok (.aload_n 0, 1) := by decide +kernel
theorem d_62_7 : decode (codeOf 62) 7 = .ok (.iload_n 3, 1) := by decide +kernel
theorem d_62_8 : decode (codeOf 62) 8 = .ok (.invokevirtual 39, 3) := by decide +kernel
theorem d_62_11 : decode (codeOf 62) 11 = .ok (.istore 4, 2) := by decide +kernel
theorem d_62_13 : decode (codeOf 62) 13 = .ok (.aload_n 0, 1) := by decide +kernel
theorem d_62_14 : decode (codeOf 62) 14 = .ok (.iload_n 3, 1) := by decide +kernel
theorem d_62_15 : decode (codeOf 62) 15 = .ok (.iconst 1, 1) := by decide +kernel
theorem d_62_16 : decode (codeOf 62) 16 = .ok (.iadd, 1) := by decide +kernel
theorem d_62_17 : decode (codeOf 62) 17 = .ok (.iload 4, 2) := by decide +kernel
theorem d_62_19 : decode (codeOf 62) 19 = .ok (.iadd, 1) := by decide +kernel
theorem d_62_20 : decode (codeOf 62) 20 = .ok (.iload_n 2, 1) := by decide +kernel
theorem d_62_21 : decode (codeOf 62) 21 = .ok (.invokevirtual 42, 3) := by decide +kernel
theorem d_62_24 : decode (codeOf 62) 24 = .ok (.aload_n 0, 1) := by decide +kernel
theorem d_62_25 : decode (codeOf 62) 25 = .ok (.iload_n 3, 1) := by decide +kernel
theorem d_62_26 : decode (codeOf 62) 26 = .ok (.iload 4, 2) := by decide +kernel
theorem d_62_28 : decode (codeOf 62) 28 = .ok (.iconst 1, 1) := by decide +kernel
theorem d_62_29 : decode (codeOf 62) 29 = .ok (.iadd, 1) := by decide +kernel
theorem d_62_30 : decode (codeOf 62) 30 = .ok (.invokevirtual 42, 3) := by decide +kernel
theorem d_62_33 : decode (codeOf 62) 33 = .ok (.return_, 1) := by decide +kernel
theorem d_63_0 : decode (codeOf 63) 0 = .ok (.aload_n 0, 1) := by decide +kernel
theorem d_63_1 : decode (codeOf 63) 1 = .ok (.getfield 11, 3) := by decide +kernel
theorem d_63_4 : decode (codeOf 63) 4 = .ok (.iconst 1, 1) := by decide +kernel
theorem d_63_5 : decode (codeOf 63) 5 = .ok (.dup2, 1) := by decide +kernel
theorem d_63_6 : decode (codeOf 63) 6 = .ok (.iaload, 1) := by decide +kernel
theorem d_63_7 : decode (codeOf 63) 7 = .ok (.iconst 1, 1) := by decide +kernel
theorem d_63_8 : decode (codeOf 63) 8 = .ok (.iadd, 1) := by decide +kernel
theorem d_63_9 : decode (codeOf 63) 9 = .ok (.iastore, 1) := by decide +kernel
theorem d_63_10 : decode (codeOf 63) 10 = .ok (.return_, 1) := by decide +kernel
theorem d_64_0 : decode (codeOf 64) 0 = .ok (.bipush 18, 2) := by decide +kernel
theorem d_64_2 : decode (codeOf 64) 2 = .ok (.iload_n 1, 1) := by decide +kernel
theorem d_64_3 : decode (codeOf 64) 3 = .ok (.bipush 34, 2) := by decide +kernel
theorem d_64_5 : decode (codeOf 64) 5 = .ok (.imul, 1) := by decide +kernel
theorem d_64_6 : decode (codeOf 64) 6 = .ok (.iadd, 1) := by decide +kernel
theorem d_64_7 : decode (codeOf 64) 7 = .ok (.iload_n 2, 1) := by decide +kernel
theorem d_64_8 : decode (codeOf 64) 8 = .ok (.iadd, 1) := by decide +kernel
theorem d_64_9 : decode (codeOf 64) 9 = .ok (.istore_n 3, 1) := by decide +kernel
theorem d_64_10 : decode (codeOf 64) 10 = .ok (.iload_n 3, 1) := by decide +kernel
theorem d_64_11 : decode (codeOf 64) 11 = .ok (.ifCond .lt 19, 3) := by decide +kernel
theorem d_64_14 : decode (codeOf 64) 14 = .ok (.iload_n 3, 1) := by decide +kernel
theorem d_64_15 : decode (codeOf 64) 15 = .ok (.sipush 154, 3) := by decide +kernel
theorem d_64_18 : decode (codeOf 64) 18 = .ok (.if_icmp .ge 12, 3) := by decide +kernel
theorem d_64_21 : decode (codeOf 64) 21 = .ok (.aload_n 0, 1) := by decide +kernel
theorem d_64_22 : decode (codeOf 64) 22 = .ok (.getfield 11, 3) := by decide +kernel
theorem d_64_25 : decode (codeOf 64) 25 = .ok (.iload_n 3, 1) := by decide +kernel
theorem d_64_26 : decode (codeOf 64) 26 = .ok (.iaload, 1) := by decide +kernel
theorem d_64_27 : decode (codeOf 64) 27 = .ok (.goto 4, 3) := by decide +kernel
theorem d_64_30 : decode (codeOf 64) 30 = .ok (.iconst 0, 1) := by decide +kernel
theorem d_64_31 : decode (codeOf 64) 31 = .ok (.ireturn, 1) := by decide +kernel
theorem d_65_0 : decode (codeOf 65) 0 = .ok (.aload_n 0, 1) := by decide +kernel
theorem d_65_1 : decode (codeOf 65) 1 = .ok (.bipush 18, 2) := by decide +kernel
theorem d_65_3 : decode (codeOf 65) 3 = .ok (.iload_n 1, 1) := by decide +kernel
theorem d_65_4 : decode (codeOf 65) 4 = .ok (.bipush 34, 2) := by decide +kernel
theorem d_65_6 : decode (codeOf 65) 6 = .ok (.imul, 1) := by decide +kernel
theorem d_65_7 : decode (codeOf 65) 7 = .ok (.iadd, 1) := by decide +kernel
theorem d_65_8 : decode (codeOf 65) 8 = .ok (.iload_n 2, 1) := by decide +kernel
theorem d_65_9 : decode (codeOf 65) 9 = .ok (.iadd, 1) := by decide +kernel
theorem d_65_10 : decode (codeOf 65) 10 = .ok (.iload_n 3, 1) := by decide +kernel
theorem d_65_11 : decode (codeOf 65) 11 = .ok (.invokevirtual 42, 3) := by decide +kernel
theorem d_65_14 : decode (codeOf 65) 14 = .ok (.return_, 1) := by decide +kernel
theorem d_66_0 : decode (codeOf 66) 0 = .ok (.aload_n 0, 1) := by decide +kernel
theorem d_66_1 : decode (codeOf 66) 1 = .ok (.iload_n 1, 1) := by decide +kernel
theorem d_66_2 : decode (codeOf 66) 2 = .ok (.iload_n 2, 1) := by decide +kernel
theorem d_66_3 : decode (codeOf 66) 3 = .ok (.invokevirtual 46, 3) := by decide +kernel
theorem d_66_6 : decode (codeOf 66) 6 = .ok (.ireturn, 1) := by decide +kernel
theorem d_67_0 : decode (codeOf 67) 0 = .ok (.aload_n 0, 1) := by decide +kernel
theorem d_67_1 : decode (codeOf 67) 1 = .ok (.iload_n 1, 1) := by decide +kernel
theorem d_67_2 : decode (codeOf 67) 2 = .ok (.iload_n 2, 1) := by decide +kernel
theorem d_67_3 : decode (codeOf 67) 3 = .ok (.iload_n 3, 1) := by decide +kernel
theorem d_67_4 : decode (codeOf 67) 4 = .ok (.invokevirtual 50, 3) := by decide +kernel
theorem d_67_7 : decode (codeOf 67) 7 = .ok (.return_, 1) := by decide +kernel
theorem d_68_0 : decode (codeOf 68) 0 = .ok (.aload_n 0, 1) := by decide +kernel
theorem d_68_1 : decode (codeOf 68) 1 = .ok (.iload_n 1, 1) := by decide +kernel
theorem d_68_2 : decode (codeOf 68) 2 = .ok (.iconst 4, 1) := by decide +kernel
theorem d_68_3 : decode (codeOf 68) 3 = .ok (.invokevirtual 46, 3) := by decide +kernel
theorem d_68_6 : decode (codeOf 68) 6 = .ok (.ireturn, 1) := by decide +kernel
theorem d_69_0 : decode (codeOf 69) 0 = .ok (.aload_n 0, 1) := by decide +kernel
theorem d_69_1 : decode (codeOf 69) 1 = .ok (.iload_n 1, 1) := by decide +kernel
theorem d_69_2 : decode (codeOf 69) 2 = .ok (.iconst 5, 1) := by decide +kernel
theorem d_69_3 : decode (codeOf 69) 3 = .ok (.iload_n 2, 1) := by decide +kernel
theorem d_69_4 : decode (codeOf 69) 4 = .ok (.iadd, 1) := by decide +kernel
theorem d_69_5 : decode (codeOf 69) 5 = .ok (.invokevirtual 46, 3) := by decide +kernel
theorem d_69_8 : decode (codeOf 69) 8 = .ok (.ireturn, 1) := by decide +kernel
theorem d_70_0 : decode (codeOf 70) 0 = .ok (.aload_n 0, 1) := by decide +kernel
theorem d_70_1 : decode (codeOf 70) 1 = .ok (.iload_n 1, 1) := by decide +kernel
theorem d_70_2 : decode (codeOf 70) 2 = .ok (.invokevirtual 54, 3) := by decide +kernel
theorem d_70_5 : decode (codeOf 70) 5 = .ok (.istore_n 3, 1) := by decide +kernel
theorem d_70_6 : decode (codeOf 70) 6 = .ok (.aload_n 0, 1) := by decide +kernel
theorem d_70_7 : decode (codeOf 70) 7 = .ok (.iload_n 1, 1) := by decide +kernel
theorem d_70_8 : decode (codeOf 70) 8 = .ok (.iconst 5, 1) := by decide +kernel
theorem d_70_9 : decode (codeOf 70) 9 = .ok (.iload_n 3, 1) := by decide +kernel
theorem d_70_10 : decode (codeOf 70) 10 = .ok (.iadd, 1) := by decide +kernel
theorem d_70_11 : decode (codeOf 70) 11 = .ok (.iload_n 2, 1) := by decide +kernel
theorem d_70_12 : decode (codeOf 70) 12 = .ok (.invokevirtual 50, 3) := by decide +kernel
theorem d_70_15 : decode (codeOf 70) 15 = .ok (.aload_n 0, 1) := by decide +kernel
theorem d_70_16 : decode (codeOf 70) 16 = .ok (.iload_n 1, 1) := by decide +kernel
theorem d_70_17 : decode (codeOf 70) 17 = .ok (.iconst 4, 1) := by decide +kernel
theorem d_70_18 : decode (codeOf 70) 18 = .ok (.iload_n 3, 1) := by decide +kernel
theorem d_70_19 : decode (codeOf 70) 19 = .ok (.iconst 1, 1) := by decide +kernel
theorem d_70_20 : decode (codeOf 70) 20 = .ok (.iadd, 1) := by decide +kernel
theorem d_70_21 : decode (codeOf 70) 21 = .ok (.invokevirtual 50, 3) := by decide +kernel
theorem d_70_24 : decode (codeOf 70) 24 = .ok (.return_, 1) := by decide +kernel
theorem d_71_0 : decode (codeOf 71) 0 = .ok (.aload_n 0, 1) := by decide +kernel
theorem d_71_1 : decode (codeOf 71) 1 = .ok (.iload_n 1, 1) := by decide +kernel
theorem d_71_2 : decode (codeOf 71) 2 = .ok (.bipush 8, 2) := by decide +kernel
theorem d_71_4 : decode (codeOf 71) 4 = .ok (.invokevirtual 46, 3) := by decide +kernel
theorem d_71_7 : decode (codeOf 71) 7 = .ok (.ireturn, 1) := by decide +kernel
theorem d_72_0 : decode (codeOf 72) 0 = .ok (.aload_n 0, 1) := by decide +kernel
theorem d_72_1 : decode (codeOf 72) 1 = .ok (.iload_n 1, 1) := by decide +kernel
theorem d_72_2 : decode (codeOf 72) 2 = .ok (.bipush 8, 2) := by decide +kernel
theorem d_72_4 : decode (codeOf 72) 4 = .ok (.iload_n 2, 1) := by decide +kernel
theorem d_72_5 : decode (codeOf 72) 5 = .ok (.invokevirtual 50, 3) := by decide +kernel
theorem d_72_8 : decode (codeOf 72) 8 = .ok (.return_, 1) := by decide +kernel
theorem d_73_0 : decode (codeOf 73) 0 = .ok (.aload_n 0, 1) := by decide +kernel
theorem d_73_1 : decode (codeOf 73) 1 = .ok (.iload_n 1, 1) := by decide +kernel
theorem d_73_2 : decode (codeOf 73) 2 = .ok (.bipush 9, 2) := by decide +kernel
theorem d_73_4 : decode (codeOf 73) 4 = .ok (.invokevirtual 46, 3) := by decide +kernel
theorem d_73_7 : decode (codeOf 73) 7 = .ok (.ireturn, 1) := by decide +kernel
theorem d_74_0 : decode (codeOf 74) 0 = .ok (.aload_n 0, 1) := by decide +kernel
theorem d_74_1 : decode (codeOf 74) 1 = .ok (.iload_n 1, 1) := by decide +kernel
theorem d_74_2 : decode (codeOf 74) 2 = .ok (.bipush 10, 2) := by decide +kernel
theorem d_74_4 : decode (codeOf 74) 4 = .ok (.iload_n 2, 1) := by decide +kernel
theorem d_74_5 : decode (codeOf 74) 5 = .ok (.iconst 4, 1) := by decide +kernel
theorem d_74_6 : decode (codeOf 74) 6 = .ok (.imul, 1) := by decide +kernel
theorem d_74_7 : decode (codeOf 74) 7 = .ok (.iadd, 1) := by decide +kernel
theorem d_74_8 : decode (codeOf 74) 8 = .ok (.iload_n 3, 1) := by decide +kernel
theorem d_74_9 : decode (codeOf 74) 9 = .ok (.iadd, 1) := by decide +kernel
theorem d_74_10 : decode (codeOf 74) 10 = .ok (.invokevirtual 46, 3) := by decide +kernel
theorem d_74_13 : decode (codeOf 74) 13 = .ok (.ireturn, 1) := by decide +kernel
theorem d_75_0 : decode (codeOf 75) 0 = .ok (.bipush 18, 2) := by decide +kernel
theorem d_75_2 : decode (codeOf 75) 2 = .ok (.iload_n 1, 1) := by decide +kernel
theorem d_75_3 : decode (codeOf 75) 3 = .ok (.bipush 34, 2) := by decide +kernel
theorem d_75_5 : decode (codeOf 75) 5 = .ok (.imul, 1) := by decide +kernel
theorem d_75_6 : decode (codeOf 75) 6 = .ok (.iadd, 1) := by decide +kernel
theorem d_75_7 : decode (codeOf 75) 7 = .ok (.bipush 10, 2) := by decide +kernel
theorem d_75_9 : decode (codeOf 75) 9 = .ok (.iadd, 1) := by decide +kernel
theorem d_75_10 : decode (codeOf 75) 10 = .ok (.iload_n 2, 1) := by decide +kernel
theorem d_75_11 : decode (codeOf 75) 11 = .ok (.iconst 4, 1) := by decide +kernel
theorem d_75_12 : decode (codeOf 75) 12 = .ok (.imul, 1) := by decide +kernel
theorem d_75_13 : decode (codeOf 75) 13 = .ok (.iadd, 1) := by decide +kernel
theorem d_75_14 : decode (codeOf 75) 14 = .ok (.istore 7, 2) := by decide +kernel
theorem d_75_16 : decode (codeOf 75) 16 = .ok (.aload_n 0, 1) := by decide +kernel
theorem d_75_17 : decode (codeOf 75) 17 = .ok (.iload 7, 2) := by decide +kernel
theorem d_75_19 : decode (codeOf 75) 19 = .ok (.iload_n 3, 1) := by decide +kernel
theorem d_75_20 : decode (codeOf 75) 20 = .ok (.invokevirtual 42, 3) := by decide +kernel
theorem d_75_23 : decode (codeOf 75) 23 = .ok (.aload_n 0, 1) := by decide +kernel
theorem d_75_24 : decode (codeOf 75) 24 = .ok (.iload 7, 2) := by decide +kernel
theorem d_75_26 : decode (codeOf 75) 26 = .ok (.iconst 1, 1) := by decide +kernel
theorem d_75_27 : decode (codeOf 75) 27 = .ok (.iadd, 1) := by decide +kernel
theorem d_75_28 : decode (codeOf 75) 28 = .ok (.iload 4, 2) := by decide +kernel
theorem d_75_30 : decode (codeOf 75) 30 = .ok (.invokevirtual 42, 3) := by decide +kernel
theorem d_75_33 : decode (codeOf 75) 33 = .ok (.aload_n 0, 1) := by decide +kernel
theorem d_75_34 : decode (codeOf 75) 34 = .ok (.iload 7, 2) := by decide +kernel
theorem d_75_36 : decode (codeOf 75) 36 = .ok (.iconst 2, 1) := by decide +kernel
theorem d_75_37 : decode (codeOf 75) 37 = .ok (.iadd, 1) := by decide +kernel
theorem d_75_38 : decode (codeOf 75) 38 = .ok (.iload 5, 2) := by decide +kernel
theorem d_75_40 : decode (codeOf 75) 40 = .ok (.invokevirtual 42, 3) := by decide +kernel
theorem d_75_43 : decode (codeOf 75) 43 = .ok (.aload_n 0, 1) := by decide +kernel
theorem d_75_44 : decode (codeOf 75) 44 = .ok (.iload 7, 2) := by decide +kernel
theorem d_75_46 : decode (codeOf 75) 46 = .ok (.iconst 3, 1) := by decide +kernel
theorem d_75_47 : decode (codeOf 75) 47 = .ok (.iadd, 1) := by decide +kernel
theorem d_75_48 : decode (codeOf 75) 48 = .ok (.iload 6, 2) := by decide +kernel
theorem d_75_50 : decode (codeOf 75) 50 = .ok (.invokevirtual 42, 3) := by decide +kernel
theorem d_75_53 : decode (codeOf 75) 53 = .ok (.return_, 1) := by decide +kernel
theorem d_76_0 : decode (codeOf 76) 0 = .ok (.aload_n 0, 1) := by decide +kernel
theorem d_76_1 : decode (codeOf 76) 1 = .ok (.iload_n 1, 1) := by decide +kernel
theorem d_76_2 : decode (codeOf 76) 2 = .ok (.invokevirtual 32, 3) := by decide +kernel
theorem d_76_5 : decode (codeOf 76) 5 = .ok (.istore_n 3, 1) := by decide +kernel
theorem d_76_6 : decode (codeOf 76) 6 = .ok (.iload_n 3, 1) := by decide +kernel
theorem d_76_7 : decode (codeOf 76) 7 = .ok (.istore 4, 2) := by decide +kernel
theorem d_76_9 : decode (codeOf 76) 9 = .ok (.iload 4, 2) := by decide +kernel
theorem d_76_11 : decode (codeOf 76) 11 = .ok (.iload_n 2, 1) := by decide +kernel
theorem d_76_12 : decode (codeOf 76) 12 = .ok (.if_icmp .le 56, 3) := by decide +kernel
theorem d_76_15 : decode (codeOf 76) 15 = .ok (.aload_n 0, 1) := by decide +kernel
theorem d_76_16 : decode (codeOf 76) 16 = .ok (.iload_n 1, 1) := by decide +kernel
theorem d_76_17 : decode (codeOf 76) 17 = .ok (.iload 4, 2) := by decide +kernel
theorem d_76_19 : decode (codeOf 76) 19 = .ok (.aload_n 0, 1) := by decide +kernel
theorem d_76_20 : decode (codeOf 76) 20 = .ok (.iload_n 1, 1) := by decide +kernel
theorem d_76_21 : decode (codeOf 76) 21 = .ok (.iload 4, 2) := by decide +kernel
theorem d_76_23 : decode (codeOf 76) 23 = .ok (.iconst 1, 1) := by decide +kernel
theorem d_76_24 : decode (codeOf 76) 24 = .ok (.isub, 1) := by decide +kernel
theorem d_76_25 : decode (codeOf 76) 25 = .ok (.iconst 0, 1) := by decide +kernel
theorem d_76_26 : decode (codeOf 76) 26 = .ok (.invokevirtual 57, 3) := by decide +kernel
theorem d_76_29 : decode (codeOf 76) 29 = .ok (.aload_n 0, 1) := by decide +kernel
theorem d_76_30 : decode (codeOf 76) 30 = .ok (.iload_n 1, 1) := by decide +kernel
theorem d_76_31 : decode (codeOf 76) 31 = .ok (.iload 4, 2) := by decide +kernel
theorem d_76_33 : decode (codeOf 76) 33 = .ok (.iconst 1, 1) := by decide +kernel
theorem d_76_34 : decode (codeOf 76) 34 = .ok (.isub, 1) := by decide +kernel
theorem d_76_35 : decode (codeOf 76) 35 = .ok (.iconst 1, 1) := by decide +kernel
theorem d_76_36 : decode (codeOf 76) 36 = .ok (.invokevirtual 57, 3) := by decide +kernel
theorem d_76_39 : decode (codeOf 76) 39 = .ok (.aload_n 0, 1) := by decide +kernel
theorem d_76_40 : decode (codeOf 76) 40 = .ok (.iload_n 1, 1) := by decide +kernel
theorem d_76_41 : decode (codeOf 76) 41 = .ok (.iload 4, 2) := by decide +kernel
theorem d_76_43 : decode (codeOf 76) 43 = .ok (.iconst 1, 1) := by decide +kernel
theorem d_76_44 : decode (codeOf 76) 44 = .ok (.isub, 1) := by decide +kernel
theorem d_76_45 : decode (codeOf 76) 45 = .ok (.iconst 2, 1) := by decide +kernel
theorem d_76_46 : decode (codeOf 76) 46 = .ok (.invokevirtual 57, 3) := by decide +kernel
theorem d_76_49 : decode (codeOf 76) 49 = .ok (.aload_n 0, 1) := by decide +kernel
theorem d_76_50 : decode (codeOf 76) 50 = .ok (.iload_n 1, 1) := by decide +kernel
theorem d_76_51 : decode (codeOf 76) 51 = .ok (.iload 4, 2) := by decide +kernel
theorem d_76_53 : decode (codeOf 76) 53 = .ok (.iconst 1, 1) := by decide +kernel
theorem d_76_54 : decode (codeOf 76) 54 = .ok (.isub, 1) := by decide +kernel
theorem d_76_55 : decode (codeOf 76) 55 = .ok (.iconst 3, 1) := by decide +kernel
theorem d_76_56 : decode (codeOf 76) 56 = .ok (.invokevirtual 57, 3) := by decide +kernel
theorem d_76_59 : decode (codeOf 76) 59 = .ok (.invokevirtual 61, 3) := by decide +kernel
theorem d_76_62 : decode (codeOf 76) 62 = .ok (.iinc 4 (-1), 3) := by decide +kernel
theorem d_76_65 : decode (codeOf 76) 65 = .ok (.goto (-56), 3) := by decide +kernel
theorem d_76_68 : decode (codeOf 76) 68 = .ok (.aload_n 0, 1) := by decide +kernel
theorem d_76_69 : decode (codeOf 76) 69 = .ok (.iload_n 1, 1) := by decide +kernel
theorem d_76_70 : decode (codeOf 76) 70 = .ok (.bipush 9, 2) := by decide +kernel
theorem d_76_72 : decode (codeOf 76) 72 = .ok (.iload_n 3, 1) := by decide +kernel
theorem d_76_73 : decode (codeOf 76) 73 = .ok (.iconst 1, 1) := by decide +kernel
theorem d_76_74 : decode (codeOf 76) 74 = .ok (.iadd, 1) := by decide +kernel
theorem d_76_75 : decode (codeOf 76) 75 = .ok (.invokevirtual 50, 3) := by decide +kernel
theorem d_76_78 : decode (codeOf 76) 78 = .ok (.return_, 1) := by decide +kernel
theorem d_77_0 : decode (codeOf 77) 0 = .ok (.aload_n 0, 1) := by decide +kernel
theorem d_77_1 : decode (codeOf 77) 1 = .ok (.iload_n 1, 1) := by decide +kernel
theorem d_77_2 : decode (codeOf 77) 2 = .ok (.invokevirtual 32, 3) := by decide +kernel
theorem d_77_5 : decode (codeOf 77) 5 = .ok (.istore_n 3, 1) := by decide +kernel
theorem d_77_6 : decode (codeOf 77) 6 = .ok (.iload_n 2, 1) := by decide +kernel
theorem d_77_7 : decode (codeOf 77) 7 = .ok (.istore 4, 2) := by decide +kernel
theorem d_77_9 : decode (codeOf 77) 9 = .ok (.iload 4, 2) := by decide +kernel
theorem d_77_11 : decode (codeOf 77) 11 = .ok (.iload_n 3, 1) := by decide +kernel
theorem d_77_12 : decode (codeOf 77) 12 = .ok (.iconst 1, 1) := by decide +kernel
theorem d_77_13 : decode (codeOf 77) 13 = .ok (.isub, 1) := by decide +kernel
theorem d_77_14 : decode (codeOf 77) 14 = .ok (.if_icmp .ge 56, 3) := by decide +kernel
theorem d_77_17 : decode (codeOf 77) 17 = .ok (.aload_n 0, 1) := by decide +kernel
theorem d_77_18 : decode (codeOf 77) 18 = .ok (.iload_n 1, 1) := by decide +kernel
theorem d_77_19 : decode (codeOf 77) 19 = .ok (.iload 4, 2) := by decide +kernel
theorem d_77_21 : decode (codeOf 77) 21 = .ok (.aload_n 0, 1) := by decide +kernel
theorem d_77_22 : decode (codeOf 77) 22 = .ok (.iload_n 1, 1) := by decide +kernel
theorem d_77_23 : decode (codeOf 77) 23 = .ok (.iload 4, 2) := by decide +kernel
theorem d_77_25 : decode (codeOf 77) 25 = .ok (.iconst 1, 1) := by decide +kernel
theorem d_77_26 : decode (codeOf 77) 26 = .ok (.iadd, 1) := by decide +kernel
theorem d_77_27 : decode (codeOf 77) 27 = .ok (.iconst 0, 1) := by decide +kernel
theorem d_77_28 : decode (codeOf 77) 28 = .ok (.invokevirtual 57, 3) := by decide +kernel
theorem d_77_31 : decode (codeOf 77) 31 = .ok (.aload_n 0, 1) := by decide +kernel
theorem d_77_32 : decode (codeOf 77) 32 = .ok (.iload_n 1, 1) := by decide +kernel
theorem d_77_33 : decode (codeOf 77) 33 = .ok (.iload 4, 2) := by decide +kernel
theorem d_77_35 : decode (codeOf 77) 35 = .ok (.iconst 1, 1) := by decide +kernel
theorem d_77_36 : decode (codeOf 77) 36 = .ok (.iadd, 1) := by decide +kernel
theorem d_77_37 : decode (codeOf 77) 37 = .ok (.iconst 1, 1) := by decide +kernel
theorem d_77_38 : decode (codeOf 77) 38 = .ok (.invokevirtual 57, 3) := by decide +kernel
theorem d_77_41 : decode (codeOf 77) 41 = .ok (.aload_n 0, 1) := by decide +kernel
theorem d_77_42 : decode (codeOf 77) 42 = .ok (.iload_n 1, 1) := by decide +kernel
theorem d_77_43 : decode (codeOf 77) 43 = .ok (.iload 4, 2) := by decide +kernel
theorem d_77_45 : decode (codeOf 77) 45 = .ok (.iconst 1, 1) := by decide +kernel
theorem d_77_46 : decode (codeOf 77) 46 = .ok (.iadd, 1) := by decide +kernel
theorem d_77_47 : decode (codeOf 77) 47 = .ok (.iconst 2, 1) := by decide +kernel
theorem d_77_48 : decode (codeOf 77) 48 = .ok (.invokevirtual 57, 3) := by decide +kernel
theorem d_77_51 : decode (codeOf 77) 51 = .ok (.aload_n 0, 1) := by decide +kernel
theorem d_77_52 : decode (codeOf 77) 52 = .ok (.iload_n 1, 1) := by decide +kernel
theorem d_77_53 : decode (codeOf 77) 53 = .ok (.iload 4, 2) := by decide +kernel
theorem d_77_55 : decode (codeOf 77) 55 = .ok (.iconst 1, 1) := by decide +kernel
theorem d_77_56 : decode (codeOf 77) 56 = .ok (.iadd, 1) := by decide +kernel
theorem d_77_57 : decode (codeOf 77) 57 = .ok (.iconst 3, 1) := by decide +kernel
theorem d_77_58 : decode (codeOf 77) 58 = .ok (.invokevirtual 57, 3) := by decide +kernel
theorem d_77_61 : decode (codeOf 77) 61 = .ok (.invokevirtual 61, 3) := by decide +kernel
theorem d_77_64 : decode (codeOf 77) 64 = .ok (.iinc 4 1, 3) := by decide +kernel
theorem d_77_67 : decode (codeOf 77) 67 = .ok (.goto (-58), 3) := by decide +kernel
theorem d_77_70 : decode (codeOf 77) 70 = .ok (.aload_n 0, 1) := by decide +kernel
theorem d_77_71 : decode (codeOf 77) 71 = .ok (.iload_n 1, 1) := by decide +kernel
theorem d_77_72 : decode (codeOf 77) 72 = .ok (.bipush 9, 2) := by decide +kernel
theorem d_77_74 : decode (codeOf 77) 74 = .ok (.iload_n 3, 1) := by decide +kernel
theorem d_77_75 : decode (codeOf 77) 75 = .ok (.iconst 1, 1) := by decide +kernel
theorem d_77_76 : decode (codeOf 77) 76 = .ok (.isub, 1) := by decide +kernel
theorem d_77_77 : decode (codeOf 77) 77 = .ok (.invokevirtual 50, 3) := by decide +kernel
theorem d_77_80 : decode (codeOf 77) 80 = .ok (.return_, 1) := by decide +kernel
theorem d_78_0 : decode (codeOf 78) 0 = .ok (.iconst 0, 1) := by decide +kernel
theorem d_78_1 : decode (codeOf 78) 1 = .ok (.istore_n 1, 1) := by decide +kernel
theorem d_78_2 : decode (codeOf 78) 2 = .ok (.iconst 0, 1) := by decide +kernel
theorem d_78_3 : decode (codeOf 78) 3 = .ok (.istore_n 2, 1) := by decide +kernel
theorem d_78_4 : decode (codeOf 78) 4 = .ok (.iload_n 2, 1) := by decide +kernel
theorem d_78_5 : decode (codeOf 78) 5 = .ok (.aload_n 0, 1) := by decide +kernel
theorem d_78_6 : decode (codeOf 78) 6 = .ok (.invokevirtual 21, 3) := by decide +kernel
theorem d_78_9 : decode (codeOf 78) 9 = .ok (.if_icmp .ge 17, 3) := by decide +kernel
theorem d_78_12 : decode (codeOf 78) 12 = .ok (.iload_n 1, 1) := by decide +kernel
theorem d_78_13 : decode (codeOf 78) 13 = .ok (.aload_n 0, 1) := by decide +kernel
theorem d_78_14 : decode (codeOf 78) 14 = .ok (.iload_n 2, 1) := by decide +kernel
theorem d_78_15 : decode (codeOf 78) 15 = .ok (.invokevirtual 32, 3) := by decide +kernel
theorem d_78_18 : decode (codeOf 78) 18 = .ok (.iadd, 1) := by decide +kernel
theorem d_78_19 : decode (codeOf 78) 19 = .ok (.istore_n 1, 1) := by decide +kernel
theorem d_78_20 : decode (codeOf 78) 20 = .ok (.iinc 2 1, 3) := by decide +kernel
theorem d_78_23 : decode (codeOf 78) 23 = .ok (.goto (-19), 3) := by decide +kernel
theorem d_78_26 : decode (codeOf 78) 26 = .ok (.iload_n 1, 1) := by decide +kernel
theorem d_78_27 : decode (codeOf 78) 27 = .ok (.ireturn, 1) := by decide +kernel
theorem d_79_0 : decode (codeOf 79) 0 = .ok (.iload_n 1, 1) := by decide +kernel
theorem d_79_1 : decode (codeOf 79) 1 = .ok (.iload_n 2, 1) := by decide +kernel
theorem d_79_2 : decode (codeOf 79) 2 = .ok (.iload_n 3, 1) := by decide +kernel
theorem d_79_3 : decode (codeOf 79) 3 = .ok (.iload 4, 2) := by decide +kernel
theorem d_79_5 : decode (codeOf 79) 5 = .ok (.aload_n 0, 1) := by decide +kernel
theorem d_79_6 : decode (codeOf 79) 6 = .ok (.invokevirtual 25, 3) := by decide +kernel
theorem d_79_9 : decode (codeOf 79) 9 = .ok (.aload_n 0, 1) := by decide +kernel
theorem d_79_10 : decode (codeOf 79) 10 = .ok (.invokevirtual 21, 3) := by decide +kernel
theorem d_79_13 : decode (codeOf 79) 13 = .ok (.invokestatic 65, 3) := by decide +kernel
theorem d_79_16 : decode (codeOf 79) 16 = .ok (.ireturn, 1) := by decide +kernel
theorem d_80_0 : decode (codeOf 80) 0 = .ok (.iload_n 0, 1) := by decide +kernel
theorem d_80_1 : decode (codeOf 80) 1 = .ok (.ifCond .lt 9, 3) := by decide +kernel
theorem d_80_4 : decode (codeOf 80) 4 = .ok (.iload_n 0, 1) := by decide +kernel
theorem d_80_5 : decode (codeOf 80) 5 = .ok (.bipush 14, 2) := by decide +kernel
theorem d_80_7 : decode (codeOf 80) 7 = .ok (.if_icmp .lt 5, 3) := by decide +kernel
theorem d_80_10 : decode (codeOf 80) 10 = .ok (.iconst 0, 1) := by decide +kernel
theorem d_80_11 : decode (codeOf 80) 11 = .ok (.ireturn, 1) := by decide +kernel
theorem d_80_12 : decode (codeOf 80) 12 = .ok (.iload_n 1, 1) := by decide +kernel
theorem d_80_13 : decode (codeOf 80) 13 = .ok (.ifCond .lt 61, 3) := by decide +kernel
theorem d_80_16 : decode (codeOf 80) 16 = .ok (.iload_n 1, 1) := by decide +kernel
theorem d_80_17 : decode (codeOf 80) 17 = .ok (.iload_n 0, 1) := by decide +kernel
theorem d_80_18 : decode (codeOf 80) 18 = .ok (.iconst 3, 1) := by decide +kernel
theorem d_80_19 : decode (codeOf 80) 19 = .ok (.imul, 1) := by decide +kernel
theorem d_80_20 : decode (codeOf 80) 20 = .ok (.iload 4, 2) := by decide +kernel
theorem d_80_22 : decode (codeOf 80) 22 = .ok (.iload 5, 2) := by decide +kernel
theorem d_80_24 : decode (codeOf 80) 24 = .ok (.invokestatic 69, 3) := by decide +kernel
theorem d_80_27 : decode (codeOf 80) 27 = .ok (.if_icmp .ge 47, 3) := by decide +kernel
theorem d_80_30 : decode (codeOf 80) 30 = .ok (.iload_n 2, 1) := by decide +kernel
theorem d_80_31 : decode (codeOf 80) 31 = .ok (.ifCond .lt 43, 3) := by decide +kernel
theorem d_80_34 : decode (codeOf 80) 34 = .ok (.iload_n 2, 1) := by decide +kernel
theorem d_80_35 : decode (codeOf 80) 35 = .ok (.iload_n 0, 1) := by decide +kernel
theorem d_80_36 : decode (codeOf 80) 36 = .ok (.iconst 3, 1) := by decide +kernel
theorem d_80_37 : decode (codeOf 80) 37 = .ok (.imul, 1) := by decide +kernel
theorem d_80_38 : decode (codeOf 80) 38 = .ok (.iconst 1, 1) := by decide +kernel
theorem d_80_39 : decode (codeOf 80) 39 = .ok (.iadd, 1) := by decide +kernel
theorem d_80_40 : decode (codeOf 80) 40 = .ok (.iload 4, 2) := by decide +kernel
theorem d_80_42 : decode (codeOf 80) 42 = .ok (.iload 5, 2) := by decide +kernel
theorem d_80_44 : decode (codeOf 80) 44 = .ok (.invokestatic 69, 3) := by decide +kernel
theorem d_80_47 : decode (codeOf 80) 47 = .ok (.if_icmp .ge 27, 3) := by decide +kernel
theorem d_80_50 : decode (codeOf 80) 50 = .ok (.iload_n 3, 1) := by decide +kernel
theorem d_80_51 : decode (codeOf 80) 51 = .ok (.ifCond .lt 23, 3) := by decide +kernel
theorem d_80_54 : decode (codeOf 80) 54 = .ok (.iload_n 3, 1) := by decide +kernel
theorem d_80_55 : decode (codeOf 80) 55 = .ok (.iload_n 0, 1) := by decide +kernel
theorem d_80_56 : decode (codeOf 80) 56 = .ok (.iconst 3, 1) := by decide +kernel
theorem d_80_57 : decode (codeOf 80) 57 = .ok (.imul, 1) := by decide +kernel
theorem d_80_58 : decode (codeOf 80) 58 = .ok (.iconst 2, 1) := by decide +kernel
theorem d_80_59 : decode (codeOf 80) 59 = .ok (.iadd, 1) := by decide +kernel
theorem d_80_60 : decode (codeOf 80) 60 = .ok (.iload 4, 2) := by decide +kernel
theorem d_80_62 : decode (codeOf 80) 62 = .ok (.iload 5, 2) := by decide +kernel
theorem d_80_64 : decode (codeOf 80) 64 = .ok (.invokestatic 69, 3) := by decide +kernel
theorem d_80_67 : decode (codeOf 80) 67 = .ok (.if_icmp .ge 7, 3) := by decide +kernel
theorem d_80_70 : decode (codeOf 80) 70 = .ok (.iconst 1, 1) := by decide +kernel
theorem d_80_71 : decode (codeOf 80) 71 = .ok (.goto 4, 3) := by decide +kernel
theorem d_80_74 : decode (codeOf 80) 74 = .ok (.iconst 0, 1) := by decide +kernel
theorem d_80_75 : decode (codeOf 80) 75 = .ok (.ireturn, 1) := by decide +kernel
theorem d_81_0 : decode (codeOf 81) 0 = .ok (.iload_n 0, 1) := by decide +kernel
theorem d_81_1 : decode (codeOf 81) 1 = .ok (.ifCond .lt 11, 3) := by decide +kernel
theorem d_81_4 : decode (codeOf 81) 4 = .ok (.iload_n 0, 1) := by decide +kernel
theorem d_81_5 : decode (codeOf 81) 5 = .ok (.getstatic 72, 3) := by decide +kernel
theorem d_81_8 : decode (codeOf 81) 8 = .ok (.arraylength, 1) := by decide +kernel
theorem d_81_9 : decode (codeOf 81) 9 = .ok (.if_icmp .lt 5, 3) := by decide +kernel
theorem d_81_12 : decode (codeOf 81) 12 = .ok (.iconst 0, 1) := by decide +kernel
theorem d_81_13 : decode (codeOf 81) 13 = .ok (.ireturn, 1) := by decide +kernel
theorem d_81_14 : decode (codeOf 81) 14 = .ok (.getstatic 72, 3) := by decide +kernel
theorem d_81_17 : decode (codeOf 81) 17 = .ok (.iload_n 0, 1) := by decide +kernel
theorem d_81_18 : decode (codeOf 81) 18 = .ok (.iaload, 1) := by decide +kernel
theorem d_81_19 : decode (codeOf 81) 19 = .ok (.tableswitch 44 1 5 #[33, 35, 38, 40, 42], 33) := by decide +kernel
theorem d_81_52 : decode (codeOf 81) 52 = .ok (.iconst 4, 1) := by decide +kernel
theorem d_81_53 : decode (codeOf 81) 53 = .ok (.ireturn, 1) := by decide +kernel
theorem d_81_54 : decode (codeOf 81) 54 = .ok (.bipush 100, 2) := by decide +kernel
theorem d_81_56 : decode (codeOf 81) 56 = .ok (.ireturn, 1) := by decide +kernel
theorem d_81_57 : decode (codeOf 81) 57 = .ok (.iload_n 1, 1) := by decide +kernel
theorem d_81_58 : decode (codeOf 81) 58 = .ok (.ireturn, 1) := by decide +kernel
theorem d_81_59 : decode (codeOf 81) 59 = .ok (.iconst 3, 1) := by decide +kernel
theorem d_81_60 : decode (codeOf 81) 60 = .ok (.ireturn, 1) := by decide +kernel
theorem d_81_61 : decode (codeOf 81) 61 = .ok (.iload_n 2, 1) := by decide +kernel
theorem d_81_62 : decode (codeOf 81) 62 = .ok (.ireturn, 1) := by decide +kernel
theorem d_81_63 : decode (codeOf 81) 63 = .ok (.iconst 1, 1) := by decide +kernel
theorem d_81_64 : decode (codeOf 81) 64 = .ok (.ireturn, 1) := by decide +kernel
theorem d_82_0 : decode (codeOf 82) 0 = .ok (.iload_n 0, 1) := by decide +kernel
theorem d_82_1 : decode (codeOf 82) 1 = .ok (.iconst 3, 1) := by decide +kernel
theorem d_82_2 : decode (codeOf 82) 2 = .ok (.imul, 1) := by decide +kernel
theorem d_82_3 : decode (codeOf 82) 3 = .ok (.iload_n 1, 1) := by decide +kernel
theorem d_82_4 : decode (codeOf 82) 4 = .ok (.iadd, 1) := by decide +kernel
theorem d_82_5 : decode (codeOf 82) 5 = .ok (.iconst 1, 1) := by decide +kernel
theorem d_82_6 : decode (codeOf 82) 6 = .ok (.isub, 1) := by decide +kernel
theorem d_82_7 : decode (codeOf 82) 7 = .ok (.istore_n 2, 1) := by decide +kernel
theorem d_82_8 : decode (codeOf 82) 8 = .ok (.iload_n 2, 1) := by decide +kernel
theorem d_82_9 : decode (codeOf 82) 9 = .ok (.ifCond .lt 24, 3) := by decide +kernel
theorem d_82_12 : decode (codeOf 82) 12 = .ok (.iload_n 2, 1) := by decide +kernel
theorem d_82_13 : decode (codeOf 82) 13 = .ok (.getstatic 72, 3) := by decide +kernel
theorem d_82_16 : decode (codeOf 82) 16 = .ok (.arraylength, 1) := by decide +kernel
theorem d_82_17 : decode (codeOf 82) 17 = .ok (.if_icmp .ge 16, 3) := by decide +kernel
theorem d_82_20 : decode (codeOf 82) 20 = .ok (.getstatic 72, 3) := by decide +kernel
theorem d_82_23 : decode (codeOf 82) 23 = .ok (.iload_n 2, 1) := by decide +kernel
theorem d_82_24 : decode (codeOf 82) 24 = .ok (.iaload, 1) := by decide +kernel
theorem d_82_25 : decode (codeOf 82) 25 = .ok (.iconst 5, 1) := by decide +kernel
theorem d_82_26 : decode (codeOf 82) 26 = .ok (.if_icmp .ne 7, 3) := by decide +kernel
theorem d_82_29 : decode (codeOf 82) 29 = .ok (.iconst 1, 1) := by decide +kernel
theorem d_82_30 : decode (codeOf 82) 30 = .ok (.goto 4, 3) := by decide +kernel
theorem d_82_33 : decode (codeOf 82) 33 = .ok (.iconst 0, 1) := by decide +kernel
theorem d_82_34 : decode (codeOf 82) 34 = .ok (.ireturn, 1) := by decide +kernel
theorem d_83_0 : decode (codeOf 83) 0 = .ok (.iconst 0, 1) := by decide +kernel
theorem d_83_1 : decode (codeOf 83) 1 = .ok (.istore_n 2, 1) := by decide +kernel
theorem d_83_2 : decode (codeOf 83) 2 = .ok (.iconst 0, 1) := by decide +kernel
theorem d_83_3 : decode (codeOf 83) 3 = .ok (.istore_n 3, 1) := by decide +kernel
theorem d_83_4 : decode (codeOf 83) 4 = .ok (.iload_n 3, 1) := by decide +kernel
theorem d_83_5 : decode (codeOf 83) 5 = .ok (.aload_n 0, 1) := by decide +kernel
theorem d_83_6 : decode (codeOf 83) 6 = .ok (.iload_n 1, 1) := by decide +kernel
theorem d_83_7 : decode (codeOf 83) 7 = .ok (.invokevirtual 32, 3) := by decide +kernel
theorem d_83_10 : decode (codeOf 83) 10 = .ok (.if_icmp .ge 52, 3) := by decide +kernel
theorem d_83_13 : decode (codeOf 83) 13 = .ok (.iconst 1, 1) := by decide +kernel
theorem d_83_14 : decode (codeOf 83) 14 = .ok (.istore 4, 2) := by decide +kernel
theorem d_83_16 : decode (codeOf 83) 16 = .ok (.iload 4, 2) := by decide +kernel
theorem d_83_18 : decode (codeOf 83) 18 = .ok (.iconst 4, 1) := by decide +kernel
theorem d_83_19 : decode (codeOf 83) 19 = .ok (.if_icmp .ge 37, 3) := by decide +kernel
theorem d_83_22 : decode (codeOf 83) 22 = .ok (.aload_n 0, 1) := by decide +kernel
theorem d_83_23 : decode (codeOf 83) 23 = .ok (.iload_n 1, 1) := by decide +kernel
theorem d_83_24 : decode (codeOf 83) 24 = .ok (.iload_n 3, 1) := by decide +kernel
theorem d_83_25 : decode (codeOf 83) 25 = .ok (.iconst 0, 1) := by decide +kernel
theorem d_83_26 : decode (codeOf 83) 26 = .ok (.invokevirtual 57, 3) := by decide +kernel
theorem d_83_29 : decode (codeOf 83) 29 = .ok (.iload 4, 2) := by decide +kernel
theorem d_83_31 : decode (codeOf 83) 31 = .ok (.invokestatic 75, 3) := by decide +kernel
theorem d_83_34 : decode (codeOf 83) 34 = .ok (.ifCond .eq 16, 3) := by decide +kernel
theorem d_83_37 : decode (codeOf 83) 37 = .ok (.iload_n 2, 1) := by decide +kernel
theorem d_83_38 : decode (codeOf 83) 38 = .ok (.iconst 1, 1) := by decide +kernel
theorem d_83_39 : decode (codeOf 83) 39 = .ok (.aload_n 0, 1) := by decide +kernel
theorem d_83_40 : decode (codeOf 83) 40 = .ok (.iload_n 1, 1) := by decide +kernel
theorem d_83_41 : decode (codeOf 83) 41 = .ok (.iload_n 3, 1) := by decide +kernel
theorem d_83_42 : decode (codeOf 83) 42 = .ok (.iload 4, 2) := by decide +kernel
theorem d_83_44 : decode (codeOf 83) 44 = .ok (.invokevirtual 57, 3) := by decide +kernel
theorem d_83_47 : decode (codeOf 83) 47 = .ok (.ishl, 1) := by decide +kernel
theorem d_83_48 : decode (codeOf 83) 48 = .ok (.ior, 1) := by decide +kernel
theorem d_83_49 : decode (codeOf 83) 49 = .ok (.istore_n 2, 1) := by decide +kernel
theorem d_83_50 : decode (codeOf 83) 50 = .ok (.iinc 4 1, 3) := by decide +kernel
theorem d_83_53 : decode (codeOf 83) 53 = .ok (.goto (-37), 3) := by decide +kernel
theorem d_83_56 : decode (codeOf 83) 56 = .ok (.iinc 3 1, 3) := by decide +kernel
theorem d_83_59 : decode (codeOf 83) 59 = .ok (.goto (-55), 3) := by decide +kernel
theorem d_83_62 : decode (codeOf 83) 62 = .ok (.iload_n 2, 1) := by decide +kernel
theorem d_83_63 : decode (codeOf 83) 63 = .ok (.ireturn, 1) := by decide +kernel
theorem d_84_0 : decode (codeOf 84) 0 = .ok (.iconst 0, 1) := by decide +kernel
theorem d_84_1 : decode (codeOf 84) 1 = .ok (.istore_n 2, 1) := by decide +kernel
theorem d_84_2 : decode (codeOf 84) 2 = .ok (.iconst 0, 1) := by decide +kernel
theorem d_84_3 : decode (codeOf 84) 3 = .ok (.istore_n 3, 1) := by decide +kernel
theorem d_84_4 : decode (codeOf 84) 4 = .ok (.iload_n 3, 1) := by decide +kernel
theorem d_84_5 : decode (codeOf 84) 5 = .ok (.iconst 4, 1) := by decide +kernel
theorem d_84_6 : decode (codeOf 84) 6 = .ok (.if_icmp .ge 21, 3) := by decide +kernel
theorem d_84_9 : decode (codeOf 84) 9 = .ok (.iload_n 2, 1) := by decide +kernel
theorem d_84_10 : decode (codeOf 84) 10 = .ok (.aload_n 0, 1) := by decide +kernel
theorem d_84_11 : decode (codeOf 84) 11 = .ok (.iload_n 1, 1) := by decide +kernel
theorem d_84_12 : decode (codeOf 84) 12 = .ok (.iload_n 3, 1) := by decide +kernel
theorem d_84_13 : decode (codeOf 84) 13 = .ok (.invokevirtual 79, 3) := by decide +kernel
theorem d_84_16 : decode (codeOf 84) 16 = .ok (.invokestatic 82, 3) := by decide +kernel
theorem d_84_19 : decode (codeOf 84) 19 = .ok (.ior, 1) := by decide +kernel
theorem d_84_20 : decode (codeOf 84) 20 = .ok (.istore_n 2, 1) := by decide +kernel
theorem d_84_21 : decode (codeOf 84) 21 = .ok (.iinc 3 1, 3) := by decide +kernel
theorem d_84_24 : decode (codeOf 84) 24 = .ok (.goto (-20), 3) := by decide +kernel
theorem d_84_27 : decode (codeOf 84) 27 = .ok (.iconst 0, 1) := by decide +kernel
theorem d_84_28 : decode (codeOf 84) 28 = .ok (.istore_n 3, 1) := by decide +kernel
theorem d_84_29 : decode (codeOf 84) 29 = .ok (.iload_n 3, 1) := by decide +kernel
theorem d_84_30 : decode (codeOf 84) 30 = .ok (.aload_n 0, 1) := by decide +kernel
theorem d_84_31 : decode (codeOf 84) 31 = .ok (.iload_n 1, 1) := by decide +kernel
theorem d_84_32 : decode (codeOf 84) 32 = .ok (.invokevirtual 54, 3) := by decide +kernel
theorem d_84_35 : decode (codeOf 84) 35 = .ok (.if_icmp .ge 21, 3) := by decide +kernel
theorem d_84_38 : decode (codeOf 84) 38 = .ok (.iload_n 2, 1) := by decide +kernel
theorem d_84_39 : decode (codeOf 84) 39 = .ok (.aload_n 0, 1) := by decide +kernel
theorem d_84_40 : decode (codeOf 84) 40 = .ok (.iload_n 1, 1) := by decide +kernel
theorem d_84_41 : decode (codeOf 84) 41 = .ok (.iload_n 3, 1) := by decide +kernel
theorem d_84_42 : decode (codeOf 84) 42 = .ok (.invokevirtual 85, 3) := by decide +kernel
theorem d_84_45 : decode (codeOf 84) 45 = .ok (.invokestatic 82, 3) := by decide +kernel
theorem d_84_48 : decode (codeOf 84) 48 = .ok (.ior, 1) := by decide +kernel
theorem d_84_49 : decode (codeOf 84) 49 = .ok (.istore_n 2, 1) := by decide +kernel
theorem d_84_50 : decode (codeOf 84) 50 = .ok (.iinc 3 1, 3) := by decide +kernel
theorem d_84_53 : decode (codeOf 84) 53 = .ok (.goto (-24), 3) := by decide +kernel
theorem d_84_56 : decode (codeOf 84) 56 = .ok (.iload_n 2, 1) := by decide +kernel
theorem d_84_57 : decode (codeOf 84) 57 = .ok (.ireturn, 1) := by decide +kernel
theorem d_85_0 : decode (codeOf 85) 0 = .ok (.iload_n 0, 1) := by decide +kernel
theorem d_85_1 : decode (codeOf 85) 1 = .ok (.bipush 6, 2) := by decide +kernel
theorem d_85_3 : decode (codeOf 85) 3 = .ok (.if_icmp .lt 18, 3) := by decide +kernel
theorem d_85_6 : decode (codeOf 85) 6 = .ok (.iload_n 0, 1) := by decide +kernel
theorem d_85_7 : decode (codeOf 85) 7 = .ok (.bipush 10, 2) := by decide +kernel
theorem d_85_9 : decode (codeOf 85) 9 = .ok (.if_icmp .ge 12, 3) := by decide +kernel
theorem d_85_12 : decode (codeOf 85) 12 = .ok (.iconst 1, 1) := by decide +kernel
theorem d_85_13 : decode (codeOf 85) 13 = .ok (.iload_n 0, 1) := by decide +kernel
theorem d_85_14 : decode (codeOf 85) 14 = .ok (.bipush 6, 2) := by decide +kernel
theorem d_85_16 : decode (codeOf 85) 16 = .ok (.isub, 1) := by decide +kernel
theorem d_85_17 : decode (codeOf 85) 17 = .ok (.ishl, 1) := by decide +kernel
theorem d_85_18 : decode (codeOf 85) 18 = .ok (.goto 4, 3) := by decide +kernel
theorem d_85_21 : decode (codeOf 85) 21 = .ok (.iconst 0, 1) := by decide +kernel
theorem d_85_22 : decode (codeOf 85) 22 = .ok (.ireturn, 1) := by decide +kernel
theorem d_86_0 : decode (codeOf 86) 0 = .ok (.aload_n 0, 1) := by decide +kernel
theorem d_86_1 : decode (codeOf 86) 1 = .ok (.invokespecial 1, 3) := by decide +kernel
theorem d_86_4 : decode (codeOf 86) 4 = .ok (.aload_n 0, 1) := by decide +kernel
theorem d_86_5 : decode (codeOf 86) 5 = .ok (.iload_n 1, 1) := by decide +kernel
theorem d_86_6 : decode (codeOf 86) 6 = .ok (.ifCond .le 7, 3) := by decide +kernel
theorem d_86_9 : decode (codeOf 86) 9 = .ok (.iload_n 1, 1) := by decide +kernel
theorem d_86_10 : decode (codeOf 86) 10 = .ok (.goto 4, 3) := by decide +kernel
theorem d_86_13 : decode (codeOf 86) 13 = .ok (.iconst 1, 1) := by decide +kernel
theorem d_86_14 : decode (codeOf 86) 14 = .ok (.sipush 154, 3) := by decide +kernel
theorem d_86_17 : decode (codeOf 86) 17 = .ok (.multianewarray 9 2, 4) := by decide +kernel
theorem d_86_21 : decode (codeOf 86) 21 = .ok (.putfield 11, 3) := by decide +kernel
theorem d_86_24 : decode (codeOf 86) 24 = .ok (.return_, 1) := by decide +kernel
theorem d_87_0 : decode (codeOf 87) 0 = .ok (.aload_n 0, 1) := by decide +kernel
theorem d_87_1 : decode (codeOf 87) 1 = .ok (.iconst 0, 1) := by decide +kernel
theorem d_87_2 : decode (codeOf 87) 2 = .ok (.putfield 16, 3) := by decide +kernel
theorem d_87_5 : decode (codeOf 87) 5 = .ok (.return_, 1) := by decide +kernel
theorem d_88_0 : decode (codeOf 88) 0 = .ok (.aload_n 0, 1) := by decide +kernel
theorem d_88_1 : decode (codeOf 88) 1 = .ok (.getfield 20, 3) := by decide +kernel
theorem d_88_4 : decode (codeOf 88) 4 = .ok (.ifCond .lt 27, 3) := by decide +kernel
theorem d_88_7 : decode (codeOf 88) 7 = .ok (.aload_n 0, 1) := by decide +kernel
theorem d_88_8 : decode (codeOf 88) 8 = .ok (.getfield 20, 3) := by decide +kernel
theorem d_88_11 : decode (codeOf 88) 11 = .ok (.aload_n 0, 1) := by decide +kernel
theorem d_88_12 : decode (codeOf 88) 12 = .ok (.getfield 11, 3) := by decide +kernel
theorem d_88_15 : decode (codeOf 88) 15 = .ok (.arraylength, 1) := by decide +kernel
theorem d_88_16 : decode (codeOf 88) 16 = .ok (.if_icmp .ge 15, 3) := by decide +kernel
theorem d_88_19 : decode (codeOf 88) 19 = .ok (.aload_n 1, 1) := by decide +kernel
theorem d_88_20 : decode (codeOf 88) 20 = .ok (.ifnull 11, 3) := by decide +kernel
theorem d_88_23 : decode (codeOf 88) 23 = .ok (.aload_n 1, 1) := by decide +kernel
theorem d_88_24 : decode (codeOf 88) 24 = .ok (.arraylength, 1) := by decide +kernel
theorem d_88_25 : decode (codeOf 88) 25 = .ok (.sipush 154, 3) := by decide +kernel
theorem d_88_28 : decode (codeOf 88) 28 = .ok (.if_icmp .eq 4, 3) := by decide +kernel
theorem d_88_31 : decode (codeOf 88) 31 = .ok (.return_, 1) := by decide +kernel
theorem d_88_32 : decode (codeOf 88) 32 = .ok (.aload_n 1, 1) := by decide +kernel
theorem d_88_33 : decode (codeOf 88) 33 = .ok (.iconst 0, 1) := by decide +kernel
theorem d_88_34 : decode (codeOf 88) 34 = .ok (.aload_n 0, 1) := by decide +kernel
theorem d_88_35 : decode (codeOf 88) 35 = .ok (.getfield 11, 3) := by decide +kernel
theorem d_88_38 : decode (codeOf 88) 38 = .ok (.aload_n 0, 1) := by decide +kernel
theorem d_88_39 : decode (codeOf 88) 39 = .ok (.getfield 20, 3) := by decide +kernel
theorem d_88_42 : decode (codeOf 88) 42 = .ok (.aaload, 1) := by decide +kernel
theorem d_88_43 : decode (codeOf 88) 43 = .ok (.iconst 0, 1) := by decide +kernel
theorem d_88_44 : decode (codeOf 88) 44 = .ok (.sipush 154, 3) := by decide +kernel
theorem d_88_47 : decode (codeOf 88) 47 = .ok (.invokestatic 23, 3) := by decide +kernel
theorem d_88_50 : decode (codeOf 88) 50 = .ok (.aload_n 0, 1) := by decide +kernel
theorem d_88_51 : decode (codeOf 88) 51 = .ok (.aload_n 0, 1) := by decide +kernel
theorem d_88_52 : decode (codeOf 88) 52 = .ok (.getfield 20, 3) := by decide +kernel
theorem d_88_55 : decode (codeOf 88) 55 = .ok (.iconst 1, 1) := by decide +kernel
theorem d_88_56 : decode (codeOf 88) 56 = .ok (.iadd, 1) := by decide +kernel
theorem d_88_57 : decode (codeOf 88) 57 = .ok (.aload_n 0, 1) := by decide +kernel
theorem d_88_58 : decode (codeOf 88) 58 = .ok (.getfield 11, 3) := by decide +kernel
theorem d_88_61 : decode (codeOf 88) 61 = .ok (.arraylength, 1) := by decide +kernel
theorem d_88_62 : decode (codeOf 88) 62 = .ok (.if_icmp .ge 12, 3) := by decide +kernel
theorem d_88_65 : decode (codeOf 88) 65 = .ok (.aload_n 0, 1) := by decide +kernel
theorem d_88_66 : decode (codeOf 88) 66 = .ok (.getfield 20, 3) := by decide +kernel
theorem d_88_69 : decode (codeOf 88) 69 = .ok (.iconst 1, 1) := by decide +kernel
theorem d_88_70 : decode (codeOf 88) 70 = .ok (.iadd, 1) := by decide +kernel
theorem d_88_71 : decode (codeOf 88) 71 = .ok (.goto 4, 3) := by decide +kernel
theorem d_88_74 : decode (codeOf 88) 74 = .ok (.iconst 0, 1) := by decide +kernel
theorem d_88_75 : decode (codeOf 88) 75 = .ok (.putfield 20, 3) := by decide +kernel
theorem d_88_78 : decode (codeOf 88) 78 = .ok (.aload_n 0, 1) := by decide +kernel
theorem d_88_79 : decode (codeOf 88) 79 = .ok (.getfield 16, 3) := by decide +kernel
theorem d_88_82 : decode (codeOf 88) 82 = .ok (.aload_n 0, 1) := by decide +kernel
theorem d_88_83 : decode (codeOf 88) 83 = .ok (.getfield 11, 3) := by decide +kernel
theorem d_88_86 : decode (codeOf 88) 86 = .ok (.arraylength, 1) := by decide +kernel
theorem d_88_87 : decode (codeOf 88) 87 = .ok (.if_icmp .ge 13, 3) := by decide +kernel
theorem d_88_90 : decode (codeOf 88) 90 = .ok (.aload_n 0, 1) := by decide +kernel
theorem d_88_91 : decode (codeOf 88) 91 = .ok (.dup, 1) := by decide +kernel
theorem d_88_92 : decode (codeOf 88) 92 = .ok (.getfield 16, 3) := by decide +kernel
theorem d_88_95 : decode (codeOf 88) 95 = .ok (.iconst 1, 1) := by decide +kernel
theorem d_88_96 : decode (codeOf 88) 96 = .ok (.iadd, 1) := by decide +kernel
theorem d_88_97 : decode (codeOf 88) 97 = .ok (.putfield 16, 3) := by decide +kernel
theorem d_88_100 : decode (codeOf 88) 100 = .ok (.return_, 1) := by decide +kernel
theorem d_89_0 : decode (codeOf 89) 0 = .ok (.aload_n 0, 1) := by decide +kernel
theorem d_89_1 : decode (codeOf 89) 1 = .ok (.getfield 20, 3) := by decide +kernel
theorem d_89_4 : decode (codeOf 89) 4 = .ok (.ifCond .le 12, 3) := by decide +kernel
theorem d_89_7 : decode (codeOf 89) 7 = .ok (.aload_n 0, 1) := by decide +kernel
theorem d_89_8 : decode (codeOf 89) 8 = .ok (.getfield 20, 3) := by decide +kernel
theorem d_89_11 : decode (codeOf 89) 11 = .ok (.iconst 1, 1) := by decide +kernel
theorem d_89_12 : decode (codeOf 89) 12 = .ok (.isub, 1) := by decide +kernel
theorem d_89_13 : decode (codeOf 89) 13 = .ok (.goto 10, 3) := by decide +kernel
theorem d_89_16 : decode (codeOf 89) 16 = .ok (.aload_n 0, 1) := by decide +kernel
theorem d_89_17 : decode (codeOf 89) 17 = .ok (.getfield 11, 3) := by decide +kernel
theorem d_89_20 : decode (codeOf 89) 20 = .ok (.arraylength, 1) := by decide +kernel
theorem d_89_21 : decode (codeOf 89) 21 = .ok (.iconst 1, 1) := by decide +kernel
theorem d_89_22 : decode (codeOf 89) 22 = .ok (.isub, 1) := by decide +kernel
theorem d_89_23 : decode (codeOf 89) 23 = .ok (.istore_n 2, 1) := by decide +kernel
theorem d_89_24 : decode (codeOf 89) 24 = .ok (.aload_n 0, 1) := by decide +kernel
theorem d_89_25 : decode (codeOf 89) 25 = .ok (.getfield 16, 3) := by decide +kernel
theorem d_89_28 : decode (codeOf 89) 28 = .ok (.ifCond .le 20, 3) := by decide +kernel
theorem d_89_31 : decode (codeOf 89) 31 = .ok (.iload_n 2, 1) := by decide +kernel
theorem d_89_32 : decode (codeOf 89) 32 = .ok (.ifCond .lt 16, 3) := by decide +kernel
theorem d_89_35 : decode (codeOf 89) 35 = .ok (.iload_n 2, 1) := by decide +kernel
theorem d_89_36 : decode (codeOf 89) 36 = .ok (.aload_n 0, 1) := by decide +kernel
theorem d_89_37 : decode (codeOf 89) 37 = .ok (.getfield 11, 3) := by decide +kernel
theorem d_89_40 : decode (codeOf 89) 40 = .ok (.arraylength, 1) := by decide +kernel
theorem d_89_41 : decode (codeOf 89) 41 = .ok (.if_icmp .ge 7, 3) := by decide +kernel
theorem d_89_44 : decode (codeOf 89) 44 = .ok (.aload_n 1, 1) := by decide +kernel
theorem d_89_45 : decode (codeOf 89) 45 = .ok (.ifnonnull 4, 3) := by decide +kernel
theorem d_89_48 : decode (codeOf 89) 48 = .ok (.return_, 1) := by decide +kernel
theorem d_89_49 : decode (codeOf 89) 49 = .ok (.aload_n 1, 1) := by decide +kernel
theorem d_89_50 : decode (codeOf 89) 50 = .ok (.aload_n 0, 1) := by decide +kernel
theorem d_89_51 : decode (codeOf 89) 51 = .ok (.getfield 11, 3) := by decide +kernel
theorem d_89_54 : decode (codeOf 89) 54 = .ok (.iload_n 2, 1) := by decide +kernel
theorem d_89_55 : decode (codeOf 89) 55 = .ok (.aaload, 1) := by decide +kernel
theorem d_89_56 : decode (codeOf 89) 56 = .ok (.invokevirtual 29, 3) := by decide +kernel
theorem d_89_59 : decode (codeOf 89) 59 = .ok (.aload_n 0, 1) := by decide +kernel
theorem d_89_60 : decode (codeOf 89) 60 = .ok (.iload_n 2, 1) := by decide +kernel
theorem d_89_61 : decode (codeOf 89) 61 = .ok (.putfield 20, 3) := by decide +kernel
theorem d_89_64 : decode (codeOf 89) 64 = .ok (.aload_n 0, 1) := by decide +kernel
theorem d_89_65 : decode (codeOf 89) 65 = .ok (.dup, 1) := by decide +kernel
theorem d_89_66 : decode (codeOf 89) 66 = .ok (.getfield 16, 3) := by decide +kernel
theorem d_89_69 : decode (codeOf 89) 69 = .ok (.iconst 1, 1) := by decide +kernel
theorem d_89_70 : decode (codeOf 89) 70 = .ok (.isub, 1) := by decide +kernel
theorem d_89_71 : decode (codeOf 89) 71 = .ok (.putfield 16, 3) := by decide +kernel
theorem d_89_74 : decode (codeOf 89) 74 = .ok (.return_, 1) := by decide +kernel
theorem d_90_0 : decode (codeOf 90) 0 = .ok (.aload_n 0, 1) := by decide +kernel
theorem d_90_1 : decode (codeOf 90) 1 = .ok (.invokespecial 3, 3) := by decide +kernel
theorem d_90_4 : decode (codeOf 90) 4 = .ok (.aload_n 0, 1) := by decide +kernel
theorem d_90_5 : decode (codeOf 90) 5 = .ok (.new 9, 3) := by decide +kernel
theorem d_90_8 : decode (codeOf 90) 8 = .ok (.dup, 1) := by decide +kernel
theorem d_90_9 : decode (codeOf 90) 9 = .ok (.invokespecial 11, 3) := by decide +kernel
theorem d_90_12 : decode (codeOf 90) 12 = .ok (.putfield 12, 3) := by decide +kernel
theorem d_90_15 : decode (codeOf 90) 15 = .ok (.aload_n 0, 1) := by decide +kernel
theorem d_90_16 : decode (codeOf 90) 16 = .ok (.sipush 200, 3) := by decide +kernel
theorem d_90_19 : decode (codeOf 90) 19 = .ok (.newarray .int, 2) := by decide +kernel
theorem d_90_21 : decode (codeOf 90) 21 = .ok (.putfield 18, 3) := by decide +kernel
theorem d_90_24 : decode (codeOf 90) 24 = .ok (.return_, 1) := by decide +kernel
theorem d_91_0 : decode (codeOf 91) 0 = .ok (.aload_n 0, 1) := by decide +kernel
theorem d_91_1 : decode (codeOf 91) 1 = .ok (.getfield 22, 3) := by decide +kernel
theorem d_91_4 : decode (codeOf 91) 4 = .ok (.ifCond .lt 13, 3) := by decide +kernel
theorem d_91_7 : decode (codeOf 91) 7 = .ok (.aload_n 0, 1) := by decide +kernel
theorem d_91_8 : decode (codeOf 91) 8 = .ok (.getfield 22, 3) := by decide +kernel
theorem d_91_11 : decode (codeOf 91) 11 = .ok (.sipush 200, 3) := by decide +kernel
theorem d_91_14 : decode (codeOf 91) 14 = .ok (.if_icmp .lt 5, 3) := by decide +kernel
theorem d_91_17 : decode (codeOf 91) 17 = .ok (.iconst 0, 1) := by decide +kernel
theorem d_91_18 : decode (codeOf 91) 18 = .ok (.ireturn, 1) := by decide +kernel
theorem d_91_19 : decode (codeOf 91) 19 = .ok (.aload_n 0, 1) := by decide +kernel
theorem d_91_20 : decode (codeOf 91) 20 = .ok (.getfield 18, 3) := by decide +kernel
theorem d_91_23 : decode (codeOf 91) 23 = .ok (.aload_n 0, 1) := by decide +kernel
theorem d_91_24 : decode (codeOf 91) 24 = .ok (.getfield 22, 3) := by decide +kernel
theorem d_91_27 : decode (codeOf 91) 27 = .ok (.iload_n 1, 1) := by decide +kernel
theorem d_91_28 : decode (codeOf 91) 28 = .ok (.iastore, 1) := by decide +kernel
theorem d_91_29 : decode (codeOf 91) 29 = .ok (.aload_n 0, 1) := by decide +kernel
theorem d_91_30 : decode (codeOf 91) 30 = .ok (.dup, 1) := by decide +kernel
theorem d_91_31 : decode (codeOf 91) 31 = .ok (.getfield 22, 3) := by decide +kernel
theorem d_91_34 : decode (codeOf 91) 34 = .ok (.iconst 1, 1) := by decide +kernel
theorem d_91_35 : decode (codeOf 91) 35 = .ok (.iadd, 1) := by decide +kernel
theorem d_91_36 : decode (codeOf 91) 36 = .ok (.putfield 22, 3) := by decide +kernel
theorem d_91_39 : decode (codeOf 91) 39 = .ok (.iconst 1, 1) := by decide +kernel
theorem d_91_40 : decode (codeOf 91) 40 = .ok (.ireturn, 1) := by decide +kernel
theorem d_92_0 : decode (codeOf 92) 0 = .ok (.aload_n 0, 1) := by decide +kernel
theorem d_92_1 : decode (codeOf 92) 1 = .ok (.iconst 0, 1) := by decide +kernel
theorem d_92_2 : decode (codeOf 92) 2 = .ok (.putfield 26, 3) := by decide +kernel
theorem d_92_5 : decode (codeOf 92) 5 = .ok (.aload_n 0, 1) := by decide +kernel
theorem d_92_6 : decode (codeOf 92) 6 = .ok (.getfield 12, 3) := by decide +kernel
theorem d_92_9 : decode (codeOf 92) 9 = .ok (.invokevirtual 29, 3) := by decide +kernel
theorem d_92_12 : decode (codeOf 92) 12 = .ok (.iconst 0, 1) := by decide +kernel
theorem d_92_13 : decode (codeOf 92) 13 = .ok (.istore_n 1, 1) := by decide +kernel
theorem d_92_14 : decode (codeOf 92) 14 = .ok (.iload_n 1, 1) := by decide +kernel
theorem d_92_15 : decode (codeOf 92) 15 = .ok (.sipush 200, 3) := by decide +kernel
theorem d_92_18 : decode (codeOf 92) 18 = .ok (.if_icmp .ge 34, 3) := by decide +kernel
theorem d_92_21 : decode (codeOf 92) 21 = .ok (.aload_n 0, 1) := by decide +kernel
theorem d_92_22 : decode (codeOf 92) 22 = .ok (.getfield 26, 3) := by decide +kernel
theorem d_92_25 : decode (codeOf 92) 25 = .ok (.aload_n 0, 1) := by decide +kernel
theorem d_92_26 : decode (codeOf 92) 26 = .ok (.getfield 22, 3) := by decide +kernel
theorem d_92_29 : decode (codeOf 92) 29 = .ok (.if_icmp .ge 23, 3) := by decide +kernel
theorem d_92_32 : decode (codeOf 92) 32 = .ok (.aload_n 0, 1) := by decide +kernel
theorem d_92_33 : decode (codeOf 92) 33 = .ok (.getfield 26, 3) := by decide +kernel
theorem d_92_36 : decode (codeOf 92) 36 = .ok (.istore_n 2, 1) := by decide +kernel
theorem d_92_37 : decode (codeOf 92) 37 = .ok (.aload_n 0, 1) := by decide +kernel
theorem d_92_38 : decode (codeOf 92) 38 = .ok (.invokevirtual 32, 3) := by decide +kernel
theorem d_92_41 : decode (codeOf 92) 41 = .ok (.ifCond .ne 5, 3) := by decide +kernel
theorem d_92_44 : decode (codeOf 92) 44 = .ok (.iload_n 2, 1) := by decide +kernel
theorem d_92_45 : decode (codeOf 92) 45 = .ok (.ireturn, 1) := by decide +kernel
theorem d_92_46 : decode (codeOf 92) 46 = .ok (.iinc 1 1, 3) := by decide +kernel
theorem d_92_49 : decode (codeOf 92) 49 = .ok (.goto (-35), 3) := by decide +kernel
theorem d_92_52 : decode (codeOf 92) 52 = .ok (.bipush (-4), 2) := by decide +kernel
theorem d_92_54 : decode (codeOf 92) 54 = .ok (.ireturn, 1) := by decide +kernel
theorem d_93_0 : decode (codeOf 93) 0 = .ok (.iconst 0, 1) := by decide +kernel
theorem d_93_1 : decode (codeOf 93) 1 = .ok (.istore_n 1, 1) := by decide +kernel
theorem d_93_2 : decode (codeOf 93) 2 = .ok (.iconst 0, 1) := by decide +kernel
theorem d_93_3 : decode (codeOf 93) 3 = .ok (.istore_n 2, 1) := by decide +kernel
theorem d_93_4 : decode (codeOf 93) 4 = .ok (.iload_n 2, 1) := by decide +kernel
theorem d_93_5 : decode (codeOf 93) 5 = .ok (.aload_n 0, 1) := by decide +kernel
theorem d_93_6 : decode (codeOf 93) 6 = .ok (.getfield 12, 3) := by decide +kernel
theorem d_93_9 : decode (codeOf 93) 9 = .ok (.invokevirtual 36, 3) := by decide +kernel
theorem d_93_12 : decode (codeOf 93) 12 = .ok (.if_icmp .ge 29, 3) := by decide +kernel
theorem d_93_15 : decode (codeOf 93) 15 = .ok (.iload_n 1, 1) := by decide +kernel
theorem d_93_16 : decode (codeOf 93) 16 = .ok (.aload_n 0, 1) := by decide +kernel
theorem d_93_17 : decode (codeOf 93) 17 = .ok (.getfield 12, 3) := by decide +kernel
theorem d_93_20 : decode (codeOf 93) 20 = .ok (.iload_n 2, 1) := by decide +kernel
theorem d_93_21 : decode (codeOf 93) 21 = .ok (.invokevirtual 40, 3) := by decide +kernel
theorem d_93_24 : decode (codeOf 93) 24 = .ok (.aload_n 0, 1) := by decide +kernel
theorem d_93_25 : decode (codeOf 93) 25 = .ok (.getfield 12, 3) := by decide +kernel
theorem d_93_28 : decode (codeOf 93) 28 = .ok (.iload_n 2, 1) := by decide +kernel
theorem d_93_29 : decode (codeOf 93) 29 = .ok (.invokevirtual 44, 3) := by decide +kernel
theorem d_93_32 : decode (codeOf 93) 32 = .ok (.ior, 1) := by decide +kernel
theorem d_93_33 : decode (codeOf 93) 33 = .ok (.ior, 1) := by decide +kernel
theorem d_93_34 : decode (codeOf 93) 34 = .ok (.istore_n 1, 1) := by decide +kernel
theorem d_93_35 : decode (codeOf 93) 35 = .ok (.iinc 2 1, 3) := by decide +kernel
theorem d_93_38 : decode (codeOf 93) 38 = .ok (.goto (-34), 3) := by decide +kernel
theorem d_93_41 : decode (codeOf 93) 41 = .ok (.aload_n 0, 1) := by decide +kernel
theorem d_93_42 : decode (codeOf 93) 42 = .ok (.getfield 12, 3) := by decide +kernel
theorem d_93_45 : decode (codeOf 93) 45 = .ok (.invokevirtual 36, 3) := by decide +kernel
theorem d_93_48 : decode (codeOf 93) 48 = .ok (.ifCond .le 21, 3) := by decide +kernel
theorem d_93_51 : decode (codeOf 93) 51 = .ok (.iload_n 1, 1) := by decide +kernel
theorem d_93_52 : decode (codeOf 93) 52 = .ok (.aload_n 0, 1) := by decide +kernel
theorem d_93_53 : decode (codeOf 93) 53 = .ok (.getfield 12, 3) := by decide +kernel
theorem d_93_56 : decode (codeOf 93) 56 = .ok (.invokevirtual 47, 3) := by decide +kernel
theorem d_93_59 : decode (codeOf 93) 59 = .ok (.iconst (-1), 1) := by decide +kernel
theorem d_93_60 : decode (codeOf 93) 60 = .ok (.ixor, 1) := by decide +kernel
theorem d_93_61 : decode (codeOf 93) 61 = .ok (.iand, 1) := by decide +kernel
theorem d_93_62 : decode (codeOf 93) 62 = .ok (.ifCond .ne 7, 3) := by decide +kernel
theorem d_93_65 : decode (codeOf 93) 65 = .ok (.iconst 1, 1) := by decide +kernel
theorem d_93_66 : decode (codeOf 93) 66 = .ok (.goto 4, 3) := by decide +kernel
theorem d_93_69 : decode (codeOf 93) 69 = .ok (.iconst 0, 1) := by decide +kernel
theorem d_93_70 : decode (codeOf 93) 70 = .ok (.ireturn, 1) := by decide +kernel
theorem d_94_0 : decode (codeOf 94) 0 = .ok (.aload_n 0, 1) := by decide +kernel
theorem d_94_1 : decode (codeOf 94) 1 = .ok (.invokevirtual 50, 3) := by decide +kernel
theorem d_94_4 : decode (codeOf 94) 4 = .ok (.istore_n 1, 1) := by decide +kernel
theorem d_94_5 : decode (codeOf 94) 5 = .ok (.aload_n 0, 1) := by decide +kernel
theorem d_94_6 : decode (codeOf 94) 6 = .ok (.dup, 1) := by decide +kernel
theorem d_94_7 : decode (codeOf 94) 7 = .ok (.getfield 26, 3) := by decide +kernel
theorem d_94_10 : decode (codeOf 94) 10 = .ok (.iconst 1, 1) := by decide +kernel
theorem d_94_11 : decode (codeOf 94) 11 = .ok (.iadd, 1) := by decide +kernel
theorem d_94_12 : decode (codeOf 94) 12 = .ok (.putfield 26, 3) := by decide +kernel
theorem d_94_15 : decode (codeOf 94) 15 = .ok (.iload_n 1, 1) := by decide +kernel
theorem d_94_16 : decode (codeOf 94) 16 = .ok (.lookupswitch 51 #[(105, 46), (108, 41), (115, 36)], 36) := by decide +kernel
theorem d_94_52 : decode (codeOf 94) 52 = .ok (.aload_n 0, 1) := by decide +kernel
theorem d_94_53 : decode (codeOf 94) 53 = .ok (.invokevirtual 53, 3) := by decide +kernel
theorem d_94_56 : decode (codeOf 94) 56 = .ok (.ireturn, 1) := by decide +kernel
theorem d_94_57 : decode (codeOf 94) 57 = .ok (.aload_n 0, 1) := by decide +kernel
theorem d_94_58 : decode (codeOf 94) 58 = .ok (.invokevirtual 56, 3) := by decide +kernel
theorem d_94_61 : decode (codeOf 94) 61 = .ok (.ireturn, 1) := by decide +kernel
theorem d_94_62 : decode (codeOf 94) 62 = .ok (.aload_n 0, 1) := by decide +kernel
theorem d_94_63 : decode (codeOf 94) 63 = .ok (.invokevirtual 59, 3) := by decide +kernel
theorem d_94_66 : decode (codeOf 94) 66 = .ok (.ireturn, 1) := by decide +kernel
theorem d_94_67 : decode (codeOf 94) 67 = .ok (.iconst 0, 1) := by decide +kernel
theorem d_94_68 : decode (codeOf 94) 68 = .ok (.ireturn, 1) := by decide +kernel
theorem d_95_0 : decode (codeOf 95) 0 = .ok (.aload_n 0, 1) := by decide +kernel
theorem d_95_1 : decode (codeOf 95) 1 = .ok (.getfield 12, 3) := by decide +kernel
theorem d_95_4 : decode (codeOf 95) 4 = .ok (.invokevirtual 62, 3) := by decide +kernel
theorem d_95_7 : decode (codeOf 95) 7 = .ok (.istore_n 1, 1) := by decide +kernel
theorem d_95_8 : decode (codeOf 95) 8 = .ok (.iload_n 1, 1) := by decide +kernel
theorem d_95_9 : decode (codeOf 95) 9 = .ok (.iconst 4, 1) := by decide +kernel
theorem d_95_10 : decode (codeOf 95) 10 = .ok (.if_icmp .lt 5, 3) := by decide +kernel
theorem d_95_13 : decode (codeOf 95) 13 = .ok (.iconst 0, 1) := by decide +kernel
theorem d_95_14 : decode (codeOf 95) 14 = .ok (.ireturn, 1) := by decide +kernel
theorem d_95_15 : decode (codeOf 95) 15 = .ok (.iconst 0, 1) := by decide +kernel
theorem d_95_16 : decode (codeOf 95) 16 = .ok (.istore_n 2, 1) := by decide +kernel
theorem d_95_17 : decode (codeOf 95) 17 = .ok (.iload_n 2, 1) := by decide +kernel
theorem d_95_18 : decode (codeOf 95) 18 = .ok (.iconst 3, 1) := by decide +kernel
theorem d_95_19 : decode (codeOf 95) 19 = .ok (.if_icmp .ge 52, 3) := by decide +kernel
theorem d_95_22 : decode (codeOf 95) 22 = .ok (.aload_n 0, 1) := by decide +kernel
theorem d_95_23 : decode (codeOf 95) 23 = .ok (.invokevirtual 50, 3) := by decide +kernel
theorem d_95_26 : decode (codeOf 95) 26 = .ok (.invokestatic 65, 3) := by decide +kernel
theorem d_95_29 : decode (codeOf 95) 29 = .ok (.ifCond .eq 42, 3) := by decide +kernel
theorem d_95_32 : decode (codeOf 95) 32 = .ok (.aload_n 0, 1) := by decide +kernel
theorem d_95_33 : decode (codeOf 95) 33 = .ok (.invokevirtual 69, 3) := by decide +kernel
theorem d_95_36 : decode (codeOf 95) 36 = .ok (.istore_n 3, 1) := by decide +kernel
theorem d_95_37 : decode (codeOf 95) 37 = .ok (.iload_n 3, 1) := by decide +kernel
theorem d_95_38 : decode (codeOf 95) 38 = .ok (.iload_n 1, 1) := by decide +kernel
theorem d_95_39 : decode (codeOf 95) 39 = .ok (.if_icmp .le 5, 3) := by decide +kernel
theorem d_95_42 : decode (codeOf 95) 42 = .ok (.iconst 0, 1) := by decide +kernel
theorem d_95_43 : decode (codeOf 95) 43 = .ok (.ireturn, 1) := by decide +kernel
theorem d_95_44 : decode (codeOf 95) 44 = .ok (.aload_n 0, 1) := by decide +kernel
theorem d_95_45 : decode (codeOf 95) 45 = .ok (.getfield 12, 3) := by decide +kernel
theorem d_95_48 : decode (codeOf 95) 48 = .ok (.iload_n 1, 1) := by decide +kernel
theorem d_95_49 : decode (codeOf 95) 49 = .ok (.iload_n 3, 1) := by decide +kernel
theorem d_95_50 : decode (codeOf 95) 50 = .ok (.ifCond .ne 7, 3) := by decide +kernel
theorem d_95_53 : decode (codeOf 95) 53 = .ok (.iconst 1, 1) := by decide +kernel
theorem d_95_54 : decode (codeOf 95) 54 = .ok (.goto 8, 3) := by decide +kernel
theorem d_95_57 : decode (codeOf 95) 57 = .ok (.iconst 2, 1) := by decide +kernel
theorem d_95_58 : decode (codeOf 95) 58 = .ok (.iload_n 3, 1) := by decide +kernel
theorem d_95_59 : decode (codeOf 95) 59 = .ok (.iadd, 1) := by decide +kernel
theorem d_95_60 : decode (codeOf 95) 60 = .ok (.iconst 1, 1) := by decide +kernel
theorem d_95_61 : decode (codeOf 95) 61 = .ok (.isub, 1) := by decide +kernel
theorem d_95_62 : decode (codeOf 95) 62 = .ok (.invokevirtual 72, 3) := by decide +kernel
theorem d_95_65 : decode (codeOf 95) 65 = .ok (.iinc 2 1, 3) := by decide +kernel
theorem d_95_68 : decode (codeOf 95) 68 = .ok (.goto (-51), 3) := by decide +kernel
theorem d_95_71 : decode (codeOf 95) 71 = .ok (.aload_n 0, 1) := by decide +kernel
theorem d_95_72 : decode (codeOf 95) 72 = .ok (.getfield 12, 3) := by decide +kernel
theorem d_95_75 : decode (codeOf 95) 75 = .ok (.invokevirtual 76, 3) := by decide +kernel
theorem d_95_78 : decode (codeOf 95) 78 = .ok (.aload_n 0, 1) := by decide +kernel
theorem d_95_79 : decode (codeOf 95) 79 = .ok (.getfield 12, 3) := by decide +kernel
theorem d_95_82 : decode (codeOf 95) 82 = .ok (.iload_n 1, 1) := by decide +kernel
theorem d_95_83 : decode (codeOf 95) 83 = .ok (.invokevirtual 79, 3) := by decide +kernel
theorem d_95_86 : decode (codeOf 95) 86 = .ok (.ifCond .le 16, 3) := by decide +kernel
theorem d_95_89 : decode (codeOf 95) 89 = .ok (.aload_n 0, 1) := by decide +kernel
theorem d_95_90 : decode (codeOf 95) 90 = .ok (.bipush 59, 2) := by decide +kernel
theorem d_95_92 : decode (codeOf 95) 92 = .ok (.invokevirtual 82, 3) := by decide +kernel
theorem d_95_95 : decode (codeOf 95) 95 = .ok (.ifCond .eq 7, 3) := by decide +kernel
theorem d_95_98 : decode (codeOf 95) 98 = .ok (.iconst 1, 1) := by decide +kernel
theorem d_95_99 : decode (codeOf 95) 99 = .ok (.goto 4, 3) := by decide +kernel
theorem d_95_102 : decode (codeOf 95) 102 = .ok (.iconst 0, 1) := by decide +kernel
theorem d_95_103 : decode (codeOf 95) 103 = .ok (.ireturn, 1) := by decide +kernel
theorem d_96_0 : decode (codeOf 96) 0 = .ok (.aload_n 0, 1) := by decide +kernel
theorem d_96_1 : decode (codeOf 96) 1 = .ok (.getfield 12, 3) := by decide +kernel
theorem d_96_4 : decode (codeOf 96) 4 = .ok (.invokevirtual 36, 3) := by decide +kernel
theorem d_96_7 : decode (codeOf 96) 7 = .ok (.istore_n 1, 1) := by decide +kernel
theorem d_96_8 : decode (codeOf 96) 8 = .ok (.iload_n 1, 1) := by decide +kernel
theorem d_96_9 : decode (codeOf 96) 9 = .ok (.iconst 4, 1) := by decide +kernel
theorem d_96_10 : decode (codeOf 96) 10 = .ok (.if_icmp .lt 5, 3) := by decide +kernel
theorem d_96_13 : decode (codeOf 96) 13 = .ok (.iconst 0, 1) := by decide +kernel
theorem d_96_14 : decode (codeOf 96) 14 = .ok (.ireturn, 1) := by decide +kernel
theorem d_96_15 : decode (codeOf 96) 15 = .ok (.iconst 0, 1) := by decide +kernel
theorem d_96_16 : decode (codeOf 96) 16 = .ok (.istore_n 2, 1) := by decide +kernel
theorem d_96_17 : decode (codeOf 96) 17 = .ok (.iload_n 2, 1) := by decide +kernel
theorem d_96_18 : decode (codeOf 96) 18 = .ok (.iconst 4, 1) := by decide +kernel
theorem d_96_19 : decode (codeOf 96) 19 = .ok (.if_icmp .ge 34, 3) := by decide +kernel
theorem d_96_22 : decode (codeOf 96) 22 = .ok (.aload_n 0, 1) := by decide +kernel
theorem d_96_23 : decode (codeOf 96) 23 = .ok (.invokevirtual 69, 3) := by decide +kernel
theorem d_96_26 : decode (codeOf 96) 26 = .ok (.istore_n 3, 1) := by decide +kernel
theorem d_96_27 : decode (codeOf 96) 27 = .ok (.aload_n 0, 1) := by decide +kernel
theorem d_96_28 : decode (codeOf 96) 28 = .ok (.iload_n 3, 1) := by decide +kernel
theorem d_96_29 : decode (codeOf 96) 29 = .ok (.invokevirtual 85, 3) := by decide +kernel
theorem d_96_32 : decode (codeOf 96) 32 = .ok (.ifCond .ne 5, 3) := by decide +kernel
theorem d_96_35 : decode (codeOf 96) 35 = .ok (.iconst 0, 1) := by decide +kernel
theorem d_96_36 : decode (codeOf 96) 36 = .ok (.ireturn, 1) := by decide +kernel
theorem d_96_37 : decode (codeOf 96) 37 = .ok (.aload_n 0, 1) := by decide +kernel
theorem d_96_38 : decode (codeOf 96) 38 = .ok (.getfield 12, 3) := by decide +kernel
theorem d_96_41 : decode (codeOf 96) 41 = .ok (.iload_n 1, 1) := by decide +kernel
theorem d_96_42 : decode (codeOf 96) 42 = .ok (.iload_n 2, 1) := by decide +kernel
theorem d_96_43 : decode (codeOf 96) 43 = .ok (.iload_n 3, 1) := by decide +kernel
theorem d_96_44 : decode (codeOf 96) 44 = .ok (.invokevirtual 88, 3) := by decide +kernel
theorem d_96_47 : decode (codeOf 96) 47 = .ok (.iinc 2 1, 3) := by decide +kernel
theorem d_96_50 : decode (codeOf 96) 50 = .ok (.goto (-33), 3) := by decide +kernel
theorem d_96_53 : decode (codeOf 96) 53 = .ok (.aload_n 0, 1) := by decide +kernel
theorem d_96_54 : decode (codeOf 96) 54 = .ok (.bipush 44, 2) := by decide +kernel
theorem d_96_56 : decode (codeOf 96) 56 = .ok (.invokevirtual 82, 3) := by decide +kernel
theorem d_96_59 : decode (codeOf 96) 59 = .ok (.ifCond .ne 5, 3) := by decide +kernel
theorem d_96_62 : decode (codeOf 96) 62 = .ok (.iconst 0, 1) := by decide +kernel
theorem d_96_63 : decode (codeOf 96) 63 = .ok (.ireturn, 1) := by decide +kernel
theorem d_96_64 : decode (codeOf 96) 64 = .ok (.iconst 0, 1) := by decide +kernel
theorem d_96_65 : decode (codeOf 96) 65 = .ok (.istore_n 2, 1) := by decide +kernel
theorem d_96_66 : decode (codeOf 96) 66 = .ok (.iload_n 2, 1) := by decide +kernel
theorem d_96_67 : decode (codeOf 96) 67 = .ok (.iconst 3, 1) := by decide +kernel
theorem d_96_68 : decode (codeOf 96) 68 = .ok (.if_icmp .ge 43, 3) := by decide +kernel
theorem d_96_71 : decode (codeOf 96) 71 = .ok (.aload_n 0, 1) := by decide +kernel
theorem d_96_72 : decode (codeOf 96) 72 = .ok (.invokevirtual 50, 3) := by decide +kernel
theorem d_96_75 : decode (codeOf 96) 75 = .ok (.invokestatic 65, 3) := by decide +kernel
theorem d_96_78 : decode (codeOf 96) 78 = .ok (.ifCond .eq 33, 3) := by decide +kernel
theorem d_96_81 : decode (codeOf 96) 81 = .ok (.aload_n 0, 1) := by decide +kernel
theorem d_96_82 : decode (codeOf 96) 82 = .ok (.invokevirtual 69, 3) := by decide +kernel
theorem d_96_85 : decode (codeOf 96) 85 = .ok (.istore_n 3, 1) := by decide +kernel
theorem d_96_86 : decode (codeOf 96) 86 = .ok (.aload_n 0, 1) := by decide +kernel
theorem d_96_87 : decode (codeOf 96) 87 = .ok (.iload_n 3, 1) := by decide +kernel
theorem d_96_88 : decode (codeOf 96) 88 = .ok (.invokevirtual 85, 3) := by decide +kernel
theorem d_96_91 : decode (codeOf 96) 91 = .ok (.ifCond .ne 5, 3) := by decide +kernel
theorem d_96_94 : decode (codeOf 96) 94 = .ok (.iconst 0, 1) := by decide +kernel
theorem d_96_95 : decode (codeOf 96) 95 = .ok (.ireturn, 1) := by decide +kernel
theorem d_96_96 : decode (codeOf 96) 96 = .ok (.aload_n 0, 1) := by decide +kernel
theorem d_96_97 : decode (codeOf 96) 97 = .ok (.getfield 12, 3) := by decide +kernel
theorem d_96_100 : decode (codeOf 96) 100 = .ok (.iload_n 1, 1) := by decide +kernel
theorem d_96_101 : decode (codeOf 96) 101 = .ok (.iload_n 3, 1) := by decide +kernel
theorem d_96_102 : decode (codeOf 96) 102 = .ok (.invokevirtual 92, 3) := by decide +kernel
theorem d_96_105 : decode (codeOf 96) 105 = .ok (.iinc 2 1, 3) := by decide +kernel
theorem d_96_108 : decode (codeOf 96) 108 = .ok (.goto (-42), 3) := by decide +kernel
theorem d_96_111 : decode (codeOf 96) 111 = .ok (.aload_n 0, 1) := by decide +kernel
theorem d_96_112 : decode (codeOf 96) 112 = .ok (.bipush 44, 2) := by decide +kernel
theorem d_96_114 : decode (codeOf 96) 114 = .ok (.invokevirtual 82, 3) := by decide +kernel
theorem d_96_117 : decode (codeOf 96) 117 = .ok (.ifCond .ne 5, 3) := by decide +kernel
theorem d_96_120 : decode (codeOf 96) 120 = .ok (.iconst 0, 1) := by decide +kernel
theorem d_96_121 : decode (codeOf 96) 121 = .ok (.ireturn, 1) := by decide +kernel
theorem d_96_122 : decode (codeOf 96) 122 = .ok (.aload_n 0, 1) := by decide +kernel
theorem d_96_123 : decode (codeOf 96) 123 = .ok (.invokevirtual 95, 3) := by decide +kernel
theorem d_96_126 : decode (codeOf 96) 126 = .ok (.istore_n 2, 1) := by decide +kernel
theorem d_96_127 : decode (codeOf 96) 127 = .ok (.aload_n 0, 1) := by decide +kernel
theorem d_96_128 : decode (codeOf 96) 128 = .ok (.getfield 12, 3) := by decide +kernel
theorem d_96_131 : decode (codeOf 96) 131 = .ok (.iload_n 1, 1) := by decide +kernel
theorem d_96_132 : decode (codeOf 96) 132 = .ok (.iload_n 2, 1) := by decide +kernel
theorem d_96_133 : decode (codeOf 96) 133 = .ok (.invokevirtual 98, 3) := by decide +kernel
theorem d_96_136 : decode (codeOf 96) 136 = .ok (.aload_n 0, 1) := by decide +kernel
theorem d_96_137 : decode (codeOf 96) 137 = .ok (.getfield 12, 3) := by decide +kernel
theorem d_96_140 : decode (codeOf 96) 140 = .ok (.invokevirtual 101, 3) := by decide +kernel
theorem d_96_143 : decode (codeOf 96) 143 = .ok (.iload_n 2, 1) := by decide +kernel
theorem d_96_144 : decode (codeOf 96) 144 = .ok (.ifCond .lt 21, 3) := by decide +kernel
theorem d_96_147 : decode (codeOf 96) 147 = .ok (.iload_n 2, 1) := by decide +kernel
theorem d_96_148 : decode (codeOf 96) 148 = .ok (.iconst 1, 1) := by decide +kernel
theorem d_96_149 : decode (codeOf 96) 149 = .ok (.if_icmp .gt 16, 3) := by decide +kernel
theorem d_96_152 : decode (codeOf 96) 152 = .ok (.aload_n 0, 1) := by decide +kernel
theorem d_96_153 : decode (codeOf 96) 153 = .ok (.bipush 59, 2) := by decide +kernel
theorem d_96_155 : decode (codeOf 96) 155 = .ok (.invokevirtual 82, 3) := by decide +kernel
theorem d_96_158 : decode (codeOf 96) 158 = .ok (.ifCond .eq 7, 3) := by decide +kernel
theorem d_96_161 : decode (codeOf 96) 161 = .ok (.iconst 1, 1) := by decide +kernel
theorem d_96_162 : decode (codeOf 96) 162 = .ok (.goto 4, 3) := by decide +kernel
theorem d_96_165 : decode (codeOf 96) 165 = .ok (.iconst 0, 1) := by decide +kernel
theorem d_96_166 : decode (codeOf 96) 166 = .ok (.ireturn, 1) := by decide +kernel
theorem d_97_0 : decode (codeOf 97) 0 = .ok (.aload_n 0, 1) := by decide +kernel
theorem d_97_1 : decode (codeOf 97) 1 = .ok (.getfield 12, 3) := by decide +kernel
theorem d_97_4 : decode (codeOf 97) 4 = .ok (.invokevirtual 36, 3) := by decide +kernel
theorem d_97_7 : decode (codeOf 97) 7 = .ok (.iconst 1, 1) := by decide +kernel
theorem d_97_8 : decode (codeOf 97) 8 = .ok (.isub, 1) := by decide +kernel
theorem d_97_9 : decode (codeOf 97) 9 = .ok (.istore_n 1, 1) := by decide +kernel
theorem d_97_10 : decode (codeOf 97) 10 = .ok (.iload_n 1, 1) := by decide +kernel
theorem d_97_11 : decode (codeOf 97) 11 = .ok (.ifCond .lt 16, 3) := by decide +kernel
theorem d_97_14 : decode (codeOf 97) 14 = .ok (.aload_n 0, 1) := by decide +kernel
theorem d_97_15 : decode (codeOf 97) 15 = .ok (.getfield 12, 3) := by decide +kernel
theorem d_97_18 : decode (codeOf 97) 18 = .ok (.iload_n 1, 1) := by decide +kernel
theorem d_97_19 : decode (codeOf 97) 19 = .ok (.invokevirtual 104, 3) := by decide +kernel
theorem d_97_22 : decode (codeOf 97) 22 = .ok (.bipush 6, 2) := by decide +kernel
theorem d_97_24 : decode (codeOf 97) 24 = .ok (.if_icmp .lt 5, 3) := by decide +kernel
theorem d_97_27 : decode (codeOf 97) 27 = .ok (.iconst 0, 1) := by decide +kernel
theorem d_97_28 : decode (codeOf 97) 28 = .ok (.ireturn, 1) := by decide +kernel
theorem d_97_29 : decode (codeOf 97) 29 = .ok (.aload_n 0, 1) := by decide +kernel
theorem d_97_30 : decode (codeOf 97) 30 = .ok (.invokevirtual 95, 3) := by decide +kernel
theorem d_97_33 : decode (codeOf 97) 33 = .ok (.istore_n 2, 1) := by decide +kernel
theorem d_97_34 : decode (codeOf 97) 34 = .ok (.aload_n 0, 1) := by decide +kernel
theorem d_97_35 : decode (codeOf 97) 35 = .ok (.bipush 44, 2) := by decide +kernel
theorem d_97_37 : decode (codeOf 97) 37 = .ok (.invokevirtual 82, 3) := by decide +kernel
theorem d_97_40 : decode (codeOf 97) 40 = .ok (.istore_n 3, 1) := by decide +kernel
theorem d_97_41 : decode (codeOf 97) 41 = .ok (.aload_n 0, 1) := by decide +kernel
theorem d_97_42 : decode (codeOf 97) 42 = .ok (.invokevirtual 95, 3) := by decide +kernel
theorem d_97_45 : decode (codeOf 97) 45 = .ok (.istore 4, 2) := by decide +kernel
theorem d_97_47 : decode (codeOf 97) 47 = .ok (.iload_n 3, 1) := by decide +kernel
theorem d_97_48 : decode (codeOf 97) 48 = .ok (.ifCond .eq 16, 3) := by decide +kernel
theorem d_97_51 : decode (codeOf 97) 51 = .ok (.aload_n 0, 1) := by decide +kernel
theorem d_97_52 : decode (codeOf 97) 52 = .ok (.bipush 44, 2) := by decide +kernel
theorem d_97_54 : decode (codeOf 97) 54 = .ok (.invokevirtual 82, 3) := by decide +kernel
theorem d_97_57 : decode (codeOf 97) 57 = .ok (.ifCond .eq 7, 3) := by decide +kernel
theorem d_97_60 : decode (codeOf 97) 60 = .ok (.iconst 1, 1) := by decide +kernel
theorem d_97_61 : decode (codeOf 97) 61 = .ok (.goto 4, 3) := by decide +kernel
theorem d_97_64 : decode (codeOf 97) 64 = .ok (.iconst 0, 1) := by decide +kernel
theorem d_97_65 : decode (codeOf 97) 65 = .ok (.istore_n 3, 1) := by decide +kernel
theorem d_97_66 : decode (codeOf 97) 66 = .ok (.aload_n 0, 1) := by decide +kernel
theorem d_97_67 : decode (codeOf 97) 67 = .ok (.invokevirtual 95, 3) := by decide +kernel
theorem d_97_70 : decode (codeOf 97) 70 = .ok (.istore 5, 2) := by decide +kernel
theorem d_97_72 : decode (codeOf 97) 72 = .ok (.iload_n 3, 1) := by decide +kernel
theorem d_97_73 : decode (codeOf 97) 73 = .ok (.ifCond .eq 16, 3) := by decide +kernel
theorem d_97_76 : decode (codeOf 97) 76 = .ok (.aload_n 0, 1) := by decide +kernel
theorem d_97_77 : decode (codeOf 97) 77 = .ok (.bipush 44, 2) := by decide +kernel
theorem d_97_79 : decode (codeOf 97) 79 = .ok (.invokevirtual 82, 3) := by decide +kernel
theorem d_97_82 : decode (codeOf 97) 82 = .ok (.ifCond .eq 7, 3) := by decide +kernel
theorem d_97_85 : decode (codeOf 97) 85 = .ok (.iconst 1, 1) := by decide +kernel
theorem d_97_86 : decode (codeOf 97) 86 = .ok (.goto 4, 3) := by decide +kernel
theorem d_97_89 : decode (codeOf 97) 89 = .ok (.iconst 0, 1) := by decide +kernel
theorem d_97_90 : decode (codeOf 97) 90 = .ok (.istore_n 3, 1) := by decide +kernel
theorem d_97_91 : decode (codeOf 97) 91 = .ok (.aload_n 0, 1) := by decide +kernel
theorem d_97_92 : decode (codeOf 97) 92 = .ok (.invokevirtual 95, 3) := by decide +kernel
theorem d_97_95 : decode (codeOf 97) 95 = .ok (.istore 6, 2) := by decide +kernel
theorem d_97_97 : decode (codeOf 97) 97 = .ok (.iload_n 3, 1) := by decide +kernel
theorem d_97_98 : decode (codeOf 97) 98 = .ok (.ifCond .eq 16, 3) := by decide +kernel
theorem d_97_101 : decode (codeOf 97) 101 = .ok (.aload_n 0, 1) := by decide +kernel
theorem d_97_102 : decode (codeOf 97) 102 = .ok (.bipush 59, 2) := by decide +kernel
theorem d_97_104 : decode (codeOf 97) 104 = .ok (.invokevirtual 82, 3) := by decide +kernel
theorem d_97_107 : decode (codeOf 97) 107 = .ok (.ifCond .eq 7, 3) := by decide +kernel
theorem d_97_110 : decode (codeOf 97) 110 = .ok (.iconst 1, 1) := by decide +kernel
theorem d_97_111 : decode (codeOf 97) 111 = .ok (.goto 4, 3) := by decide +kernel
theorem d_97_114 : decode (codeOf 97) 114 = .ok (.iconst 0, 1) := by decide +kernel
theorem d_97_115 : decode (codeOf 97) 115 = .ok (.istore_n 3, 1) := by decide +kernel
theorem d_97_116 : decode (codeOf 97) 116 = .ok (.iload_n 3, 1) := by decide +kernel
theorem d_97_117 : decode (codeOf 97) 117 = .ok (.ifCond .eq 24, 3) := by decide +kernel
theorem d_97_120 : decode (codeOf 97) 120 = .ok (.iload_n 2, 1) := by decide +kernel
theorem d_97_121 : decode (codeOf 97) 121 = .ok (.iload 4, 2) := by decide +kernel
theorem d_97_123 : decode (codeOf 97) 123 = .ok (.iload 5, 2) := by decide +kernel
theorem d_97_125 : decode (codeOf 97) 125 = .ok (.iload 6, 2) := by decide +kernel
theorem d_97_127 : decode (codeOf 97) 127 = .ok (.aload_n 0, 1) := by decide +kernel
theorem d_97_128 : decode (codeOf 97) 128 = .ok (.getfield 12, 3) := by decide +kernel
theorem d_97_131 : decode (codeOf 97) 131 = .ok (.invokevirtual 62, 3) := by decide +kernel
theorem d_97_134 : decode (codeOf 97) 134 = .ok (.iconst 4, 1) := by decide +kernel
theorem d_97_135 : decode (codeOf 97) 135 = .ok (.invokestatic 107, 3) := by decide +kernel
theorem d_97_138 : decode (codeOf 97) 138 = .ok (.ifCond .ne 5, 3) := by decide +kernel
theorem d_97_141 : decode (codeOf 97) 141 = .ok (.iconst 0, 1) := by decide +kernel
theorem d_97_142 : decode (codeOf 97) 142 = .ok (.ireturn, 1) := by decide +kernel
theorem d_97_143 : decode (codeOf 97) 143 = .ok (.aload_n 0, 1) := by decide +kernel
theorem d_97_144 : decode (codeOf 97) 144 = .ok (.getfield 12, 3) := by decide +kernel
theorem d_97_147 : decode (codeOf 97) 147 = .ok (.iload_n 1, 1) := by decide +kernel
theorem d_97_148 : decode (codeOf 97) 148 = .ok (.invokevirtual 104, 3) := by decide +kernel
theorem d_97_151 : decode (codeOf 97) 151 = .ok (.istore 7, 2) := by decide +kernel
theorem d_97_153 : decode (codeOf 97) 153 = .ok (.aload_n 0, 1) := by decide +kernel
theorem d_97_154 : decode (codeOf 97) 154 = .ok (.getfield 12, 3) := by decide +kernel
theorem d_97_157 : decode (codeOf 97) 157 = .ok (.iload_n 1, 1) := by decide +kernel
theorem d_97_158 : decode (codeOf 97) 158 = .ok (.iload 7, 2) := by decide +kernel
theorem d_97_160 : decode (codeOf 97) 160 = .ok (.invokevirtual 111, 3) := by decide +kernel
theorem d_97_163 : decode (codeOf 97) 163 = .ok (.aload_n 0, 1) := by decide +kernel
theorem d_97_164 : decode (codeOf 97) 164 = .ok (.getfield 12, 3) := by decide +kernel
theorem d_97_167 : decode (codeOf 97) 167 = .ok (.iload_n 1, 1) := by decide +kernel
theorem d_97_168 : decode (codeOf 97) 168 = .ok (.iload 7, 2) := by decide +kernel
theorem d_97_170 : decode (codeOf 97) 170 = .ok (.iload_n 2, 1) := by decide +kernel
theorem d_97_171 : decode (codeOf 97) 171 = .ok (.iload 4, 2) := by decide +kernel
theorem d_97_173 : decode (codeOf 97) 173 = .ok (.iload 5, 2) := by decide +kernel
theorem d_97_175 : decode (codeOf 97) 175 = .ok (.iload 6, 2) := by decide +kernel
theorem d_97_177 : decode (codeOf 97) 177 = .ok (.invokevirtual 114, 3) := by decide +kernel
theorem d_97_180 : decode (codeOf 97) 180 = .ok (.iconst 1, 1) := by decide +kernel
theorem d_97_181 : decode (codeOf 97) 181 = .ok (.ireturn, 1) := by decide +kernel
theorem d_98_0 : decode (codeOf 98) 0 = .ok (.iload_n 1, 1) := by decide +kernel
theorem d_98_1 : decode (codeOf 98) 1 = .ok (.ifCond .lt 9, 3) := by decide +kernel
theorem d_98_4 : decode (codeOf 98) 4 = .ok (.iload_n 1, 1) := by decide +kernel
theorem d_98_5 : decode (codeOf 98) 5 = .ok (.bipush 10, 2) := by decide +kernel
theorem d_98_7 : decode (codeOf 98) 7 = .ok (.if_icmp .lt 5, 3) := by decide +kernel
theorem d_98_10 : decode (codeOf 98) 10 = .ok (.iconst 0, 1) := by decide +kernel
theorem d_98_11 : decode (codeOf 98) 11 = .ok (.ireturn, 1) := by decide +kernel
theorem d_98_12 : decode (codeOf 98) 12 = .ok (.iload_n 1, 1) := by decide +kernel
theorem d_98_13 : decode (codeOf 98) 13 = .ok (.iconst 2, 1) := by decide +kernel
theorem d_98_14 : decode (codeOf 98) 14 = .ok (.if_icmp .lt 22, 3) := by decide +kernel
theorem d_98_17 : decode (codeOf 98) 17 = .ok (.iload_n 1, 1) := by decide +kernel
theorem d_98_18 : decode (codeOf 98) 18 = .ok (.bipush 6, 2) := by decide +kernel
theorem d_98_20 : decode (codeOf 98) 20 = .ok (.if_icmp .ge 16, 3) := by decide +kernel
theorem d_98_23 : decode (codeOf 98) 23 = .ok (.aload_n 0, 1) := by decide +kernel
theorem d_98_24 : decode (codeOf 98) 24 = .ok (.getfield 12, 3) := by decide +kernel
theorem d_98_27 : decode (codeOf 98) 27 = .ok (.iload_n 1, 1) := by decide +kernel
theorem d_98_28 : decode (codeOf 98) 28 = .ok (.iconst 2, 1) := by decide +kernel
theorem d_98_29 : decode (codeOf 98) 29 = .ok (.isub, 1) := by decide +kernel
theorem d_98_30 : decode (codeOf 98) 30 = .ok (.invokevirtual 118, 3) := by decide +kernel
theorem d_98_33 : decode (codeOf 98) 33 = .ok (.ifCond .eq 7, 3) := by decide +kernel
theorem d_98_36 : decode (codeOf 98) 36 = .ok (.iconst 1, 1) := by decide +kernel
theorem d_98_37 : decode (codeOf 98) 37 = .ok (.goto 4, 3) := by decide +kernel
theorem d_98_40 : decode (codeOf 98) 40 = .ok (.iconst 0, 1) := by decide +kernel
theorem d_98_41 : decode (codeOf 98) 41 = .ok (.ireturn, 1) := by decide +kernel
theorem d_99_0 : decode (codeOf 99) 0 = .ok (.aload_n 0, 1) := by decide +kernel
theorem d_99_1 : decode (codeOf 99) 1 = .ok (.getfield 26, 3) := by decide +kernel
theorem d_99_4 : decode (codeOf 99) 4 = .ok (.ifCond .lt 36, 3) := by decide +kernel
theorem d_99_7 : decode (codeOf 99) 7 = .ok (.aload_n 0, 1) := by decide +kernel
theorem d_99_8 : decode (codeOf 99) 8 = .ok (.getfield 26, 3) := by decide +kernel
theorem d_99_11 : decode (codeOf 99) 11 = .ok (.aload_n 0, 1) := by decide +kernel
theorem d_99_12 : decode (codeOf 99) 12 = .ok (.getfield 22, 3) := by decide +kernel
theorem d_99_15 : decode (codeOf 99) 15 = .ok (.if_icmp .ge 25, 3) := by decide +kernel
theorem d_99_18 : decode (codeOf 99) 18 = .ok (.aload_n 0, 1) := by decide +kernel
theorem d_99_19 : decode (codeOf 99) 19 = .ok (.getfield 26, 3) := by decide +kernel
theorem d_99_22 : decode (codeOf 99) 22 = .ok (.sipush 200, 3) := by decide +kernel
theorem d_99_25 : decode (codeOf 99) 25 = .ok (.if_icmp .ge 15, 3) := by decide +kernel
theorem d_99_28 : decode (codeOf 99) 28 = .ok (.aload_n 0, 1) := by decide +kernel
theorem d_99_29 : decode (codeOf 99) 29 = .ok (.getfield 18, 3) := by decide +kernel
theorem d_99_32 : decode (codeOf 99) 32 = .ok (.aload_n 0, 1) := by decide +kernel
theorem d_99_33 : decode (codeOf 99) 33 = .ok (.getfield 26, 3) := by decide +kernel
theorem d_99_36 : decode (codeOf 99) 36 = .ok (.iaload, 1) := by decide +kernel
theorem d_99_37 : decode (codeOf 99) 37 = .ok (.goto 4, 3) := by decide +kernel
theorem d_99_40 : decode (codeOf 99) 40 = .ok (.iconst (-1), 1) := by decide +kernel
theorem d_99_41 : decode (codeOf 99) 41 = .ok (.ireturn, 1) := by decide +kernel
theorem d_100_0 : decode (codeOf 100) 0 = .ok (.iload_n 0, 1) := by decide +kernel
theorem d_100_1 : decode (codeOf 100) 1 = .ok (.bipush 48, 2) := by decide +kernel
theorem d_100_3 : decode (codeOf 100) 3 = .ok (.if_icmp .lt 13, 3) := by decide +kernel
theorem d_100_6 : decode (codeOf 100) 6 = .ok (.iload_n 0, 1) := by decide +kernel
theorem d_100_7 : decode (codeOf 100) 7 = .ok (.bipush 57, 2) := by decide +kernel
theorem d_100_9 : decode (codeOf 100) 9 = .ok (.if_icmp .gt 7, 3) := by decide +kernel
theorem d_100_12 : decode (codeOf 100) 12 = .ok (.iconst 1, 1) := by decide +kernel
theorem d_100_13 : decode (codeOf 100) 13 = .ok (.goto 4, 3) := by decide +kernel
theorem d_100_16 : decode (codeOf 100) 16 = .ok (.iconst 0, 1) := by decide +kernel
theorem d_100_17 : decode (codeOf 100) 17 = .ok (.ireturn, 1) := by decide +kernel
theorem d_101_0 : decode (codeOf 101) 0 = .ok (.aload_n 0, 1) := by decide +kernel
theorem d_101_1 : decode (codeOf 101) 1 = .ok (.invokevirtual 50, 3) := by decide +kernel
theorem d_101_4 : decode (codeOf 101) 4 = .ok (.istore_n 1, 1) := by decide +kernel
theorem d_101_5 : decode (codeOf 101) 5 = .ok (.iload_n 1, 1) := by decide +kernel
theorem d_101_6 : decode (codeOf 101) 6 = .ok (.invokestatic 65, 3) := by decide +kernel
theorem d_101_9 : decode (codeOf 101) 9 = .ok (.ifCond .ne 5, 3) := by decide +kernel
theorem d_101_12 : decode (codeOf 101) 12 = .ok (.iconst (-1), 1) := by decide +kernel
theorem d_101_13 : decode (codeOf 101) 13 = .ok (.ireturn, 1) := by decide +kernel
theorem d_101_14 : decode (codeOf 101) 14 = .ok (.aload_n 0, 1) := by decide +kernel
theorem d_101_15 : decode (codeOf 101) 15 = .ok (.dup, 1) := by decide +kernel
theorem d_101_16 : decode (codeOf 101) 16 = .ok (.getfield 26, 3) := by decide +kernel
theorem d_101_19 : decode (codeOf 101) 19 = .ok (.iconst 1, 1) := by decide +kernel
theorem d_101_20 : decode (codeOf 101) 20 = .ok (.iadd, 1) := by decide +kernel
theorem d_101_21 : decode (codeOf 101) 21 = .ok (.putfield 26, 3) := by decide +kernel
theorem d_101_24 : decode (codeOf 101) 24 = .ok (.iload_n 1, 1) := by decide +kernel
theorem d_101_25 : decode (codeOf 101) 25 = .ok (.bipush 48, 2) := by decide +kernel
theorem d_101_27 : decode (codeOf 101) 27 = .ok (.isub, 1) := by decide +kernel
theorem d_101_28 : decode (codeOf 101) 28 = .ok (.ireturn, 1) := by decide +kernel
theorem d_102_0 : decode (codeOf 102) 0 = .ok (.aload_n 0, 1) := by decide +kernel
theorem d_102_1 : decode (codeOf 102) 1 = .ok (.invokevirtual 69, 3) := by decide +kernel
theorem d_102_4 : decode (codeOf 102) 4 = .ok (.istore_n 1, 1) := by decide +kernel
theorem d_102_5 : decode (codeOf 102) 5 = .ok (.iload_n 1, 1) := by decide +kernel
theorem d_102_6 : decode (codeOf 102) 6 = .ok (.ifCond .ge 5, 3) := by decide +kernel
theorem d_102_9 : decode (codeOf 102) 9 = .ok (.iconst (-1), 1) := by decide +kernel
theorem d_102_10 : decode (codeOf 102) 10 = .ok (.ireturn, 1) := by decide +kernel
theorem d_102_11 : decode (codeOf 102) 11 = .ok (.aload_n 0, 1) := by decide +kernel
theorem d_102_12 : decode (codeOf 102) 12 = .ok (.invokevirtual 69, 3) := by decide +kernel
theorem d_102_15 : decode (codeOf 102) 15 = .ok (.istore_n 2, 1) := by decide +kernel
theorem d_102_16 : decode (codeOf 102) 16 = .ok (.iload_n 2, 1) := by decide +kernel
theorem d_102_17 : decode (codeOf 102) 17 = .ok (.ifCond .ge 7, 3) := by decide +kernel
theorem d_102_20 : decode (codeOf 102) 20 = .ok (.iload_n 1, 1) := by decide +kernel
theorem d_102_21 : decode (codeOf 102) 21 = .ok (.goto 9, 3) := by decide +kernel
theorem d_102_24 : decode (codeOf 102) 24 = .ok (.iload_n 1, 1) := by decide +kernel
theorem d_102_25 : decode (codeOf 102) 25 = .ok (.bipush 10, 2) := by decide +kernel
theorem d_102_27 : decode (codeOf 102) 27 = .ok (.imul, 1) := by decide +kernel
theorem d_102_28 : decode (codeOf 102) 28 = .ok (.iload_n 2, 1) := by decide +kernel
theorem d_102_29 : decode (codeOf 102) 29 = .ok (.iadd, 1) := by decide +kernel
theorem d_102_30 : decode (codeOf 102) 30 = .ok (.ireturn, 1) := by decide +kernel
theorem d_103_0 : decode (codeOf 103) 0 = .ok (.aload_n 0, 1) := by decide +kernel
theorem d_103_1 : decode (codeOf 103) 1 = .ok (.invokevirtual 50, 3) := by decide +kernel
theorem d_103_4 : decode (codeOf 103) 4 = .ok (.iload_n 1, 1) := by decide +kernel
theorem d_103_5 : decode (codeOf 103) 5 = .ok (.if_icmp .eq 5, 3) := by decide +kernel
theorem d_103_8 : decode (codeOf 103) 8 = .ok (.iconst 0, 1) := by decide +kernel
theorem d_103_9 : decode (codeOf 103) 9 = .ok (.ireturn, 1) := by decide +kernel
theorem d_103_10 : decode (codeOf 103) 10 = .ok (.aload_n 0, 1) := by decide +kernel
theorem d_103_11 : decode (codeOf 103) 11 = .ok (.dup, 1) := by decide +kernel
theorem d_103_12 : decode (codeOf 103) 12 = .ok (.getfield 26, 3) := by decide +kernel
theorem d_103_15 : decode (codeOf 103) 15 = .ok (.iconst 1, 1) := by decide +kernel
theorem d_103_16 : decode (codeOf 103) 16 = .ok (.iadd, 1) := by decide +kernel
theorem d_103_17 : decode (codeOf 103) 17 = .ok (.putfield 26, 3) := by decide +kernel
theorem d_103_20 : decode (codeOf 103) 20 = .ok (.iconst 1, 1) := by decide +kernel
theorem d_103_21 : decode (codeOf 103) 21 = .ok (.ireturn, 1) := by decide +kernel
theorem d_104_0 : decode (codeOf 104) 0 = .ok (.aload_n 0, 1) := by decide +kernel
theorem d_104_1 : decode (codeOf 104) 1 = .ok (.invokespecial 1, 3) := by decide +kernel
theorem d_104_4 : decode (codeOf 104) 4 = .ok (.aload_n 0, 1) := by decide +kernel
theorem d_104_5 : decode (codeOf 104) 5 = .ok (.new 7, 3) := by decide +kernel
theorem d_104_8 : decode (codeOf 104) 8 = .ok (.dup, 1) := by decide +kernel
theorem d_104_9 : decode (codeOf 104) 9 = .ok (.invokespecial 9, 3) := by decide +kernel
theorem d_104_12 : decode (codeOf 104) 12 = .ok (.putfield 10, 3) := by decide +kernel
theorem d_104_15 : decode (codeOf 104) 15 = .ok (.aload_n 0, 1) := by decide +kernel
theorem d_104_16 : decode (codeOf 104) 16 = .ok (.new 16, 3) := by decide +kernel
theorem d_104_19 : decode (codeOf 104) 19 = .ok (.dup, 1) := by decide +kernel
theorem d_104_20 : decode (codeOf 104) 20 = .ok (.invokespecial 18, 3) := by decide +kernel
theorem d_104_23 : decode (codeOf 104) 23 = .ok (.putfield 19, 3) := by decide +kernel
theorem d_104_26 : decode (codeOf 104) 26 = .ok (.aload_n 0, 1) := by decide +kernel
theorem d_104_27 : decode (codeOf 104) 27 = .ok (.new 16, 3) := by decide +kernel
theorem d_104_30 : decode (codeOf 104) 30 = .ok (.dup, 1) := by decide +kernel
theorem d_104_31 : decode (codeOf 104) 31 = .ok (.invokespecial 18, 3) := by decide +kernel
theorem d_104_34 : decode (codeOf 104) 34 = .ok (.putfield 23, 3) := by decide +kernel
theorem d_104_37 : decode (codeOf 104) 37 = .ok (.aload_n 0, 1) := by decide +kernel
theorem d_104_38 : decode (codeOf 104) 38 = .ok (.new 26, 3) := by decide +kernel
theorem d_104_41 : decode (codeOf 104) 41 = .ok (.dup, 1) := by decide +kernel
theorem d_104_42 : decode (codeOf 104) 42 = .ok (.invokespecial 28, 3) := by decide +kernel
theorem d_104_45 : decode (codeOf 104) 45 = .ok (.putfield 29, 3) := by decide +kernel
theorem d_104_48 : decode (codeOf 104) 48 = .ok (.aload_n 0, 1) := by decide +kernel
theorem d_104_49 : decode (codeOf 104) 49 = .ok (.new 33, 3) := by decide +kernel
theorem d_104_52 : decode (codeOf 104) 52 = .ok (.dup, 1) := by decide +kernel
theorem d_104_53 : decode (codeOf 104) 53 = .ok (.invokespecial 35, 3) := by decide +kernel
theorem d_104_56 : decode (codeOf 104) 56 = .ok (.putfield 36, 3) := by decide +kernel
theorem d_104_59 : decode (codeOf 104) 59 = .ok (.aload_n 0, 1) := by decide +kernel
theorem d_104_60 : decode (codeOf 104) 60 = .ok (.new 40, 3) := by decide +kernel
theorem d_104_63 : decode (codeOf 104) 63 = .ok (.dup, 1) := by decide +kernel
theorem d_104_64 : decode (codeOf 104) 64 = .ok (.bipush 8, 2) := by decide +kernel
theorem d_104_66 : decode (codeOf 104) 66 = .ok (.invokespecial 42, 3) := by decide +kernel
theorem d_104_69 : decode (codeOf 104) 69 = .ok (.putfield 45, 3) := by decide +kernel
theorem d_104_72 : decode (codeOf 104) 72 = .ok (.aload_n 0, 1) := by decide +kernel
theorem d_104_73 : decode (codeOf 104) 73 = .ok (.new 40, 3) := by decide +kernel
theorem d_104_76 : decode (codeOf 104) 76 = .ok (.dup, 1) := by decide +kernel
theorem d_104_77 : decode (codeOf 104) 77 = .ok (.iconst 2, 1) := by decide +kernel
theorem d_104_78 : decode (codeOf 104) 78 = .ok (.invokespecial 42, 3) := by decide +kernel
theorem d_104_81 : decode (codeOf 104) 81 = .ok (.putfield 49, 3) := by decide +kernel
theorem d_104_84 : decode (codeOf 104) 84 = .ok (.iconst 0, 1) := by decide +kernel
theorem d_104_85 : decode (codeOf 104) 85 = .ok (.istore_n 1, 1) := by decide +kernel
theorem d_104_86 : decode (codeOf 104) 86 = .ok (.iload_n 1, 1) := by decide +kernel
theorem d_104_87 : decode (codeOf 104) 87 = .ok (.ldc 52, 2) := by decide +kernel
theorem d_104_89 : decode (codeOf 104) 89 = .ok (.invokevirtual 54, 3) := by decide +kernel
theorem d_104_92 : decode (codeOf 104) 92 = .ok (.if_icmp .ge 23, 3) := by decide +kernel
theorem d_104_95 : decode (codeOf 104) 95 = .ok (.aload_n 0, 1) := by decide +kernel
theorem d_104_96 : decode (codeOf 104) 96 = .ok (.getfield 10, 3) := by decide +kernel
theorem d_104_99 : decode (codeOf 104) 99 = .ok (.ldc 52, 2) := by decide +kernel
theorem d_104_101 : decode (codeOf 104) 101 = .ok (.iload_n 1, 1) := by decide +kernel
theorem d_104_102 : decode (codeOf 104) 102 = .ok (.invokevirtual 60, 3) := by decide +kernel
theorem d_104_105 : decode (codeOf 104) 105 = .ok (.invokevirtual 64, 3) := by decide +kernel
theorem d_104_108 : decode (codeOf 104) 108 = .ok (.pop, 1) := by decide +kernel
theorem d_104_109 : decode (codeOf 104) 109 = .ok (.iinc 1 1, 3) := by decide +kernel
theorem d_104_112 : decode (codeOf 104) 112 = .ok (.goto (-26), 3) := by decide +kernel
theorem d_104_115 : decode (codeOf 104) 115 = .ok (.aload_n 0, 1) := by decide +kernel
theorem d_104_116 : decode (codeOf 104) 116 = .ok (.getfield 10, 3) := by decide +kernel
theorem d_104_119 : decode (codeOf 104) 119 = .ok (.invokevirtual 68, 3) := by decide +kernel
theorem d_104_122 : decode (codeOf 104) 122 = .ok (.pop, 1) := by decide +kernel
theorem d_104_123 : decode (codeOf 104) 123 = .ok (.aload_n 0, 1) := by decide +kernel
theorem d_104_124 : decode (codeOf 104) 124 = .ok (.getfield 19, 3) := by decide +kernel
theorem d_104_127 : decode (codeOf 104) 127 = .ok (.aload_n 0, 1) := by decide +kernel
theorem d_104_128 : decode (codeOf 104) 128 = .ok (.getfield 10, 3) := by decide +kernel
theorem d_104_131 : decode (codeOf 104) 131 = .ok (.getfield 71, 3) := by decide +kernel
theorem d_104_134 : decode (codeOf 104) 134 = .ok (.getfield 74, 3) := by decide +kernel
theorem d_104_137 : decode (codeOf 104) 137 = .ok (.invokevirtual 78, 3) := by decide +kernel
theorem d_104_140 : decode (codeOf 104) 140 = .ok (.aload_n 0, 1) := by decide +kernel
theorem d_104_141 : decode (codeOf 104) 141 = .ok (.getfield 10, 3) := by decide +kernel
theorem d_104_144 : decode (codeOf 104) 144 = .ok (.iconst 0, 1) := by decide +kernel
theorem d_104_145 : decode (codeOf 104) 145 = .ok (.putfield 82, 3) := by decide +kernel
theorem d_104_148 : decode (codeOf 104) 148 = .ok (.return_, 1) := by decide +kernel
theorem d_105_0 : decode (codeOf 105) 0 = .ok (.iload_n 1, 1) := by decide +kernel
theorem d_105_1 : decode (codeOf 105) 1 = .ok (.bipush 32, 2) := by decide +kernel
theorem d_105_3 : decode (codeOf 105) 3 = .ok (.if_icmp .lt 9, 3) := by decide +kernel
theorem d_105_6 : decode (codeOf 105) 6 = .ok (.iload_n 1, 1) := by decide +kernel
theorem d_105_7 : decode (codeOf 105) 7 = .ok (.bipush 126, 2) := by decide +kernel
theorem d_105_9 : decode (codeOf 105) 9 = .ok (.if_icmp .le 5, 3) := by decide +kernel
theorem d_105_12 : decode (codeOf 105) 12 = .ok (.iconst (-1), 1) := by decide +kernel
theorem d_105_13 : decode (codeOf 105) 13 = .ok (.ireturn, 1) := by decide +kernel
theorem d_105_14 : decode (codeOf 105) 14 = .ok (.aload_n 0, 1) := by decide +kernel
theorem d_105_15 : decode (codeOf 105) 15 = .ok (.getfield 10, 3) := by decide +kernel
theorem d_105_18 : decode (codeOf 105) 18 = .ok (.iload_n 1, 1) := by decide +kernel
theorem d_105_19 : decode (codeOf 105) 19 = .ok (.invokevirtual 64, 3) := by decide +kernel
theorem d_105_22 : decode (codeOf 105) 22 = .ok (.ifCond .eq 13, 3) := by decide +kernel
theorem d_105_25 : decode (codeOf 105) 25 = .ok (.aload_n 0, 1) := by decide +kernel
theorem d_105_26 : decode (codeOf 105) 26 = .ok (.getfield 10, 3) := by decide +kernel
theorem d_105_29 : decode (codeOf 105) 29 = .ok (.getfield 82, 3) := by decide +kernel
theorem d_105_32 : decode (codeOf 105) 32 = .ok (.goto 5, 3) := by decide +kernel
theorem d_105_35 : decode (codeOf 105) 35 = .ok (.bipush (-3), 2) := by decide +kernel
theorem d_105_37 : decode (codeOf 105) 37 = .ok (.ireturn, 1) := by decide +kernel
theorem d_106_0 : decode (codeOf 106) 0 = .ok (.aload_n 0, 1) := by decide +kernel
theorem d_106_1 : decode (codeOf 106) 1 = .ok (.getfield 10, 3) := by decide +kernel
theorem d_106_4 : decode (codeOf 106) 4 = .ok (.getfield 82, 3) := by decide +kernel
theorem d_106_7 : decode (codeOf 106) 7 = .ok (.istore_n 1, 1) := by decide +kernel
theorem d_106_8 : decode (codeOf 106) 8 = .ok (.aload_n 0, 1) := by decide +kernel
theorem d_106_9 : decode (codeOf 106) 9 = .ok (.getfield 10, 3) := by decide +kernel
theorem d_106_12 : decode (codeOf 106) 12 = .ok (.iconst 0, 1) := by decide +kernel
theorem d_106_13 : decode (codeOf 106) 13 = .ok (.putfield 82, 3) := by decide +kernel
theorem d_106_16 : decode (codeOf 106) 16 = .ok (.iload_n 1, 1) := by decide +kernel
theorem d_106_17 : decode (codeOf 106) 17 = .ok (.ireturn, 1) := by decide +kernel
theorem d_107_0 : decode (codeOf 107) 0 = .ok (.aload_n 0, 1) := by decide +kernel
theorem d_107_1 : decode (codeOf 107) 1 = .ok (.getfield 10, 3) := by decide +kernel
theorem d_107_4 : decode (codeOf 107) 4 = .ok (.invokevirtual 68, 3) := by decide +kernel
theorem d_107_7 : decode (codeOf 107) 7 = .ok (.ireturn, 1) := by decide +kernel
theorem d_108_0 : decode (codeOf 108) 0 = .ok (.aload_n 0, 1) := by decide +kernel
theorem d_108_1 : decode (codeOf 108) 1 = .ok (.getfield 10, 3) := by decide +kernel
theorem d_108_4 : decode (codeOf 108) 4 = .ok (.invokevirtual 68, 3) := by decide +kernel
theorem d_108_7 : decode (codeOf 108) 7 = .ok (.bipush (-4), 2) := by decide +kernel
theorem d_108_9 : decode (codeOf 108) 9 = .ok (.if_icmp .ne 13, 3) := by decide +kernel
theorem d_108_12 : decode (codeOf 108) 12 = .ok (.aload_n 0, 1) := by decide +kernel
theorem d_108_13 : decode (codeOf 108) 13 = .ok (.getfield 10, 3) := by decide +kernel
theorem d_108_16 : decode (codeOf 108) 16 = .ok (.invokevirtual 85, 3) := by decide +kernel
theorem d_108_19 : decode (codeOf 108) 19 = .ok (.ifCond .ne 6, 3) := by decide +kernel
theorem d_108_22 : decode (codeOf 108) 22 = .ok (.bipush (-2), 2) := by decide +kernel
theorem d_108_24 : decode (codeOf 108) 24 = .ok (.ireturn, 1) := by decide +kernel
theorem d_108_25 : decode (codeOf 108) 25 = .ok (.aload_n 0, 1) := by decide +kernel
theorem d_108_26 : decode (codeOf 108) 26 = .ok (.getfield 19, 3) := by decide +kernel
theorem d_108_29 : decode (codeOf 108) 29 = .ok (.aload_n 0, 1) := by decide +kernel
theorem d_108_30 : decode (codeOf 108) 30 = .ok (.getfield 10, 3) := by decide +kernel
theorem d_108_33 : decode (codeOf 108) 33 = .ok (.getfield 71, 3) := by decide +kernel
theorem d_108_36 : decode (codeOf 108) 36 = .ok (.getfield 74, 3) := by decide +kernel
theorem d_108_39 : decode (codeOf 108) 39 = .ok (.invokevirtual 78, 3) := by decide +kernel
theorem d_108_42 : decode (codeOf 108) 42 = .ok (.aload_n 0, 1) := by decide +kernel
theorem d_108_43 : decode (codeOf 108) 43 = .ok (.getfield 45, 3) := by decide +kernel
theorem d_108_46 : decode (codeOf 108) 46 = .ok (.invokevirtual 89, 3) := by decide +kernel
theorem d_108_49 : decode (codeOf 108) 49 = .ok (.aload_n 0, 1) := by decide +kernel
theorem d_108_50 : decode (codeOf 108) 50 = .ok (.getfield 49, 3) := by decide +kernel
theorem d_108_53 : decode (codeOf 108) 53 = .ok (.invokevirtual 89, 3) := by decide +kernel
theorem d_108_56 : decode (codeOf 108) 56 = .ok (.aload_n 0, 1) := by decide +kernel
theorem d_108_57 : decode (codeOf 108) 57 = .ok (.getfield 19, 3) := by decide +kernel
theorem d_108_60 : decode (codeOf 108) 60 = .ok (.invokevirtual 92, 3) := by decide +kernel
theorem d_108_63 : decode (codeOf 108) 63 = .ok (.ireturn, 1) := by decide +kernel
theorem d_109_0 : decode (codeOf 109) 0 = .ok (.aload_n 0, 1) := by decide +kernel
theorem d_109_1 : decode (codeOf 109) 1 = .ok (.getfield 19, 3) := by decide +kernel
theorem d_109_4 : decode (codeOf 109) 4 = .ok (.iload_n 1, 1) := by decide +kernel
theorem d_109_5 : decode (codeOf 109) 5 = .ok (.invokevirtual 95, 3) := by decide +kernel
theorem d_109_8 : decode (codeOf 109) 8 = .ok (.ifCond .eq 20, 3) := by decide +kernel
theorem d_109_11 : decode (codeOf 109) 11 = .ok (.iload_n 2, 1) := by decide +kernel
theorem d_109_12 : decode (codeOf 109) 12 = .ok (.iconst (-1), 1) := by decide +kernel
theorem d_109_13 : decode (codeOf 109) 13 = .ok (.if_icmp .lt 15, 3) := by decide +kernel
theorem d_109_16 : decode (codeOf 109) 16 = .ok (.iload_n 2, 1) := by decide +kernel
theorem d_109_17 : decode (codeOf 109) 17 = .ok (.aload_n 0, 1) := by decide +kernel
theorem d_109_18 : decode (codeOf 109) 18 = .ok (.getfield 19, 3) := by decide +kernel
theorem d_109_21 : decode (codeOf 109) 21 = .ok (.iload_n 1, 1) := by decide +kernel
theorem d_109_22 : decode (codeOf 109) 22 = .ok (.invokevirtual 98, 3) := by decide +kernel
theorem d_109_25 : decode (codeOf 109) 25 = .ok (.if_icmp .lt 5, 3) := by decide +kernel
theorem d_109_28 : decode (codeOf 109) 28 = .ok (.iconst (-1), 1) := by decide +kernel
theorem d_109_29 : decode (codeOf 109) 29 = .ok (.ireturn, 1) := by decide +kernel
theorem d_109_30 : decode (codeOf 109) 30 = .ok (.iload_n 2, 1) := by decide +kernel
theorem d_109_31 : decode (codeOf 109) 31 = .ok (.iconst (-1), 1) := by decide +kernel
theorem d_109_32 : decode (codeOf 109) 32 = .ok (.if_icmp .ne 14, 3) := by decide +kernel
theorem d_109_35 : decode (codeOf 109) 35 = .ok (.aload_n 0, 1) := by decide +kernel
theorem d_109_36 : decode (codeOf 109) 36 = .ok (.getfield 19, 3) := by decide +kernel
theorem d_109_39 : decode (codeOf 109) 39 = .ok (.iload_n 1, 1) := by decide +kernel
theorem d_109_40 : decode (codeOf 109) 40 = .ok (.invokevirtual 98, 3) := by decide +kernel
theorem d_109_43 : decode (codeOf 109) 43 = .ok (.goto 12, 3) := by decide +kernel
theorem d_109_46 : decode (codeOf 109) 46 = .ok (.aload_n 0, 1) := by decide +kernel
theorem d_109_47 : decode (codeOf 109) 47 = .ok (.getfield 19, 3) := by decide +kernel
theorem d_109_50 : decode (codeOf 109) 50 = .ok (.iload_n 1, 1) := by decide +kernel
theorem d_109_51 : decode (codeOf 109) 51 = .ok (.iload_n 2, 1) := by decide +kernel
theorem d_109_52 : decode (codeOf 109) 52 = .ok (.invokevirtual 102, 3) := by decide +kernel
theorem d_109_55 : decode (codeOf 109) 55 = .ok (.ireturn, 1) := by decide +kernel
theorem d_110_0 : decode (codeOf 110) 0 = .ok (.aload_n 0, 1) := by decide +kernel
theorem d_110_1 : decode (codeOf 110) 1 = .ok (.getfield 19, 3) := by decide +kernel
theorem d_110_4 : decode (codeOf 110) 4 = .ok (.iload_n 1, 1) := by decide +kernel
theorem d_110_5 : decode (codeOf 110) 5 = .ok (.invokevirtual 106, 3) := by decide +kernel
theorem d_110_8 : decode (codeOf 110) 8 = .ok (.ifCond .eq 13, 3) := by decide +kernel
theorem d_110_11 : decode (codeOf 110) 11 = .ok (.iload_n 2, 1) := by decide +kernel
theorem d_110_12 : decode (codeOf 110) 12 = .ok (.ifCond .lt 9, 3) := by decide +kernel
theorem d_110_15 : decode (codeOf 110) 15 = .ok (.iload_n 2, 1) := by decide +kernel
theorem d_110_16 : decode (codeOf 110) 16 = .ok (.bipush 9, 2) := by decide +kernel
theorem d_110_18 : decode (codeOf 110) 18 = .ok (.if_icmp .le 5, 3) := by decide +kernel
theorem d_110_21 : decode (codeOf 110) 21 = .ok (.iconst (-1), 1) := by decide +kernel
theorem d_110_22 : decode (codeOf 110) 22 = .ok (.ireturn, 1) := by decide +kernel
theorem d_110_23 : decode (codeOf 110) 23 = .ok (.iload_n 2, 1) := by decide +kernel
theorem d_110_24 : decode (codeOf 110) 24 = .ok (.iconst 5, 1) := by decide +kernel
theorem d_110_25 : decode (codeOf 110) 25 = .ok (.if_icmp .lt 25, 3) := by decide +kernel
theorem d_110_28 : decode (codeOf 110) 28 = .ok (.iload_n 2, 1) := by decide +kernel
theorem d_110_29 : decode (codeOf 110) 29 = .ok (.bipush 7, 2) := by decide +kernel
theorem d_110_31 : decode (codeOf 110) 31 = .ok (.if_icmp .gt 19, 3) := by decide +kernel
theorem d_110_34 : decode (codeOf 110) 34 = .ok (.iload_n 2, 1) := by decide +kernel
theorem d_110_35 : decode (codeOf 110) 35 = .ok (.iconst 5, 1) := by decide +kernel
theorem d_110_36 : decode (codeOf 110) 36 = .ok (.isub, 1) := by decide +kernel
theorem d_110_37 : decode (codeOf 110) 37 = .ok (.aload_n 0, 1) := by decide +kernel
theorem d_110_38 : decode (codeOf 110) 38 = .ok (.getfield 19, 3) := by decide +kernel
theorem d_110_41 : decode (codeOf 110) 41 = .ok (.iload_n 1, 1) := by decide +kernel
theorem d_110_42 : decode (codeOf 110) 42 = .ok (.invokevirtual 109, 3) := by decide +kernel
theorem d_110_45 : decode (codeOf 110) 45 = .ok (.if_icmp .lt 5, 3) := by decide +kernel
theorem d_110_48 : decode (codeOf 110) 48 = .ok (.iconst (-1), 1) := by decide +kernel
theorem d_110_49 : decode (codeOf 110) 49 = .ok (.ireturn, 1) := by decide +kernel
theorem d_110_50 : decode (codeOf 110) 50 = .ok (.aload_n 0, 1) := by decide +kernel
theorem d_110_51 : decode (codeOf 110) 51 = .ok (.getfield 19, 3) := by decide +kernel
theorem d_110_54 : decode (codeOf 110) 54 = .ok (.iload_n 1, 1) := by decide +kernel
theorem d_110_55 : decode (codeOf 110) 55 = .ok (.iload_n 2, 1) := by decide +kernel
theorem d_110_56 : decode (codeOf 110) 56 = .ok (.invokevirtual 112, 3) := by decide +kernel
theorem d_110_59 : decode (codeOf 110) 59 = .ok (.ireturn, 1) := by decide +kernel
theorem d_111_0 : decode (codeOf 111) 0 = .ok (.aload_n 0, 1) := by decide +kernel
theorem d_111_1 : decode (codeOf 111) 1 = .ok (.getfield 19, 3) := by decide +kernel
theorem d_111_4 : decode (codeOf 111) 4 = .ok (.iload_n 1, 1) := by decide +kernel
theorem d_111_5 : decode (codeOf 111) 5 = .ok (.iload_n 2, 1) := by decide +kernel
theorem d_111_6 : decode (codeOf 111) 6 = .ok (.invokevirtual 115, 3) := by decide +kernel
theorem d_111_9 : decode (codeOf 111) 9 = .ok (.ifCond .eq 12, 3) := by decide +kernel
theorem d_111_12 : decode (codeOf 111) 12 = .ok (.iload_n 3, 1) := by decide +kernel
theorem d_111_13 : decode (codeOf 111) 13 = .ok (.ifCond .lt 8, 3) := by decide +kernel
theorem d_111_16 : decode (codeOf 111) 16 = .ok (.iload_n 3, 1) := by decide +kernel
theorem d_111_17 : decode (codeOf 111) 17 = .ok (.iconst 4, 1) := by decide +kernel
theorem d_111_18 : decode (codeOf 111) 18 = .ok (.if_icmp .lt 5, 3) := by decide +kernel
theorem d_111_21 : decode (codeOf 111) 21 = .ok (.iconst (-1), 1) := by decide +kernel
theorem d_111_22 : decode (codeOf 111) 22 = .ok (.ireturn, 1) := by decide +kernel
theorem d_111_23 : decode (codeOf 111) 23 = .ok (.aload_n 0, 1) := by decide +kernel
theorem d_111_24 : decode (codeOf 111) 24 = .ok (.getfield 19, 3) := by decide +kernel
theorem d_111_27 : decode (codeOf 111) 27 = .ok (.iload_n 1, 1) := by decide +kernel
theorem d_111_28 : decode (codeOf 111) 28 = .ok (.iload_n 2, 1) := by decide +kernel
theorem d_111_29 : decode (codeOf 111) 29 = .ok (.iload_n 3, 1) := by decide +kernel
theorem d_111_30 : decode (codeOf 111) 30 = .ok (.invokevirtual 119, 3) := by decide +kernel
theorem d_111_33 : decode (codeOf 111) 33 = .ok (.ireturn, 1) := by decide +kernel
theorem d_112_0 : decode (codeOf 112) 0 = .ok (.aload_n 0, 1) := by decide +kernel
theorem d_112_1 : decode (codeOf 112) 1 = .ok (.getfield 19, 3) := by decide +kernel
theorem d_112_4 : decode (codeOf 112) 4 = .ok (.iload_n 1, 1) := by decide +kernel
theorem d_112_5 : decode (codeOf 112) 5 = .ok (.iload_n 2, 1) := by decide +kernel
theorem d_112_6 : decode (codeOf 112) 6 = .ok (.invokevirtual 115, 3) := by decide +kernel
theorem d_112_9 : decode (codeOf 112) 9 = .ok (.ifCond .eq 20, 3) := by decide +kernel
theorem d_112_12 : decode (codeOf 112) 12 = .ok (.aload_n 0, 1) := by decide +kernel
theorem d_112_13 : decode (codeOf 112) 13 = .ok (.getfield 19, 3) := by decide +kernel
theorem d_112_16 : decode (codeOf 112) 16 = .ok (.iload_n 3, 1) := by decide +kernel
theorem d_112_17 : decode (codeOf 112) 17 = .ok (.iload 4, 2) := by decide +kernel
theorem d_112_19 : decode (codeOf 112) 19 = .ok (.iload 5, 2) := by decide +kernel
theorem d_112_21 : decode (codeOf 112) 21 = .ok (.iload 6, 2) := by decide +kernel
theorem d_112_23 : decode (codeOf 112) 23 = .ok (.invokevirtual 123, 3) := by decide +kernel
theorem d_112_26 : decode (codeOf 112) 26 = .ok (.ifCond .ne 5, 3) := by decide +kernel
theorem d_112_29 : decode (codeOf 112) 29 = .ok (.iconst (-1), 1) := by decide +kernel
theorem d_112_30 : decode (codeOf 112) 30 = .ok (.ireturn, 1) := by decide +kernel
theorem d_112_31 : decode (codeOf 112) 31 = .ok (.aload_n 0, 1) := by decide +kernel
theorem d_112_32 : decode (codeOf 112) 32 = .ok (.getfield 19, 3) := by decide +kernel
theorem d_112_35 : decode (codeOf 112) 35 = .ok (.iload_n 1, 1) := by decide +kernel
theorem d_112_36 : decode (codeOf 112) 36 = .ok (.iload_n 2, 1) := by decide +kernel
theorem d_112_37 : decode (codeOf 112) 37 = .ok (.iconst 0, 1) := by decide +kernel
theorem d_112_38 : decode (codeOf 112) 38 = .ok (.invokevirtual 119, 3) := by decide +kernel
theorem d_112_41 : decode (codeOf 112) 41 = .ok (.istore 7, 2) := by decide +kernel
theorem d_112_43 : decode (codeOf 112) 43 = .ok (.iload 7, 2) := by decide +kernel
theorem d_112_45 : decode (codeOf 112) 45 = .ok (.iload_n 3, 1) := by decide +kernel
theorem d_112_46 : decode (codeOf 112) 46 = .ok (.if_icmp .ne 51, 3) := by decide +kernel
theorem d_112_49 : decode (codeOf 112) 49 = .ok (.aload_n 0, 1) := by decide +kernel
theorem d_112_50 : decode (codeOf 112) 50 = .ok (.getfield 19, 3) := by decide +kernel
theorem d_112_53 : decode (codeOf 112) 53 = .ok (.iload_n 1, 1) := by decide +kernel
theorem d_112_54 : decode (codeOf 112) 54 = .ok (.iload_n 2, 1) := by decide +kernel
theorem d_112_55 : decode (codeOf 112) 55 = .ok (.iconst 1, 1) := by decide +kernel
theorem d_112_56 : decode (codeOf 112) 56 = .ok (.invokevirtual 119, 3) := by decide +kernel
theorem d_112_59 : decode (codeOf 112) 59 = .ok (.iload 4, 2) := by decide +kernel
theorem d_112_61 : decode (codeOf 112) 61 = .ok (.if_icmp .ne 36, 3) := by decide +kernel
theorem d_112_64 : decode (codeOf 112) 64 = .ok (.aload_n 0, 1) := by decide +kernel
theorem d_112_65 : decode (codeOf 112) 65 = .ok (.getfield 19, 3) := by decide +kernel
theorem d_112_68 : decode (codeOf 112) 68 = .ok (.iload_n 1, 1) := by decide +kernel
theorem d_112_69 : decode (codeOf 112) 69 = .ok (.iload_n 2, 1) := by decide +kernel
theorem d_112_70 : decode (codeOf 112) 70 = .ok (.iconst 2, 1) := by decide +kernel
theorem d_112_71 : decode (codeOf 112) 71 = .ok (.invokevirtual 119, 3) := by decide +kernel
theorem d_112_74 : decode (codeOf 112) 74 = .ok (.iload 5, 2) := by decide +kernel
theorem d_112_76 : decode (codeOf 112) 76 = .ok (.if_icmp .ne 21, 3) := by decide +kernel
theorem d_112_79 : decode (codeOf 112) 79 = .ok (.aload_n 0, 1) := by decide +kernel
theorem d_112_80 : decode (codeOf 112) 80 = .ok (.getfield 19, 3) := by decide +kernel
theorem d_112_83 : decode (codeOf 112) 83 = .ok (.iload_n 1, 1) := by decide +kernel
theorem d_112_84 : decode (codeOf 112) 84 = .ok (.iload_n 2, 1) := by decide +kernel
theorem d_112_85 : decode (codeOf 112) 85 = .ok (.iconst 3, 1) := by decide +kernel
theorem d_112_86 : decode (codeOf 112) 86 = .ok (.invokevirtual 119, 3) := by decide +kernel
theorem d_112_89 : decode (codeOf 112) 89 = .ok (.iload 6, 2) := by decide +kernel
theorem d_112_91 : decode (codeOf 112) 91 = .ok (.if_icmp .ne 6, 3) := by decide +kernel
theorem d_112_94 : decode (codeOf 112) 94 = .ok (.bipush (-2), 2) := by decide +kernel
theorem d_112_96 : decode (codeOf 112) 96 = .ok (.ireturn, 1) := by decide +kernel
theorem d_112_97 : decode (codeOf 112) 97 = .ok (.aload_n 0, 1) := by decide +kernel
theorem d_112_98 : decode (codeOf 112) 98 = .ok (.getfield 45, 3) := by decide +kernel
theorem d_112_101 : decode (codeOf 112) 101 = .ok (.aload_n 0, 1) := by decide +kernel
theorem d_112_102 : decode (codeOf 112) 102 = .ok (.getfield 19, 3) := by decide +kernel
theorem d_112_105 : decode (codeOf 112) 105 = .ok (.getfield 74, 3) := by decide +kernel
theorem d_112_108 : decode (codeOf 112) 108 = .ok (.invokevirtual 127, 3) := by decide +kernel
theorem d_112_111 : decode (codeOf 112) 111 = .ok (.aload_n 0, 1) := by decide +kernel
theorem d_112_112 : decode (codeOf 112) 112 = .ok (.getfield 19, 3) := by decide +kernel
theorem d_112_115 : decode (codeOf 112) 115 = .ok (.iload_n 1, 1) := by decide +kernel
theorem d_112_116 : decode (codeOf 112) 116 = .ok (.iload_n 2, 1) := by decide +kernel
theorem d_112_117 : decode (codeOf 112) 117 = .ok (.iload_n 3, 1) := by decide +kernel
theorem d_112_118 : decode (codeOf 112) 118 = .ok (.iload 4, 2) := by decide +kernel
theorem d_112_120 : decode (codeOf 112) 120 = .ok (.iload 5, 2) := by decide +kernel
theorem d_112_122 : decode (codeOf 112) 122 = .ok (.iload 6, 2) := by decide +kernel
theorem d_112_124 : decode (codeOf 112) 124 = .ok (.invokevirtual 130, 3) := by decide +kernel
theorem d_112_127 : decode (codeOf 112) 127 = .ok (.iload 7, 2) := by decide +kernel
theorem d_112_129 : decode (codeOf 112) 129 = .ok (.ireturn, 1) := by decide +kernel
theorem d_113_0 : decode (codeOf 113) 0 = .ok (.aload_n 0, 1) := by decide +kernel
theorem d_113_1 : decode (codeOf 113) 1 = .ok (.getfield 19, 3) := by decide +kernel
theorem d_113_4 : decode (codeOf 113) 4 = .ok (.iload_n 1, 1) := by decide +kernel
theorem d_113_5 : decode (codeOf 113) 5 = .ok (.invokevirtual 106, 3) := by decide +kernel
theorem d_113_8 : decode (codeOf 113) 8 = .ok (.ifCond .eq 36, 3) := by decide +kernel
theorem d_113_11 : decode (codeOf 113) 11 = .ok (.iload_n 2, 1) := by decide +kernel
theorem d_113_12 : decode (codeOf 113) 12 = .ok (.ifCond .lt 32, 3) := by decide +kernel
theorem d_113_15 : decode (codeOf 113) 15 = .ok (.iload_n 2, 1) := by decide +kernel
theorem d_113_16 : decode (codeOf 113) 16 = .ok (.aload_n 0, 1) := by decide +kernel
theorem d_113_17 : decode (codeOf 113) 17 = .ok (.getfield 19, 3) := by decide +kernel
theorem d_113_20 : decode (codeOf 113) 20 = .ok (.iload_n 1, 1) := by decide +kernel
theorem d_113_21 : decode (codeOf 113) 21 = .ok (.invokevirtual 134, 3) := by decide +kernel
theorem d_113_24 : decode (codeOf 113) 24 = .ok (.if_icmp .gt 20, 3) := by decide +kernel
theorem d_113_27 : decode (codeOf 113) 27 = .ok (.aload_n 0, 1) := by decide +kernel
theorem d_113_28 : decode (codeOf 113) 28 = .ok (.getfield 19, 3) := by decide +kernel
theorem d_113_31 : decode (codeOf 113) 31 = .ok (.iload_n 3, 1) := by decide +kernel
theorem d_113_32 : decode (codeOf 113) 32 = .ok (.iload 4, 2) := by decide +kernel
theorem d_113_34 : decode (codeOf 113) 34 = .ok (.iload 5, 2) := by decide +kernel
theorem d_113_36 : decode (codeOf 113) 36 = .ok (.iload 6, 2) := by decide +kernel
theorem d_113_38 : decode (codeOf 113) 38 = .ok (.invokevirtual 123, 3) := by decide +kernel
theorem d_113_41 : decode (codeOf 113) 41 = .ok (.ifCond .ne 5, 3) := by decide +kernel
theorem d_113_44 : decode (codeOf 113) 44 = .ok (.iconst (-1), 1) := by decide +kernel
theorem d_113_45 : decode (codeOf 113) 45 = .ok (.ireturn, 1) := by decide +kernel
theorem d_113_46 : decode (codeOf 113) 46 = .ok (.aload_n 0, 1) := by decide +kernel
theorem d_113_47 : decode (codeOf 113) 47 = .ok (.getfield 19, 3) := by decide +kernel
theorem d_113_50 : decode (codeOf 113) 50 = .ok (.iload_n 1, 1) := by decide +kernel
theorem d_113_51 : decode (codeOf 113) 51 = .ok (.invokevirtual 134, 3) := by decide +kernel
theorem d_113_54 : decode (codeOf 113) 54 = .ok (.bipush 6, 2) := by decide +kernel
theorem d_113_56 : decode (codeOf 113) 56 = .ok (.if_icmp .lt 6, 3) := by decide +kernel
theorem d_113_59 : decode (codeOf 113) 59 = .ok (.bipush (-3), 2) := by decide +kernel
theorem d_113_61 : decode (codeOf 113) 61 = .ok (.ireturn, 1) := by decide +kernel
theorem d_113_62 : decode (codeOf 113) 62 = .ok (.aload_n 0, 1) := by decide +kernel
theorem d_113_63 : decode (codeOf 113) 63 = .ok (.getfield 45, 3) := by decide +kernel
theorem d_113_66 : decode (codeOf 113) 66 = .ok (.aload_n 0, 1) := by decide +kernel
theorem d_113_67 : decode (codeOf 113) 67 = .ok (.getfield 19, 3) := by decide +kernel
