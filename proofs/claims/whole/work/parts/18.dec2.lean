theorem d_113_70 : decode (codeOf 113) 70 = .ok (.getfield 74, 3) := by decide +kernel
theorem d_113_73 : decode (codeOf 113) 73 = .ok (.invokevirtual 127, 3) := by decide +kernel
theorem d_113_76 : decode (codeOf 113) 76 = .ok (.aload_n 0, 1) := by decide +kernel
theorem d_113_77 : decode (codeOf 113) 77 = .ok (.getfield 19, 3) := by decide +kernel
theorem d_113_80 : decode (codeOf 113) 80 = .ok (.iload_n 1, 1) := by decide +kernel
theorem d_113_81 : decode (codeOf 113) 81 = .ok (.iload_n 2, 1) := by decide +kernel
theorem d_113_82 : decode (codeOf 113) 82 = .ok (.invokevirtual 137, 3) := by decide +kernel
theorem d_113_85 : decode (codeOf 113) 85 = .ok (.aload_n 0, 1) := by decide +kernel
theorem d_113_86 : decode (codeOf 113) 86 = .ok (.getfield 19, 3) := by decide +kernel
theorem d_113_89 : decode (codeOf 113) 89 = .ok (.iload_n 1, 1) := by decide +kernel
theorem d_113_90 : decode (codeOf 113) 90 = .ok (.iload_n 2, 1) := by decide +kernel
theorem d_113_91 : decode (codeOf 113) 91 = .ok (.iload_n 3, 1) := by decide +kernel
theorem d_113_92 : decode (codeOf 113) 92 = .ok (.iload 4, 2) := by decide +kernel
theorem d_113_94 : decode (codeOf 113) 94 = .ok (.iload 5, 2) := by decide +kernel
theorem d_113_96 : decode (codeOf 113) 96 = .ok (.iload 6, 2) := by decide +kernel
theorem d_113_98 : decode (codeOf 113) 98 = .ok (.invokevirtual 130, 3) := by decide +kernel
theorem d_113_101 : decode (codeOf 113) 101 = .ok (.aload_n 0, 1) := by decide +kernel
theorem d_113_102 : decode (codeOf 113) 102 = .ok (.getfield 19, 3) := by decide +kernel
theorem d_113_105 : decode (codeOf 113) 105 = .ok (.iload_n 1, 1) := by decide +kernel
theorem d_113_106 : decode (codeOf 113) 106 = .ok (.invokevirtual 134, 3) := by decide +kernel
theorem d_113_109 : decode (codeOf 113) 109 = .ok (.ireturn, 1) := by decide +kernel
theorem d_114_0 : decode (codeOf 114) 0 = .ok (.aload_n 0, 1) := by decide +kernel
theorem d_114_1 : decode (codeOf 114) 1 = .ok (.getfield 19, 3) := by decide +kernel
theorem d_114_4 : decode (codeOf 114) 4 = .ok (.iload_n 1, 1) := by decide +kernel
theorem d_114_5 : decode (codeOf 114) 5 = .ok (.iload_n 2, 1) := by decide +kernel
theorem d_114_6 : decode (codeOf 114) 6 = .ok (.invokevirtual 115, 3) := by decide +kernel
theorem d_114_9 : decode (codeOf 114) 9 = .ok (.ifCond .ne 5, 3) := by decide +kernel
theorem d_114_12 : decode (codeOf 114) 12 = .ok (.iconst (-1), 1) := by decide +kernel
theorem d_114_13 : decode (codeOf 114) 13 = .ok (.ireturn, 1) := by decide +kernel
theorem d_114_14 : decode (codeOf 114) 14 = .ok (.aload_n 0, 1) := by decide +kernel
theorem d_114_15 : decode (codeOf 114) 15 = .ok (.getfield 45, 3) := by decide +kernel
theorem d_114_18 : decode (codeOf 114) 18 = .ok (.aload_n 0, 1) := by decide +kernel
theorem d_114_19 : decode (codeOf 114) 19 = .ok (.getfield 19, 3) := by decide +kernel
theorem d_114_22 : decode (codeOf 114) 22 = .ok (.getfield 74, 3) := by decide +kernel
theorem d_114_25 : decode (codeOf 114) 25 = .ok (.invokevirtual 127, 3) := by decide +kernel
theorem d_114_28 : decode (codeOf 114) 28 = .ok (.aload_n 0, 1) := by decide +kernel
theorem d_114_29 : decode (codeOf 114) 29 = .ok (.getfield 19, 3) := by decide +kernel
theorem d_114_32 : decode (codeOf 114) 32 = .ok (.iload_n 1, 1) := by decide +kernel
theorem d_114_33 : decode (codeOf 114) 33 = .ok (.iload_n 2, 1) := by decide +kernel
theorem d_114_34 : decode (codeOf 114) 34 = .ok (.invokevirtual 141, 3) := by decide +kernel
theorem d_114_37 : decode (codeOf 114) 37 = .ok (.aload_n 0, 1) := by decide +kernel
theorem d_114_38 : decode (codeOf 114) 38 = .ok (.getfield 19, 3) := by decide +kernel
theorem d_114_41 : decode (codeOf 114) 41 = .ok (.iload_n 1, 1) := by decide +kernel
theorem d_114_42 : decode (codeOf 114) 42 = .ok (.invokevirtual 134, 3) := by decide +kernel
theorem d_114_45 : decode (codeOf 114) 45 = .ok (.ireturn, 1) := by decide +kernel
theorem d_115_0 : decode (codeOf 115) 0 = .ok (.aload_n 0, 1) := by decide +kernel
theorem d_115_1 : decode (codeOf 115) 1 = .ok (.getfield 19, 3) := by decide +kernel
theorem d_115_4 : decode (codeOf 115) 4 = .ok (.iload_n 1, 1) := by decide +kernel
theorem d_115_5 : decode (codeOf 115) 5 = .ok (.invokevirtual 106, 3) := by decide +kernel
theorem d_115_8 : decode (codeOf 115) 8 = .ok (.ifCond .eq 23, 3) := by decide +kernel
theorem d_115_11 : decode (codeOf 115) 11 = .ok (.iload_n 2, 1) := by decide +kernel
theorem d_115_12 : decode (codeOf 115) 12 = .ok (.ifCond .lt 19, 3) := by decide +kernel
theorem d_115_15 : decode (codeOf 115) 15 = .ok (.iload_n 2, 1) := by decide +kernel
theorem d_115_16 : decode (codeOf 115) 16 = .ok (.iconst 4, 1) := by decide +kernel
theorem d_115_17 : decode (codeOf 115) 17 = .ok (.if_icmp .ge 14, 3) := by decide +kernel
theorem d_115_20 : decode (codeOf 115) 20 = .ok (.aload_n 0, 1) := by decide +kernel
theorem d_115_21 : decode (codeOf 115) 21 = .ok (.getfield 19, 3) := by decide +kernel
theorem d_115_24 : decode (codeOf 115) 24 = .ok (.iload_n 3, 1) := by decide +kernel
theorem d_115_25 : decode (codeOf 115) 25 = .ok (.invokevirtual 144, 3) := by decide +kernel
theorem d_115_28 : decode (codeOf 115) 28 = .ok (.ifCond .ne 5, 3) := by decide +kernel
theorem d_115_31 : decode (codeOf 115) 31 = .ok (.iconst (-1), 1) := by decide +kernel
theorem d_115_32 : decode (codeOf 115) 32 = .ok (.ireturn, 1) := by decide +kernel
theorem d_115_33 : decode (codeOf 115) 33 = .ok (.aload_n 0, 1) := by decide +kernel
theorem d_115_34 : decode (codeOf 115) 34 = .ok (.getfield 19, 3) := by decide +kernel
theorem d_115_37 : decode (codeOf 115) 37 = .ok (.iload_n 1, 1) := by decide +kernel
theorem d_115_38 : decode (codeOf 115) 38 = .ok (.iload_n 2, 1) := by decide +kernel
theorem d_115_39 : decode (codeOf 115) 39 = .ok (.invokevirtual 147, 3) := by decide +kernel
theorem d_115_42 : decode (codeOf 115) 42 = .ok (.istore 4, 2) := by decide +kernel
theorem d_115_44 : decode (codeOf 115) 44 = .ok (.iload 4, 2) := by decide +kernel
theorem d_115_46 : decode (codeOf 115) 46 = .ok (.iload_n 3, 1) := by decide +kernel
theorem d_115_47 : decode (codeOf 115) 47 = .ok (.if_icmp .ne 6, 3) := by decide +kernel
theorem d_115_50 : decode (codeOf 115) 50 = .ok (.bipush (-2), 2) := by decide +kernel
theorem d_115_52 : decode (codeOf 115) 52 = .ok (.ireturn, 1) := by decide +kernel
theorem d_115_53 : decode (codeOf 115) 53 = .ok (.aload_n 0, 1) := by decide +kernel
theorem d_115_54 : decode (codeOf 115) 54 = .ok (.getfield 45, 3) := by decide +kernel
theorem d_115_57 : decode (codeOf 115) 57 = .ok (.aload_n 0, 1) := by decide +kernel
theorem d_115_58 : decode (codeOf 115) 58 = .ok (.getfield 19, 3) := by decide +kernel
theorem d_115_61 : decode (codeOf 115) 61 = .ok (.getfield 74, 3) := by decide +kernel
theorem d_115_64 : decode (codeOf 115) 64 = .ok (.invokevirtual 127, 3) := by decide +kernel
theorem d_115_67 : decode (codeOf 115) 67 = .ok (.aload_n 0, 1) := by decide +kernel
theorem d_115_68 : decode (codeOf 115) 68 = .ok (.getfield 19, 3) := by decide +kernel
theorem d_115_71 : decode (codeOf 115) 71 = .ok (.iload_n 1, 1) := by decide +kernel
theorem d_115_72 : decode (codeOf 115) 72 = .ok (.iload_n 2, 1) := by decide +kernel
theorem d_115_73 : decode (codeOf 115) 73 = .ok (.iload_n 3, 1) := by decide +kernel
theorem d_115_74 : decode (codeOf 115) 74 = .ok (.invokevirtual 150, 3) := by decide +kernel
theorem d_115_77 : decode (codeOf 115) 77 = .ok (.iload 4, 2) := by decide +kernel
theorem d_115_79 : decode (codeOf 115) 79 = .ok (.ireturn, 1) := by decide +kernel
theorem d_116_0 : decode (codeOf 116) 0 = .ok (.aload_n 0, 1) := by decide +kernel
theorem d_116_1 : decode (codeOf 116) 1 = .ok (.getfield 19, 3) := by decide +kernel
theorem d_116_4 : decode (codeOf 116) 4 = .ok (.iload_n 1, 1) := by decide +kernel
theorem d_116_5 : decode (codeOf 116) 5 = .ok (.invokevirtual 106, 3) := by decide +kernel
theorem d_116_8 : decode (codeOf 116) 8 = .ok (.ifCond .eq 12, 3) := by decide +kernel
theorem d_116_11 : decode (codeOf 116) 11 = .ok (.iload_n 2, 1) := by decide +kernel
theorem d_116_12 : decode (codeOf 116) 12 = .ok (.ifCond .lt 8, 3) := by decide +kernel
theorem d_116_15 : decode (codeOf 116) 15 = .ok (.iload_n 2, 1) := by decide +kernel
theorem d_116_16 : decode (codeOf 116) 16 = .ok (.iconst 1, 1) := by decide +kernel
theorem d_116_17 : decode (codeOf 116) 17 = .ok (.if_icmp .le 5, 3) := by decide +kernel
theorem d_116_20 : decode (codeOf 116) 20 = .ok (.iconst (-1), 1) := by decide +kernel
theorem d_116_21 : decode (codeOf 116) 21 = .ok (.ireturn, 1) := by decide +kernel
theorem d_116_22 : decode (codeOf 116) 22 = .ok (.aload_n 0, 1) := by decide +kernel
theorem d_116_23 : decode (codeOf 116) 23 = .ok (.getfield 19, 3) := by decide +kernel
theorem d_116_26 : decode (codeOf 116) 26 = .ok (.iload_n 1, 1) := by decide +kernel
theorem d_116_27 : decode (codeOf 116) 27 = .ok (.invokevirtual 154, 3) := by decide +kernel
theorem d_116_30 : decode (codeOf 116) 30 = .ok (.iload_n 2, 1) := by decide +kernel
theorem d_116_31 : decode (codeOf 116) 31 = .ok (.if_icmp .ne 6, 3) := by decide +kernel
theorem d_116_34 : decode (codeOf 116) 34 = .ok (.bipush (-2), 2) := by decide +kernel
theorem d_116_36 : decode (codeOf 116) 36 = .ok (.ireturn, 1) := by decide +kernel
theorem d_116_37 : decode (codeOf 116) 37 = .ok (.aload_n 0, 1) := by decide +kernel
theorem d_116_38 : decode (codeOf 116) 38 = .ok (.getfield 45, 3) := by decide +kernel
theorem d_116_41 : decode (codeOf 116) 41 = .ok (.aload_n 0, 1) := by decide +kernel
theorem d_116_42 : decode (codeOf 116) 42 = .ok (.getfield 19, 3) := by decide +kernel
theorem d_116_45 : decode (codeOf 116) 45 = .ok (.getfield 74, 3) := by decide +kernel
theorem d_116_48 : decode (codeOf 116) 48 = .ok (.invokevirtual 127, 3) := by decide +kernel
theorem d_116_51 : decode (codeOf 116) 51 = .ok (.aload_n 0, 1) := by decide +kernel
theorem d_116_52 : decode (codeOf 116) 52 = .ok (.getfield 19, 3) := by decide +kernel
theorem d_116_55 : decode (codeOf 116) 55 = .ok (.iload_n 1, 1) := by decide +kernel
theorem d_116_56 : decode (codeOf 116) 56 = .ok (.iload_n 2, 1) := by decide +kernel
theorem d_116_57 : decode (codeOf 116) 57 = .ok (.invokevirtual 157, 3) := by decide +kernel
theorem d_116_60 : decode (codeOf 116) 60 = .ok (.iconst 1, 1) := by decide +kernel
theorem d_116_61 : decode (codeOf 116) 61 = .ok (.ireturn, 1) := by decide +kernel
theorem d_117_0 : decode (codeOf 117) 0 = .ok (.aload_n 0, 1) := by decide +kernel
theorem d_117_1 : decode (codeOf 117) 1 = .ok (.getfield 45, 3) := by decide +kernel
theorem d_117_4 : decode (codeOf 117) 4 = .ok (.getfield 160, 3) := by decide +kernel
theorem d_117_7 : decode (codeOf 117) 7 = .ok (.ifCond .ne 6, 3) := by decide +kernel
theorem d_117_10 : decode (codeOf 117) 10 = .ok (.bipush (-2), 2) := by decide +kernel
theorem d_117_12 : decode (codeOf 117) 12 = .ok (.ireturn, 1) := by decide +kernel
theorem d_117_13 : decode (codeOf 117) 13 = .ok (.aload_n 0, 1) := by decide +kernel
theorem d_117_14 : decode (codeOf 117) 14 = .ok (.getfield 45, 3) := by decide +kernel
theorem d_117_17 : decode (codeOf 117) 17 = .ok (.aload_n 0, 1) := by decide +kernel
theorem d_117_18 : decode (codeOf 117) 18 = .ok (.getfield 19, 3) := by decide +kernel
theorem d_117_21 : decode (codeOf 117) 21 = .ok (.invokevirtual 163, 3) := by decide +kernel
theorem d_117_24 : decode (codeOf 117) 24 = .ok (.aload_n 0, 1) := by decide +kernel
theorem d_117_25 : decode (codeOf 117) 25 = .ok (.getfield 45, 3) := by decide +kernel
theorem d_117_28 : decode (codeOf 117) 28 = .ok (.getfield 160, 3) := by decide +kernel
theorem d_117_31 : decode (codeOf 117) 31 = .ok (.ireturn, 1) := by decide +kernel
theorem d_118_0 : decode (codeOf 118) 0 = .ok (.aload_n 0, 1) := by decide +kernel
theorem d_118_1 : decode (codeOf 118) 1 = .ok (.getfield 19, 3) := by decide +kernel
theorem d_118_4 : decode (codeOf 118) 4 = .ok (.iload_n 1, 1) := by decide +kernel
theorem d_118_5 : decode (codeOf 118) 5 = .ok (.invokevirtual 106, 3) := by decide +kernel
theorem d_118_8 : decode (codeOf 118) 8 = .ok (.ifCond .ne 5, 3) := by decide +kernel
theorem d_118_11 : decode (codeOf 118) 11 = .ok (.iconst (-1), 1) := by decide +kernel
theorem d_118_12 : decode (codeOf 118) 12 = .ok (.ireturn, 1) := by decide +kernel
theorem d_118_13 : decode (codeOf 118) 13 = .ok (.aload_n 0, 1) := by decide +kernel
theorem d_118_14 : decode (codeOf 118) 14 = .ok (.getfield 29, 3) := by decide +kernel
theorem d_118_17 : decode (codeOf 118) 17 = .ok (.aload_n 0, 1) := by decide +kernel
theorem d_118_18 : decode (codeOf 118) 18 = .ok (.getfield 19, 3) := by decide +kernel
theorem d_118_21 : decode (codeOf 118) 21 = .ok (.invokevirtual 167, 3) := by decide +kernel
theorem d_118_24 : decode (codeOf 118) 24 = .ok (.aload_n 0, 1) := by decide +kernel
theorem d_118_25 : decode (codeOf 118) 25 = .ok (.getfield 29, 3) := by decide +kernel
theorem d_118_28 : decode (codeOf 118) 28 = .ok (.iload_n 1, 1) := by decide +kernel
theorem d_118_29 : decode (codeOf 118) 29 = .ok (.invokevirtual 170, 3) := by decide +kernel
theorem d_118_32 : decode (codeOf 118) 32 = .ok (.ifCond .eq 8, 3) := by decide +kernel
theorem d_118_35 : decode (codeOf 118) 35 = .ok (.bipush (-4), 2) := by decide +kernel
theorem d_118_37 : decode (codeOf 118) 37 = .ok (.goto 10, 3) := by decide +kernel
theorem d_118_40 : decode (codeOf 118) 40 = .ok (.aload_n 0, 1) := by decide +kernel
theorem d_118_41 : decode (codeOf 118) 41 = .ok (.getfield 29, 3) := by decide +kernel
theorem d_118_44 : decode (codeOf 118) 44 = .ok (.getfield 173, 3) := by decide +kernel
theorem d_118_47 : decode (codeOf 118) 47 = .ok (.ireturn, 1) := by decide +kernel
theorem d_119_0 : decode (codeOf 119) 0 = .ok (.aload_n 0, 1) := by decide +kernel
theorem d_119_1 : decode (codeOf 119) 1 = .ok (.getfield 19, 3) := by decide +kernel
theorem d_119_4 : decode (codeOf 119) 4 = .ok (.iload_n 1, 1) := by decide +kernel
theorem d_119_5 : decode (codeOf 119) 5 = .ok (.invokevirtual 106, 3) := by decide +kernel
theorem d_119_8 : decode (codeOf 119) 8 = .ok (.ifCond .ne 5, 3) := by decide +kernel
theorem d_119_11 : decode (codeOf 119) 11 = .ok (.iconst (-1), 1) := by decide +kernel
theorem d_119_12 : decode (codeOf 119) 12 = .ok (.ireturn, 1) := by decide +kernel
theorem d_119_13 : decode (codeOf 119) 13 = .ok (.aload_n 0, 1) := by decide +kernel
theorem d_119_14 : decode (codeOf 119) 14 = .ok (.getfield 29, 3) := by decide +kernel
theorem d_119_17 : decode (codeOf 119) 17 = .ok (.aload_n 0, 1) := by decide +kernel
theorem d_119_18 : decode (codeOf 119) 18 = .ok (.getfield 19, 3) := by decide +kernel
theorem d_119_21 : decode (codeOf 119) 21 = .ok (.invokevirtual 167, 3) := by decide +kernel
theorem d_119_24 : decode (codeOf 119) 24 = .ok (.aload_n 0, 1) := by decide +kernel
theorem d_119_25 : decode (codeOf 119) 25 = .ok (.getfield 29, 3) := by decide +kernel
theorem d_119_28 : decode (codeOf 119) 28 = .ok (.iload_n 1, 1) := by decide +kernel
theorem d_119_29 : decode (codeOf 119) 29 = .ok (.invokevirtual 170, 3) := by decide +kernel
theorem d_119_32 : decode (codeOf 119) 32 = .ok (.ifCond .eq 8, 3) := by decide +kernel
theorem d_119_35 : decode (codeOf 119) 35 = .ok (.bipush (-4), 2) := by decide +kernel
theorem d_119_37 : decode (codeOf 119) 37 = .ok (.goto 10, 3) := by decide +kernel
theorem d_119_40 : decode (codeOf 119) 40 = .ok (.aload_n 0, 1) := by decide +kernel
theorem d_119_41 : decode (codeOf 119) 41 = .ok (.getfield 29, 3) := by decide +kernel
theorem d_119_44 : decode (codeOf 119) 44 = .ok (.getfield 176, 3) := by decide +kernel
theorem d_119_47 : decode (codeOf 119) 47 = .ok (.ireturn, 1) := by decide +kernel
theorem d_120_0 : decode (codeOf 120) 0 = .ok (.aload_n 0, 1) := by decide +kernel
theorem d_120_1 : decode (codeOf 120) 1 = .ok (.getfield 19, 3) := by decide +kernel
theorem d_120_4 : decode (codeOf 120) 4 = .ok (.iload_n 1, 1) := by decide +kernel
theorem d_120_5 : decode (codeOf 120) 5 = .ok (.invokevirtual 106, 3) := by decide +kernel
theorem d_120_8 : decode (codeOf 120) 8 = .ok (.ifCond .eq 29, 3) := by decide +kernel
theorem d_120_11 : decode (codeOf 120) 11 = .ok (.iload_n 2, 1) := by decide +kernel
theorem d_120_12 : decode (codeOf 120) 12 = .ok (.ifCond .lt 25, 3) := by decide +kernel
theorem d_120_15 : decode (codeOf 120) 15 = .ok (.iload_n 2, 1) := by decide +kernel
theorem d_120_16 : decode (codeOf 120) 16 = .ok (.aload_n 0, 1) := by decide +kernel
theorem d_120_17 : decode (codeOf 120) 17 = .ok (.getfield 19, 3) := by decide +kernel
theorem d_120_20 : decode (codeOf 120) 20 = .ok (.iload_n 1, 1) := by decide +kernel
theorem d_120_21 : decode (codeOf 120) 21 = .ok (.invokevirtual 134, 3) := by decide +kernel
theorem d_120_24 : decode (codeOf 120) 24 = .ok (.if_icmp .gt 13, 3) := by decide +kernel
theorem d_120_27 : decode (codeOf 120) 27 = .ok (.iload_n 3, 1) := by decide +kernel
theorem d_120_28 : decode (codeOf 120) 28 = .ok (.ifCond .lt 9, 3) := by decide +kernel
theorem d_120_31 : decode (codeOf 120) 31 = .ok (.iload_n 3, 1) := by decide +kernel
theorem d_120_32 : decode (codeOf 120) 32 = .ok (.bipush 10, 2) := by decide +kernel
theorem d_120_34 : decode (codeOf 120) 34 = .ok (.if_icmp .le 5, 3) := by decide +kernel
theorem d_120_37 : decode (codeOf 120) 37 = .ok (.iconst (-1), 1) := by decide +kernel
theorem d_120_38 : decode (codeOf 120) 38 = .ok (.ireturn, 1) := by decide +kernel
theorem d_120_39 : decode (codeOf 120) 39 = .ok (.aload_n 0, 1) := by decide +kernel
theorem d_120_40 : decode (codeOf 120) 40 = .ok (.getfield 29, 3) := by decide +kernel
theorem d_120_43 : decode (codeOf 120) 43 = .ok (.aload_n 0, 1) := by decide +kernel
theorem d_120_44 : decode (codeOf 120) 44 = .ok (.getfield 19, 3) := by decide +kernel
theorem d_120_47 : decode (codeOf 120) 47 = .ok (.invokevirtual 167, 3) := by decide +kernel
theorem d_120_50 : decode (codeOf 120) 50 = .ok (.aload_n 0, 1) := by decide +kernel
theorem d_120_51 : decode (codeOf 120) 51 = .ok (.getfield 29, 3) := by decide +kernel
theorem d_120_54 : decode (codeOf 120) 54 = .ok (.iload_n 1, 1) := by decide +kernel
theorem d_120_55 : decode (codeOf 120) 55 = .ok (.iload_n 2, 1) := by decide +kernel
theorem d_120_56 : decode (codeOf 120) 56 = .ok (.invokevirtual 179, 3) := by decide +kernel
theorem d_120_59 : decode (codeOf 120) 59 = .ok (.ifCond .ne 6, 3) := by decide +kernel
theorem d_120_62 : decode (codeOf 120) 62 = .ok (.bipush (-4), 2) := by decide +kernel
theorem d_120_64 : decode (codeOf 120) 64 = .ok (.ireturn, 1) := by decide +kernel
theorem d_120_65 : decode (codeOf 120) 65 = .ok (.iload_n 3, 1) := by decide +kernel
theorem d_120_66 : decode (codeOf 120) 66 = .ok (.iconst 4, 1) := by decide +kernel
theorem d_120_67 : decode (codeOf 120) 67 = .ok (.if_icmp .ge 12, 3) := by decide +kernel
theorem d_120_70 : decode (codeOf 120) 70 = .ok (.aload_n 0, 1) := by decide +kernel
theorem d_120_71 : decode (codeOf 120) 71 = .ok (.getfield 29, 3) := by decide +kernel
theorem d_120_74 : decode (codeOf 120) 74 = .ok (.iload_n 3, 1) := by decide +kernel
theorem d_120_75 : decode (codeOf 120) 75 = .ok (.invokevirtual 182, 3) := by decide +kernel
theorem d_120_78 : decode (codeOf 120) 78 = .ok (.ireturn, 1) := by decide +kernel
theorem d_120_79 : decode (codeOf 120) 79 = .ok (.iload_n 3, 1) := by decide +kernel
theorem d_120_80 : decode (codeOf 120) 80 = .ok (.iconst 4, 1) := by decide +kernel
theorem d_120_81 : decode (codeOf 120) 81 = .ok (.if_icmp .ne 11, 3) := by decide +kernel
theorem d_120_84 : decode (codeOf 120) 84 = .ok (.aload_n 0, 1) := by decide +kernel
theorem d_120_85 : decode (codeOf 120) 85 = .ok (.getfield 29, 3) := by decide +kernel
theorem d_120_88 : decode (codeOf 120) 88 = .ok (.getfield 185, 3) := by decide +kernel
theorem d_120_91 : decode (codeOf 120) 91 = .ok (.ireturn, 1) := by decide +kernel
theorem d_120_92 : decode (codeOf 120) 92 = .ok (.iload_n 3, 1) := by decide +kernel
theorem d_120_93 : decode (codeOf 120) 93 = .ok (.iconst 5, 1) := by decide +kernel
theorem d_120_94 : decode (codeOf 120) 94 = .ok (.isub, 1) := by decide +kernel
theorem d_120_95 : decode (codeOf 120) 95 = .ok (.aload_n 0, 1) := by decide +kernel
theorem d_120_96 : decode (codeOf 120) 96 = .ok (.getfield 29, 3) := by decide +kernel
theorem d_120_99 : decode (codeOf 120) 99 = .ok (.getfield 185, 3) := by decide +kernel
theorem d_120_102 : decode (codeOf 120) 102 = .ok (.if_icmp .ge 16, 3) := by decide +kernel
theorem d_120_105 : decode (codeOf 120) 105 = .ok (.aload_n 0, 1) := by decide +kernel
theorem d_120_106 : decode (codeOf 120) 106 = .ok (.getfield 29, 3) := by decide +kernel
theorem d_120_109 : decode (codeOf 120) 109 = .ok (.iload_n 3, 1) := by decide +kernel
theorem d_120_110 : decode (codeOf 120) 110 = .ok (.iconst 5, 1) := by decide +kernel
theorem d_120_111 : decode (codeOf 120) 111 = .ok (.isub, 1) := by decide +kernel
theorem d_120_112 : decode (codeOf 120) 112 = .ok (.invokevirtual 188, 3) := by decide +kernel
theorem d_120_115 : decode (codeOf 120) 115 = .ok (.goto 5, 3) := by decide +kernel
theorem d_120_118 : decode (codeOf 120) 118 = .ok (.bipush (-4), 2) := by decide +kernel
theorem d_120_120 : decode (codeOf 120) 120 = .ok (.ireturn, 1) := by decide +kernel
theorem d_121_0 : decode (codeOf 121) 0 = .ok (.aload_n 0, 1) := by decide +kernel
theorem d_121_1 : decode (codeOf 121) 1 = .ok (.getfield 29, 3) := by decide +kernel
theorem d_121_4 : decode (codeOf 121) 4 = .ok (.aload_n 0, 1) := by decide +kernel
theorem d_121_5 : decode (codeOf 121) 5 = .ok (.getfield 19, 3) := by decide +kernel
theorem d_121_8 : decode (codeOf 121) 8 = .ok (.invokevirtual 167, 3) := by decide +kernel
theorem d_121_11 : decode (codeOf 121) 11 = .ok (.aload_n 0, 1) := by decide +kernel
theorem d_121_12 : decode (codeOf 121) 12 = .ok (.getfield 29, 3) := by decide +kernel
theorem d_121_15 : decode (codeOf 121) 15 = .ok (.invokevirtual 191, 3) := by decide +kernel
theorem d_121_18 : decode (codeOf 121) 18 = .ok (.ireturn, 1) := by decide +kernel
theorem d_122_0 : decode (codeOf 122) 0 = .ok (.aload_n 0, 1) := by decide +kernel
theorem d_122_1 : decode (codeOf 122) 1 = .ok (.getfield 19, 3) := by decide +kernel
theorem d_122_4 : decode (codeOf 122) 4 = .ok (.iload_n 1, 1) := by decide +kernel
theorem d_122_5 : decode (codeOf 122) 5 = .ok (.invokevirtual 106, 3) := by decide +kernel
theorem d_122_8 : decode (codeOf 122) 8 = .ok (.ifCond .ne 5, 3) := by decide +kernel
theorem d_122_11 : decode (codeOf 122) 11 = .ok (.iconst (-1), 1) := by decide +kernel
theorem d_122_12 : decode (codeOf 122) 12 = .ok (.ireturn, 1) := by decide +kernel
theorem d_122_13 : decode (codeOf 122) 13 = .ok (.aload_n 0, 1) := by decide +kernel
theorem d_122_14 : decode (codeOf 122) 14 = .ok (.getfield 29, 3) := by decide +kernel
theorem d_122_17 : decode (codeOf 122) 17 = .ok (.aload_n 0, 1) := by decide +kernel
theorem d_122_18 : decode (codeOf 122) 18 = .ok (.getfield 19, 3) := by decide +kernel
theorem d_122_21 : decode (codeOf 122) 21 = .ok (.invokevirtual 167, 3) := by decide +kernel
theorem d_122_24 : decode (codeOf 122) 24 = .ok (.aload_n 0, 1) := by decide +kernel
theorem d_122_25 : decode (codeOf 122) 25 = .ok (.getfield 29, 3) := by decide +kernel
theorem d_122_28 : decode (codeOf 122) 28 = .ok (.iload_n 1, 1) := by decide +kernel
theorem d_122_29 : decode (codeOf 122) 29 = .ok (.invokevirtual 194, 3) := by decide +kernel
theorem d_122_32 : decode (codeOf 122) 32 = .ok (.ireturn, 1) := by decide +kernel
theorem d_123_0 : decode (codeOf 123) 0 = .ok (.aload_n 0, 1) := by decide +kernel
theorem d_123_1 : decode (codeOf 123) 1 = .ok (.getfield 19, 3) := by decide +kernel
theorem d_123_4 : decode (codeOf 123) 4 = .ok (.iload_n 1, 1) := by decide +kernel
theorem d_123_5 : decode (codeOf 123) 5 = .ok (.invokevirtual 106, 3) := by decide +kernel
theorem d_123_8 : decode (codeOf 123) 8 = .ok (.ifCond .eq 12, 3) := by decide +kernel
theorem d_123_11 : decode (codeOf 123) 11 = .ok (.iload_n 2, 1) := by decide +kernel
theorem d_123_12 : decode (codeOf 123) 12 = .ok (.ifCond .lt 8, 3) := by decide +kernel
theorem d_123_15 : decode (codeOf 123) 15 = .ok (.iload_n 2, 1) := by decide +kernel
theorem d_123_16 : decode (codeOf 123) 16 = .ok (.iconst 4, 1) := by decide +kernel
theorem d_123_17 : decode (codeOf 123) 17 = .ok (.if_icmp .lt 5, 3) := by decide +kernel
theorem d_123_20 : decode (codeOf 123) 20 = .ok (.iconst (-1), 1) := by decide +kernel
theorem d_123_21 : decode (codeOf 123) 21 = .ok (.ireturn, 1) := by decide +kernel
theorem d_123_22 : decode (codeOf 123) 22 = .ok (.iconst 0, 1) := by decide +kernel
theorem d_123_23 : decode (codeOf 123) 23 = .ok (.istore_n 3, 1) := by decide +kernel
theorem d_123_24 : decode (codeOf 123) 24 = .ok (.aload_n 0, 1) := by decide +kernel
theorem d_123_25 : decode (codeOf 123) 25 = .ok (.getfield 23, 3) := by decide +kernel
theorem d_123_28 : decode (codeOf 123) 28 = .ok (.aload_n 0, 1) := by decide +kernel
theorem d_123_29 : decode (codeOf 123) 29 = .ok (.getfield 19, 3) := by decide +kernel
theorem d_123_32 : decode (codeOf 123) 32 = .ok (.getfield 74, 3) := by decide +kernel
theorem d_123_35 : decode (codeOf 123) 35 = .ok (.invokevirtual 78, 3) := by decide +kernel
theorem d_123_38 : decode (codeOf 123) 38 = .ok (.iconst 0, 1) := by decide +kernel
theorem d_123_39 : decode (codeOf 123) 39 = .ok (.istore 4, 2) := by decide +kernel
theorem d_123_41 : decode (codeOf 123) 41 = .ok (.iload 4, 2) := by decide +kernel
theorem d_123_43 : decode (codeOf 123) 43 = .ok (.bipush 10, 2) := by decide +kernel
theorem d_123_45 : decode (codeOf 123) 45 = .ok (.if_icmp .ge 67, 3) := by decide +kernel
theorem d_123_48 : decode (codeOf 123) 48 = .ok (.aload_n 0, 1) := by decide +kernel
theorem d_123_49 : decode (codeOf 123) 49 = .ok (.getfield 19, 3) := by decide +kernel
theorem d_123_52 : decode (codeOf 123) 52 = .ok (.iload 4, 2) := by decide +kernel
theorem d_123_54 : decode (codeOf 123) 54 = .ok (.invokevirtual 144, 3) := by decide +kernel
theorem d_123_57 : decode (codeOf 123) 57 = .ok (.ifCond .eq 49, 3) := by decide +kernel
theorem d_123_60 : decode (codeOf 123) 60 = .ok (.aload_n 0, 1) := by decide +kernel
theorem d_123_61 : decode (codeOf 123) 61 = .ok (.getfield 23, 3) := by decide +kernel
theorem d_123_64 : decode (codeOf 123) 64 = .ok (.iload_n 1, 1) := by decide +kernel
theorem d_123_65 : decode (codeOf 123) 65 = .ok (.iload_n 2, 1) := by decide +kernel
theorem d_123_66 : decode (codeOf 123) 66 = .ok (.iload 4, 2) := by decide +kernel
theorem d_123_68 : decode (codeOf 123) 68 = .ok (.invokevirtual 150, 3) := by decide +kernel
theorem d_123_71 : decode (codeOf 123) 71 = .ok (.aload_n 0, 1) := by decide +kernel
theorem d_123_72 : decode (codeOf 123) 72 = .ok (.getfield 29, 3) := by decide +kernel
theorem d_123_75 : decode (codeOf 123) 75 = .ok (.aload_n 0, 1) := by decide +kernel
theorem d_123_76 : decode (codeOf 123) 76 = .ok (.getfield 23, 3) := by decide +kernel
theorem d_123_79 : decode (codeOf 123) 79 = .ok (.invokevirtual 167, 3) := by decide +kernel
theorem d_123_82 : decode (codeOf 123) 82 = .ok (.aload_n 0, 1) := by decide +kernel
theorem d_123_83 : decode (codeOf 123) 83 = .ok (.getfield 29, 3) := by decide +kernel
theorem d_123_86 : decode (codeOf 123) 86 = .ok (.invokevirtual 191, 3) := by decide +kernel
theorem d_123_89 : decode (codeOf 123) 89 = .ok (.aload_n 0, 1) := by decide +kernel
theorem d_123_90 : decode (codeOf 123) 90 = .ok (.getfield 23, 3) := by decide +kernel
theorem d_123_93 : decode (codeOf 123) 93 = .ok (.invokevirtual 197, 3) := by decide +kernel
theorem d_123_96 : decode (codeOf 123) 96 = .ok (.if_icmp .ne 10, 3) := by decide +kernel
theorem d_123_99 : decode (codeOf 123) 99 = .ok (.iload_n 3, 1) := by decide +kernel
theorem d_123_100 : decode (codeOf 123) 100 = .ok (.iconst 1, 1) := by decide +kernel
theorem d_123_101 : decode (codeOf 123) 101 = .ok (.iload 4, 2) := by decide +kernel
theorem d_123_103 : decode (codeOf 123) 103 = .ok (.ishl, 1) := by decide +kernel
theorem d_123_104 : decode (codeOf 123) 104 = .ok (.ior, 1) := by decide +kernel
theorem d_123_105 : decode (codeOf 123) 105 = .ok (.istore_n 3, 1) := by decide +kernel
theorem d_123_106 : decode (codeOf 123) 106 = .ok (.iinc 4 1, 3) := by decide +kernel
theorem d_123_109 : decode (codeOf 123) 109 = .ok (.goto (-68), 3) := by decide +kernel
theorem d_123_112 : decode (codeOf 123) 112 = .ok (.iload_n 3, 1) := by decide +kernel
theorem d_123_113 : decode (codeOf 123) 113 = .ok (.ireturn, 1) := by decide +kernel
theorem d_124_0 : decode (codeOf 124) 0 = .ok (.iconst 1, 1) := by decide +kernel
theorem d_124_1 : decode (codeOf 124) 1 = .ok (.istore_n 1, 1) := by decide +kernel
theorem d_124_2 : decode (codeOf 124) 2 = .ok (.iconst 0, 1) := by decide +kernel
theorem d_124_3 : decode (codeOf 124) 3 = .ok (.istore_n 2, 1) := by decide +kernel
theorem d_124_4 : decode (codeOf 124) 4 = .ok (.iload_n 2, 1) := by decide +kernel
theorem d_124_5 : decode (codeOf 124) 5 = .ok (.iconst 4, 1) := by decide +kernel
theorem d_124_6 : decode (codeOf 124) 6 = .ok (.if_icmp .gt 48, 3) := by decide +kernel
theorem d_124_9 : decode (codeOf 124) 9 = .ok (.iconst 0, 1) := by decide +kernel
theorem d_124_10 : decode (codeOf 124) 10 = .ok (.istore_n 3, 1) := by decide +kernel
theorem d_124_11 : decode (codeOf 124) 11 = .ok (.iload_n 3, 1) := by decide +kernel
theorem d_124_12 : decode (codeOf 124) 12 = .ok (.aload_n 0, 1) := by decide +kernel
theorem d_124_13 : decode (codeOf 124) 13 = .ok (.getfield 19, 3) := by decide +kernel
theorem d_124_16 : decode (codeOf 124) 16 = .ok (.invokevirtual 92, 3) := by decide +kernel
theorem d_124_19 : decode (codeOf 124) 19 = .ok (.if_icmp .ge 29, 3) := by decide +kernel
theorem d_124_22 : decode (codeOf 124) 22 = .ok (.iload_n 1, 1) := by decide +kernel
theorem d_124_23 : decode (codeOf 124) 23 = .ok (.iload_n 3, 1) := by decide +kernel
theorem d_124_24 : decode (codeOf 124) 24 = .ok (.ishr, 1) := by decide +kernel
theorem d_124_25 : decode (codeOf 124) 25 = .ok (.iconst 1, 1) := by decide +kernel
theorem d_124_26 : decode (codeOf 124) 26 = .ok (.iand, 1) := by decide +kernel
theorem d_124_27 : decode (codeOf 124) 27 = .ok (.iconst 1, 1) := by decide +kernel
theorem d_124_28 : decode (codeOf 124) 28 = .ok (.if_icmp .ne 14, 3) := by decide +kernel
theorem d_124_31 : decode (codeOf 124) 31 = .ok (.iload_n 1, 1) := by decide +kernel
theorem d_124_32 : decode (codeOf 124) 32 = .ok (.aload_n 0, 1) := by decide +kernel
theorem d_124_33 : decode (codeOf 124) 33 = .ok (.getfield 19, 3) := by decide +kernel
theorem d_124_36 : decode (codeOf 124) 36 = .ok (.iload_n 3, 1) := by decide +kernel
theorem d_124_37 : decode (codeOf 124) 37 = .ok (.invokevirtual 200, 3) := by decide +kernel
theorem d_124_40 : decode (codeOf 124) 40 = .ok (.ior, 1) := by decide +kernel
theorem d_124_41 : decode (codeOf 124) 41 = .ok (.istore_n 1, 1) := by decide +kernel
theorem d_124_42 : decode (codeOf 124) 42 = .ok (.iinc 3 1, 3) := by decide +kernel
theorem d_124_45 : decode (codeOf 124) 45 = .ok (.goto (-34), 3) := by decide +kernel
theorem d_124_48 : decode (codeOf 124) 48 = .ok (.iinc 2 1, 3) := by decide +kernel
theorem d_124_51 : decode (codeOf 124) 51 = .ok (.goto (-47), 3) := by decide +kernel
theorem d_124_54 : decode (codeOf 124) 54 = .ok (.iload_n 1, 1) := by decide +kernel
theorem d_124_55 : decode (codeOf 124) 55 = .ok (.ireturn, 1) := by decide +kernel
theorem d_125_0 : decode (codeOf 125) 0 = .ok (.aload_n 0, 1) := by decide +kernel
theorem d_125_1 : decode (codeOf 125) 1 = .ok (.getfield 19, 3) := by decide +kernel
theorem d_125_4 : decode (codeOf 125) 4 = .ok (.iload_n 1, 1) := by decide +kernel
theorem d_125_5 : decode (codeOf 125) 5 = .ok (.invokevirtual 106, 3) := by decide +kernel
theorem d_125_8 : decode (codeOf 125) 8 = .ok (.ifCond .eq 12, 3) := by decide +kernel
theorem d_125_11 : decode (codeOf 125) 11 = .ok (.iload_n 2, 1) := by decide +kernel
theorem d_125_12 : decode (codeOf 125) 12 = .ok (.ifCond .lt 8, 3) := by decide +kernel
theorem d_125_15 : decode (codeOf 125) 15 = .ok (.iload_n 2, 1) := by decide +kernel
theorem d_125_16 : decode (codeOf 125) 16 = .ok (.iconst 1, 1) := by decide +kernel
theorem d_125_17 : decode (codeOf 125) 17 = .ok (.if_icmp .le 5, 3) := by decide +kernel
theorem d_125_20 : decode (codeOf 125) 20 = .ok (.iconst (-1), 1) := by decide +kernel
theorem d_125_21 : decode (codeOf 125) 21 = .ok (.ireturn, 1) := by decide +kernel
theorem d_125_22 : decode (codeOf 125) 22 = .ok (.aload_n 0, 1) := by decide +kernel
theorem d_125_23 : decode (codeOf 125) 23 = .ok (.getfield 29, 3) := by decide +kernel
theorem d_125_26 : decode (codeOf 125) 26 = .ok (.aload_n 0, 1) := by decide +kernel
theorem d_125_27 : decode (codeOf 125) 27 = .ok (.getfield 19, 3) := by decide +kernel
theorem d_125_30 : decode (codeOf 125) 30 = .ok (.invokevirtual 167, 3) := by decide +kernel
theorem d_125_33 : decode (codeOf 125) 33 = .ok (.aload_n 0, 1) := by decide +kernel
theorem d_125_34 : decode (codeOf 125) 34 = .ok (.getfield 29, 3) := by decide +kernel
theorem d_125_37 : decode (codeOf 125) 37 = .ok (.iload_n 1, 1) := by decide +kernel
theorem d_125_38 : decode (codeOf 125) 38 = .ok (.invokevirtual 170, 3) := by decide +kernel
theorem d_125_41 : decode (codeOf 125) 41 = .ok (.ifCond .ne 21, 3) := by decide +kernel
theorem d_125_44 : decode (codeOf 125) 44 = .ok (.aload_n 0, 1) := by decide +kernel
theorem d_125_45 : decode (codeOf 125) 45 = .ok (.getfield 29, 3) := by decide +kernel
theorem d_125_48 : decode (codeOf 125) 48 = .ok (.getfield 173, 3) := by decide +kernel
theorem d_125_51 : decode (codeOf 125) 51 = .ok (.aload_n 0, 1) := by decide +kernel
theorem d_125_52 : decode (codeOf 125) 52 = .ok (.getfield 19, 3) := by decide +kernel
theorem d_125_55 : decode (codeOf 125) 55 = .ok (.iload_n 1, 1) := by decide +kernel
theorem d_125_56 : decode (codeOf 125) 56 = .ok (.invokevirtual 134, 3) := by decide +kernel
theorem d_125_59 : decode (codeOf 125) 59 = .ok (.if_icmp .lt 6, 3) := by decide +kernel
theorem d_125_62 : decode (codeOf 125) 62 = .ok (.bipush (-2), 2) := by decide +kernel
theorem d_125_64 : decode (codeOf 125) 64 = .ok (.ireturn, 1) := by decide +kernel
theorem d_125_65 : decode (codeOf 125) 65 = .ok (.aload_n 0, 1) := by decide +kernel
theorem d_125_66 : decode (codeOf 125) 66 = .ok (.getfield 29, 3) := by decide +kernel
theorem d_125_69 : decode (codeOf 125) 69 = .ok (.getfield 173, 3) := by decide +kernel
theorem d_125_72 : decode (codeOf 125) 72 = .ok (.istore_n 3, 1) := by decide +kernel
theorem d_125_73 : decode (codeOf 125) 73 = .ok (.iconst 0, 1) := by decide +kernel
theorem d_125_74 : decode (codeOf 125) 74 = .ok (.istore 4, 2) := by decide +kernel
theorem d_125_76 : decode (codeOf 125) 76 = .ok (.aload_n 0, 1) := by decide +kernel
theorem d_125_77 : decode (codeOf 125) 77 = .ok (.getfield 23, 3) := by decide +kernel
theorem d_125_80 : decode (codeOf 125) 80 = .ok (.aload_n 0, 1) := by decide +kernel
theorem d_125_81 : decode (codeOf 125) 81 = .ok (.getfield 19, 3) := by decide +kernel
theorem d_125_84 : decode (codeOf 125) 84 = .ok (.getfield 74, 3) := by decide +kernel
theorem d_125_87 : decode (codeOf 125) 87 = .ok (.invokevirtual 78, 3) := by decide +kernel
theorem d_125_90 : decode (codeOf 125) 90 = .ok (.aload_n 0, 1) := by decide +kernel
theorem d_125_91 : decode (codeOf 125) 91 = .ok (.getfield 29, 3) := by decide +kernel
theorem d_125_94 : decode (codeOf 125) 94 = .ok (.aload_n 0, 1) := by decide +kernel
theorem d_125_95 : decode (codeOf 125) 95 = .ok (.getfield 23, 3) := by decide +kernel
theorem d_125_98 : decode (codeOf 125) 98 = .ok (.invokevirtual 167, 3) := by decide +kernel
theorem d_125_101 : decode (codeOf 125) 101 = .ok (.iconst 0, 1) := by decide +kernel
theorem d_125_102 : decode (codeOf 125) 102 = .ok (.istore 5, 2) := by decide +kernel
theorem d_125_104 : decode (codeOf 125) 104 = .ok (.iload 5, 2) := by decide +kernel
theorem d_125_106 : decode (codeOf 125) 106 = .ok (.sipush 896, 3) := by decide +kernel
theorem d_125_109 : decode (codeOf 125) 109 = .ok (.if_icmp .ge 31, 3) := by decide +kernel
theorem d_125_112 : decode (codeOf 125) 112 = .ok (.aload_n 0, 1) := by decide +kernel
theorem d_125_113 : decode (codeOf 125) 113 = .ok (.iload_n 1, 1) := by decide +kernel
theorem d_125_114 : decode (codeOf 125) 114 = .ok (.iload_n 3, 1) := by decide +kernel
theorem d_125_115 : decode (codeOf 125) 115 = .ok (.iload 5, 2) := by decide +kernel
theorem d_125_117 : decode (codeOf 125) 117 = .ok (.invokevirtual 203, 3) := by decide +kernel
theorem d_125_120 : decode (codeOf 125) 120 = .ok (.ifCond .eq 14, 3) := by decide +kernel
theorem d_125_123 : decode (codeOf 125) 123 = .ok (.iload_n 2, 1) := by decide +kernel
theorem d_125_124 : decode (codeOf 125) 124 = .ok (.iconst 1, 1) := by decide +kernel
theorem d_125_125 : decode (codeOf 125) 125 = .ok (.if_icmp .ne 6, 3) := by decide +kernel
theorem d_125_128 : decode (codeOf 125) 128 = .ok (.iload 5, 2) := by decide +kernel
theorem d_125_130 : decode (codeOf 125) 130 = .ok (.ireturn, 1) := by decide +kernel
theorem d_125_131 : decode (codeOf 125) 131 = .ok (.iinc 4 1, 3) := by decide +kernel
theorem d_125_134 : decode (codeOf 125) 134 = .ok (.iinc 5 1, 3) := by decide +kernel
theorem d_125_137 : decode (codeOf 125) 137 = .ok (.goto (-33), 3) := by decide +kernel
theorem d_125_140 : decode (codeOf 125) 140 = .ok (.iload_n 2, 1) := by decide +kernel
theorem d_125_141 : decode (codeOf 125) 141 = .ok (.ifCond .ne 8, 3) := by decide +kernel
theorem d_125_144 : decode (codeOf 125) 144 = .ok (.iload 4, 2) := by decide +kernel
theorem d_125_146 : decode (codeOf 125) 146 = .ok (.goto 5, 3) := by decide +kernel
theorem d_125_149 : decode (codeOf 125) 149 = .ok (.bipush (-4), 2) := by decide +kernel
theorem d_125_151 : decode (codeOf 125) 151 = .ok (.ireturn, 1) := by decide +kernel
theorem d_126_0 : decode (codeOf 126) 0 = .ok (.iload_n 3, 1) := by decide +kernel
theorem d_126_1 : decode (codeOf 126) 1 = .ok (.bipush 6, 2) := by decide +kernel
theorem d_126_3 : decode (codeOf 126) 3 = .ok (.ishr, 1) := by decide +kernel
theorem d_126_4 : decode (codeOf 126) 4 = .ok (.istore 4, 2) := by decide +kernel
theorem d_126_6 : decode (codeOf 126) 6 = .ok (.iload_n 3, 1) := by decide +kernel
theorem d_126_7 : decode (codeOf 126) 7 = .ok (.iconst 4, 1) := by decide +kernel
theorem d_126_8 : decode (codeOf 126) 8 = .ok (.ishr, 1) := by decide +kernel
theorem d_126_9 : decode (codeOf 126) 9 = .ok (.iconst 3, 1) := by decide +kernel
theorem d_126_10 : decode (codeOf 126) 10 = .ok (.iand, 1) := by decide +kernel
theorem d_126_11 : decode (codeOf 126) 11 = .ok (.istore 5, 2) := by decide +kernel
theorem d_126_13 : decode (codeOf 126) 13 = .ok (.iload_n 3, 1) := by decide +kernel
theorem d_126_14 : decode (codeOf 126) 14 = .ok (.iconst 2, 1) := by decide +kernel
theorem d_126_15 : decode (codeOf 126) 15 = .ok (.ishr, 1) := by decide +kernel
theorem d_126_16 : decode (codeOf 126) 16 = .ok (.iconst 3, 1) := by decide +kernel
theorem d_126_17 : decode (codeOf 126) 17 = .ok (.iand, 1) := by decide +kernel
theorem d_126_18 : decode (codeOf 126) 18 = .ok (.istore 6, 2) := by decide +kernel
theorem d_126_20 : decode (codeOf 126) 20 = .ok (.iload_n 3, 1) := by decide +kernel
theorem d_126_21 : decode (codeOf 126) 21 = .ok (.iconst 3, 1) := by decide +kernel
theorem d_126_22 : decode (codeOf 126) 22 = .ok (.iand, 1) := by decide +kernel
theorem d_126_23 : decode (codeOf 126) 23 = .ok (.istore 7, 2) := by decide +kernel
theorem d_126_25 : decode (codeOf 126) 25 = .ok (.iload 4, 2) := by decide +kernel
theorem d_126_27 : decode (codeOf 126) 27 = .ok (.iconst 1, 1) := by decide +kernel
theorem d_126_28 : decode (codeOf 126) 28 = .ok (.if_icmp .ne 8, 3) := by decide +kernel
theorem d_126_31 : decode (codeOf 126) 31 = .ok (.iload 6, 2) := by decide +kernel
theorem d_126_33 : decode (codeOf 126) 33 = .ok (.ifCond .ne 21, 3) := by decide +kernel
theorem d_126_36 : decode (codeOf 126) 36 = .ok (.aload_n 0, 1) := by decide +kernel
theorem d_126_37 : decode (codeOf 126) 37 = .ok (.getfield 23, 3) := by decide +kernel
theorem d_126_40 : decode (codeOf 126) 40 = .ok (.iload 4, 2) := by decide +kernel
theorem d_126_42 : decode (codeOf 126) 42 = .ok (.iload 5, 2) := by decide +kernel
theorem d_126_44 : decode (codeOf 126) 44 = .ok (.iload 6, 2) := by decide +kernel
theorem d_126_46 : decode (codeOf 126) 46 = .ok (.iload 7, 2) := by decide +kernel
theorem d_126_48 : decode (codeOf 126) 48 = .ok (.invokevirtual 123, 3) := by decide +kernel
theorem d_126_51 : decode (codeOf 126) 51 = .ok (.ifCond .ne 5, 3) := by decide +kernel
theorem d_126_54 : decode (codeOf 126) 54 = .ok (.iconst 0, 1) := by decide +kernel
theorem d_126_55 : decode (codeOf 126) 55 = .ok (.ireturn, 1) := by decide +kernel
theorem d_126_56 : decode (codeOf 126) 56 = .ok (.aload_n 0, 1) := by decide +kernel
theorem d_126_57 : decode (codeOf 126) 57 = .ok (.getfield 23, 3) := by decide +kernel
theorem d_126_60 : decode (codeOf 126) 60 = .ok (.iload_n 1, 1) := by decide +kernel
theorem d_126_61 : decode (codeOf 126) 61 = .ok (.iload_n 2, 1) := by decide +kernel
theorem d_126_62 : decode (codeOf 126) 62 = .ok (.iload 4, 2) := by decide +kernel
theorem d_126_64 : decode (codeOf 126) 64 = .ok (.iload 5, 2) := by decide +kernel
theorem d_126_66 : decode (codeOf 126) 66 = .ok (.iload 6, 2) := by decide +kernel
theorem d_126_68 : decode (codeOf 126) 68 = .ok (.iload 7, 2) := by decide +kernel
theorem d_126_70 : decode (codeOf 126) 70 = .ok (.invokevirtual 130, 3) := by decide +kernel
theorem d_126_73 : decode (codeOf 126) 73 = .ok (.aload_n 0, 1) := by decide +kernel
theorem d_126_74 : decode (codeOf 126) 74 = .ok (.getfield 29, 3) := by decide +kernel
theorem d_126_77 : decode (codeOf 126) 77 = .ok (.iload_n 1, 1) := by decide +kernel
theorem d_126_78 : decode (codeOf 126) 78 = .ok (.invokevirtual 170, 3) := by decide +kernel
theorem d_126_81 : decode (codeOf 126) 81 = .ok (.ireturn, 1) := by decide +kernel
theorem d_127_0 : decode (codeOf 127) 0 = .ok (.iload_n 1, 1) := by decide +kernel
theorem d_127_1 : decode (codeOf 127) 1 = .ok (.ifCond .lt 29, 3) := by decide +kernel
theorem d_127_4 : decode (codeOf 127) 4 = .ok (.iload_n 1, 1) := by decide +kernel
theorem d_127_5 : decode (codeOf 127) 5 = .ok (.bipush 99, 2) := by decide +kernel
theorem d_127_7 : decode (codeOf 127) 7 = .ok (.if_icmp .gt 23, 3) := by decide +kernel
theorem d_127_10 : decode (codeOf 127) 10 = .ok (.iload_n 2, 1) := by decide +kernel
theorem d_127_11 : decode (codeOf 127) 11 = .ok (.ifCond .lt 19, 3) := by decide +kernel
theorem d_127_14 : decode (codeOf 127) 14 = .ok (.iload_n 2, 1) := by decide +kernel
theorem d_127_15 : decode (codeOf 127) 15 = .ok (.sipush 200, 3) := by decide +kernel
theorem d_127_18 : decode (codeOf 127) 18 = .ok (.if_icmp .gt 12, 3) := by decide +kernel
theorem d_127_21 : decode (codeOf 127) 21 = .ok (.iload_n 3, 1) := by decide +kernel
theorem d_127_22 : decode (codeOf 127) 22 = .ok (.ifCond .lt 8, 3) := by decide +kernel
theorem d_127_25 : decode (codeOf 127) 25 = .ok (.iload_n 3, 1) := by decide +kernel
theorem d_127_26 : decode (codeOf 127) 26 = .ok (.iconst 4, 1) := by decide +kernel
theorem d_127_27 : decode (codeOf 127) 27 = .ok (.if_icmp .le 5, 3) := by decide +kernel
theorem d_127_30 : decode (codeOf 127) 30 = .ok (.iconst (-1), 1) := by decide +kernel
theorem d_127_31 : decode (codeOf 127) 31 = .ok (.ireturn, 1) := by decide +kernel
theorem d_127_32 : decode (codeOf 127) 32 = .ok (.aload_n 0, 1) := by decide +kernel
theorem d_127_33 : decode (codeOf 127) 33 = .ok (.getfield 36, 3) := by decide +kernel
theorem d_127_36 : decode (codeOf 127) 36 = .ok (.aload_n 0, 1) := by decide +kernel
theorem d_127_37 : decode (codeOf 127) 37 = .ok (.getfield 19, 3) := by decide +kernel
theorem d_127_40 : decode (codeOf 127) 40 = .ok (.iload_n 1, 1) := by decide +kernel
theorem d_127_41 : decode (codeOf 127) 41 = .ok (.invokevirtual 207, 3) := by decide +kernel
theorem d_127_44 : decode (codeOf 127) 44 = .ok (.aload_n 0, 1) := by decide +kernel
theorem d_127_45 : decode (codeOf 127) 45 = .ok (.getfield 36, 3) := by decide +kernel
theorem d_127_48 : decode (codeOf 127) 48 = .ok (.iload_n 2, 1) := by decide +kernel
theorem d_127_49 : decode (codeOf 127) 49 = .ok (.invokevirtual 211, 3) := by decide +kernel
theorem d_127_52 : decode (codeOf 127) 52 = .ok (.iload_n 3, 1) := by decide +kernel
theorem d_127_53 : decode (codeOf 127) 53 = .ok (.tableswitch 63 0 3 #[31, 39, 47, 55], 31) := by decide +kernel
theorem d_127_84 : decode (codeOf 127) 84 = .ok (.aload_n 0, 1) := by decide +kernel
theorem d_127_85 : decode (codeOf 127) 85 = .ok (.getfield 36, 3) := by decide +kernel
theorem d_127_88 : decode (codeOf 127) 88 = .ok (.getfield 214, 3) := by decide +kernel
theorem d_127_91 : decode (codeOf 127) 91 = .ok (.ireturn, 1) := by decide +kernel
theorem d_127_92 : decode (codeOf 127) 92 = .ok (.aload_n 0, 1) := by decide +kernel
theorem d_127_93 : decode (codeOf 127) 93 = .ok (.getfield 36, 3) := by decide +kernel
theorem d_127_96 : decode (codeOf 127) 96 = .ok (.getfield 217, 3) := by decide +kernel
theorem d_127_99 : decode (codeOf 127) 99 = .ok (.ireturn, 1) := by decide +kernel
theorem d_127_100 : decode (codeOf 127) 100 = .ok (.aload_n 0, 1) := by decide +kernel
theorem d_127_101 : decode (codeOf 127) 101 = .ok (.getfield 36, 3) := by decide +kernel
theorem d_127_104 : decode (codeOf 127) 104 = .ok (.getfield 220, 3) := by decide +kernel
theorem d_127_107 : decode (codeOf 127) 107 = .ok (.ireturn, 1) := by decide +kernel
theorem d_127_108 : decode (codeOf 127) 108 = .ok (.aload_n 0, 1) := by decide +kernel
theorem d_127_109 : decode (codeOf 127) 109 = .ok (.getfield 36, 3) := by decide +kernel
theorem d_127_112 : decode (codeOf 127) 112 = .ok (.getfield 223, 3) := by decide +kernel
theorem d_127_115 : decode (codeOf 127) 115 = .ok (.ireturn, 1) := by decide +kernel
theorem d_127_116 : decode (codeOf 127) 116 = .ok (.aload_n 0, 1) := by decide +kernel
theorem d_127_117 : decode (codeOf 127) 117 = .ok (.getfield 36, 3) := by decide +kernel
theorem d_127_120 : decode (codeOf 127) 120 = .ok (.iconst 0, 1) := by decide +kernel
theorem d_127_121 : decode (codeOf 127) 121 = .ok (.invokevirtual 224, 3) := by decide +kernel
theorem d_127_124 : decode (codeOf 127) 124 = .ok (.invokestatic 225, 3) := by decide +kernel
theorem d_127_127 : decode (codeOf 127) 127 = .ok (.ifCond .eq 14, 3) := by decide +kernel
theorem d_127_130 : decode (codeOf 127) 130 = .ok (.aload_n 0, 1) := by decide +kernel
theorem d_127_131 : decode (codeOf 127) 131 = .ok (.getfield 36, 3) := by decide +kernel
theorem d_127_134 : decode (codeOf 127) 134 = .ok (.iconst 0, 1) := by decide +kernel
theorem d_127_135 : decode (codeOf 127) 135 = .ok (.invokevirtual 224, 3) := by decide +kernel
theorem d_127_138 : decode (codeOf 127) 138 = .ok (.goto 5, 3) := by decide +kernel
theorem d_127_141 : decode (codeOf 127) 141 = .ok (.bipush (-4), 2) := by decide +kernel
theorem d_127_143 : decode (codeOf 127) 143 = .ok (.ireturn, 1) := by decide +kernel
theorem d_128_0 : decode (codeOf 128) 0 = .ok (.iload_n 1, 1) := by decide +kernel
theorem d_128_1 : decode (codeOf 128) 1 = .ok (.ifCond .lt 30, 3) := by decide +kernel
theorem d_128_4 : decode (codeOf 128) 4 = .ok (.iload_n 1, 1) := by decide +kernel
theorem d_128_5 : decode (codeOf 128) 5 = .ok (.sipush 9999, 3) := by decide +kernel
theorem d_128_8 : decode (codeOf 128) 8 = .ok (.if_icmp .gt 23, 3) := by decide +kernel
theorem d_128_11 : decode (codeOf 128) 11 = .ok (.iload_n 2, 1) := by decide +kernel
theorem d_128_12 : decode (codeOf 128) 12 = .ok (.iconst 1, 1) := by decide +kernel
theorem d_128_13 : decode (codeOf 128) 13 = .ok (.if_icmp .lt 18, 3) := by decide +kernel
theorem d_128_16 : decode (codeOf 128) 16 = .ok (.iload_n 2, 1) := by decide +kernel
theorem d_128_17 : decode (codeOf 128) 17 = .ok (.bipush 20, 2) := by decide +kernel
theorem d_128_19 : decode (codeOf 128) 19 = .ok (.if_icmp .gt 12, 3) := by decide +kernel
theorem d_128_22 : decode (codeOf 128) 22 = .ok (.iload_n 3, 1) := by decide +kernel
theorem d_128_23 : decode (codeOf 128) 23 = .ok (.ifCond .lt 8, 3) := by decide +kernel
theorem d_128_26 : decode (codeOf 128) 26 = .ok (.iload_n 3, 1) := by decide +kernel
theorem d_128_27 : decode (codeOf 128) 27 = .ok (.iconst 1, 1) := by decide +kernel
theorem d_128_28 : decode (codeOf 128) 28 = .ok (.if_icmp .le 5, 3) := by decide +kernel
theorem d_128_31 : decode (codeOf 128) 31 = .ok (.iconst (-1), 1) := by decide +kernel
theorem d_128_32 : decode (codeOf 128) 32 = .ok (.ireturn, 1) := by decide +kernel
theorem d_128_33 : decode (codeOf 128) 33 = .ok (.aload_n 0, 1) := by decide +kernel
theorem d_128_34 : decode (codeOf 128) 34 = .ok (.getfield 23, 3) := by decide +kernel
theorem d_128_37 : decode (codeOf 128) 37 = .ok (.aload_n 0, 1) := by decide +kernel
theorem d_128_38 : decode (codeOf 128) 38 = .ok (.getfield 19, 3) := by decide +kernel
theorem d_128_41 : decode (codeOf 128) 41 = .ok (.getfield 74, 3) := by decide +kernel
theorem d_128_44 : decode (codeOf 128) 44 = .ok (.invokevirtual 78, 3) := by decide +kernel
theorem d_128_47 : decode (codeOf 128) 47 = .ok (.aload_n 0, 1) := by decide +kernel
theorem d_128_48 : decode (codeOf 128) 48 = .ok (.getfield 29, 3) := by decide +kernel
theorem d_128_51 : decode (codeOf 128) 51 = .ok (.aload_n 0, 1) := by decide +kernel
theorem d_128_52 : decode (codeOf 128) 52 = .ok (.getfield 23, 3) := by decide +kernel
theorem d_128_55 : decode (codeOf 128) 55 = .ok (.invokevirtual 167, 3) := by decide +kernel
theorem d_128_58 : decode (codeOf 128) 58 = .ok (.iconst 0, 1) := by decide +kernel
theorem d_128_59 : decode (codeOf 128) 59 = .ok (.istore 4, 2) := by decide +kernel
theorem d_128_61 : decode (codeOf 128) 61 = .ok (.iconst 0, 1) := by decide +kernel
theorem d_128_62 : decode (codeOf 128) 62 = .ok (.istore 5, 2) := by decide +kernel
theorem d_128_64 : decode (codeOf 128) 64 = .ok (.iconst 0, 1) := by decide +kernel
theorem d_128_65 : decode (codeOf 128) 65 = .ok (.istore 6, 2) := by decide +kernel
theorem d_128_67 : decode (codeOf 128) 67 = .ok (.iload 6, 2) := by decide +kernel
theorem d_128_69 : decode (codeOf 128) 69 = .ok (.iload_n 2, 1) := by decide +kernel
theorem d_128_70 : decode (codeOf 128) 70 = .ok (.if_icmp .ge 43, 3) := by decide +kernel
theorem d_128_73 : decode (codeOf 128) 73 = .ok (.aload_n 0, 1) := by decide +kernel
theorem d_128_74 : decode (codeOf 128) 74 = .ok (.iload_n 1, 1) := by decide +kernel
theorem d_128_75 : decode (codeOf 128) 75 = .ok (.iload 6, 2) := by decide +kernel
theorem d_128_77 : decode (codeOf 128) 77 = .ok (.invokestatic 228, 3) := by decide +kernel
theorem d_128_80 : decode (codeOf 128) 80 = .ok (.invokevirtual 231, 3) := by decide +kernel
theorem d_128_83 : decode (codeOf 128) 83 = .ok (.aload_n 0, 1) := by decide +kernel
theorem d_128_84 : decode (codeOf 128) 84 = .ok (.getfield 29, 3) := by decide +kernel
theorem d_128_87 : decode (codeOf 128) 87 = .ok (.invokevirtual 191, 3) := by decide +kernel
theorem d_128_90 : decode (codeOf 128) 90 = .ok (.istore 4, 2) := by decide +kernel
theorem d_128_92 : decode (codeOf 128) 92 = .ok (.iload 4, 2) := by decide +kernel
theorem d_128_94 : decode (codeOf 128) 94 = .ok (.aload_n 0, 1) := by decide +kernel
theorem d_128_95 : decode (codeOf 128) 95 = .ok (.getfield 23, 3) := by decide +kernel
theorem d_128_98 : decode (codeOf 128) 98 = .ok (.invokevirtual 197, 3) := by decide +kernel
theorem d_128_101 : decode (codeOf 128) 101 = .ok (.if_icmp .ne 6, 3) := by decide +kernel
theorem d_128_104 : decode (codeOf 128) 104 = .ok (.iinc 5 1, 3) := by decide +kernel
theorem d_128_107 : decode (codeOf 128) 107 = .ok (.iinc 6 1, 3) := by decide +kernel
theorem d_128_110 : decode (codeOf 128) 110 = .ok (.goto (-43), 3) := by decide +kernel
theorem d_128_113 : decode (codeOf 128) 113 = .ok (.iload_n 3, 1) := by decide +kernel
theorem d_128_114 : decode (codeOf 128) 114 = .ok (.ifCond .ne 11, 3) := by decide +kernel
theorem d_128_117 : decode (codeOf 128) 117 = .ok (.iload 4, 2) := by decide +kernel
theorem d_128_119 : decode (codeOf 128) 119 = .ok (.invokestatic 234, 3) := by decide +kernel
theorem d_128_122 : decode (codeOf 128) 122 = .ok (.goto 5, 3) := by decide +kernel
theorem d_128_125 : decode (codeOf 128) 125 = .ok (.iload 5, 2) := by decide +kernel
theorem d_128_127 : decode (codeOf 128) 127 = .ok (.ireturn, 1) := by decide +kernel
theorem d_129_0 : decode (codeOf 129) 0 = .ok (.ldc2_w 239, 3) := by decide +kernel
theorem d_129_3 : decode (codeOf 129) 3 = .ok (.iload_n 0, 1) := by decide +kernel
theorem d_129_4 : decode (codeOf 129) 4 = .ok (.i2l, 1) := by decide +kernel
theorem d_129_5 : decode (codeOf 129) 5 = .ok (.lmul, 1) := by decide +kernel
theorem d_129_6 : decode (codeOf 129) 6 = .ok (.ldc2_w 241, 3) := by decide +kernel
theorem d_129_9 : decode (codeOf 129) 9 = .ok (.iload_n 1, 1) := by decide +kernel
theorem d_129_10 : decode (codeOf 129) 10 = .ok (.i2l, 1) := by decide +kernel
theorem d_129_11 : decode (codeOf 129) 11 = .ok (.lmul, 1) := by decide +kernel
theorem d_129_12 : decode (codeOf 129) 12 = .ok (.ladd, 1) := by decide +kernel
theorem d_129_13 : decode (codeOf 129) 13 = .ok (.lconst 1, 1) := by decide +kernel
theorem d_129_14 : decode (codeOf 129) 14 = .ok (.ladd, 1) := by decide +kernel
theorem d_129_15 : decode (codeOf 129) 15 = .ok (.lstore_n 2, 1) := by decide +kernel
theorem d_129_16 : decode (codeOf 129) 16 = .ok (.lload_n 2, 1) := by decide +kernel
theorem d_129_17 : decode (codeOf 129) 17 = .ok (.lload_n 2, 1) := by decide +kernel
theorem d_129_18 : decode (codeOf 129) 18 = .ok (.lmul, 1) := by decide +kernel
theorem d_129_19 : decode (codeOf 129) 19 = .ok (.ldc2_w 243, 3) := by decide +kernel
theorem d_129_22 : decode (codeOf 129) 22 = .ok (.lrem, 1) := by decide +kernel
theorem d_129_23 : decode (codeOf 129) 23 = .ok (.l2i, 1) := by decide +kernel
theorem d_129_24 : decode (codeOf 129) 24 = .ok (.ireturn, 1) := by decide +kernel
theorem d_130_0 : decode (codeOf 130) 0 = .ok (.aload_n 0, 1) := by decide +kernel
theorem d_130_1 : decode (codeOf 130) 1 = .ok (.getfield 23, 3) := by decide +kernel
theorem d_130_4 : decode (codeOf 130) 4 = .ok (.invokevirtual 92, 3) := by decide +kernel
theorem d_130_7 : decode (codeOf 130) 7 = .ok (.istore_n 2, 1) := by decide +kernel
theorem d_130_8 : decode (codeOf 130) 8 = .ok (.iload_n 2, 1) := by decide +kernel
theorem d_130_9 : decode (codeOf 130) 9 = .ok (.ifCond .le 9, 3) := by decide +kernel
theorem d_130_12 : decode (codeOf 130) 12 = .ok (.iload_n 1, 1) := by decide +kernel
theorem d_130_13 : decode (codeOf 130) 13 = .ok (.iload_n 2, 1) := by decide +kernel
theorem d_130_14 : decode (codeOf 130) 14 = .ok (.irem, 1) := by decide +kernel
theorem d_130_15 : decode (codeOf 130) 15 = .ok (.goto 4, 3) := by decide +kernel
theorem d_130_18 : decode (codeOf 130) 18 = .ok (.iconst 0, 1) := by decide +kernel
theorem d_130_19 : decode (codeOf 130) 19 = .ok (.istore_n 3, 1) := by decide +kernel
theorem d_130_20 : decode (codeOf 130) 20 = .ok (.aload_n 0, 1) := by decide +kernel
theorem d_130_21 : decode (codeOf 130) 21 = .ok (.getfield 23, 3) := by decide +kernel
theorem d_130_24 : decode (codeOf 130) 24 = .ok (.iload_n 3, 1) := by decide +kernel
theorem d_130_25 : decode (codeOf 130) 25 = .ok (.invokevirtual 134, 3) := by decide +kernel
theorem d_130_28 : decode (codeOf 130) 28 = .ok (.istore 4, 2) := by decide +kernel
theorem d_130_30 : decode (codeOf 130) 30 = .ok (.iload 4, 2) := by decide +kernel
theorem d_130_32 : decode (codeOf 130) 32 = .ok (.ifCond .gt 4, 3) := by decide +kernel
theorem d_130_35 : decode (codeOf 130) 35 = .ok (.return_, 1) := by decide +kernel
theorem d_130_36 : decode (codeOf 130) 36 = .ok (.getstatic 245, 3) := by decide +kernel
theorem d_130_39 : decode (codeOf 130) 39 = .ok (.iload_n 1, 1) := by decide +kernel
theorem d_130_40 : decode (codeOf 130) 40 = .ok (.bipush 64, 2) := by decide +kernel
theorem d_130_42 : decode (codeOf 130) 42 = .ok (.idiv, 1) := by decide +kernel
theorem d_130_43 : decode (codeOf 130) 43 = .ok (.getstatic 245, 3) := by decide +kernel
theorem d_130_46 : decode (codeOf 130) 46 = .ok (.arraylength, 1) := by decide +kernel
theorem d_130_47 : decode (codeOf 130) 47 = .ok (.irem, 1) := by decide +kernel
theorem d_130_48 : decode (codeOf 130) 48 = .ok (.iaload, 1) := by decide +kernel
theorem d_130_49 : decode (codeOf 130) 49 = .ok (.istore 5, 2) := by decide +kernel
theorem d_130_51 : decode (codeOf 130) 51 = .ok (.iload_n 1, 1) := by decide +kernel
theorem d_130_52 : decode (codeOf 130) 52 = .ok (.sipush 512, 3) := by decide +kernel
theorem d_130_55 : decode (codeOf 130) 55 = .ok (.idiv, 1) := by decide +kernel
theorem d_130_56 : decode (codeOf 130) 56 = .ok (.iconst 4, 1) := by decide +kernel
theorem d_130_57 : decode (codeOf 130) 57 = .ok (.irem, 1) := by decide +kernel
theorem d_130_58 : decode (codeOf 130) 58 = .ok (.istore 6, 2) := by decide +kernel
theorem d_130_60 : decode (codeOf 130) 60 = .ok (.iload_n 1, 1) := by decide +kernel
theorem d_130_61 : decode (codeOf 130) 61 = .ok (.sipush 2048, 3) := by decide +kernel
theorem d_130_64 : decode (codeOf 130) 64 = .ok (.idiv, 1) := by decide +kernel
theorem d_130_65 : decode (codeOf 130) 65 = .ok (.iconst 4, 1) := by decide +kernel
theorem d_130_66 : decode (codeOf 130) 66 = .ok (.irem, 1) := by decide +kernel
theorem d_130_67 : decode (codeOf 130) 67 = .ok (.istore 7, 2) := by decide +kernel
theorem d_130_69 : decode (codeOf 130) 69 = .ok (.iload 5, 2) := by decide +kernel
theorem d_130_71 : decode (codeOf 130) 71 = .ok (.iconst 1, 1) := by decide +kernel
theorem d_130_72 : decode (codeOf 130) 72 = .ok (.if_icmp .ne 9, 3) := by decide +kernel
theorem d_130_75 : decode (codeOf 130) 75 = .ok (.iconst 1, 1) := by decide +kernel
theorem d_130_76 : decode (codeOf 130) 76 = .ok (.istore 7, 2) := by decide +kernel
theorem d_130_78 : decode (codeOf 130) 78 = .ok (.goto 20, 3) := by decide +kernel
theorem d_130_81 : decode (codeOf 130) 81 = .ok (.iload 5, 2) := by decide +kernel
theorem d_130_83 : decode (codeOf 130) 83 = .ok (.bipush 6, 2) := by decide +kernel
theorem d_130_85 : decode (codeOf 130) 85 = .ok (.if_icmp .eq 10, 3) := by decide +kernel
theorem d_130_88 : decode (codeOf 130) 88 = .ok (.iload 5, 2) := by decide +kernel
theorem d_130_90 : decode (codeOf 130) 90 = .ok (.bipush 7, 2) := by decide +kernel
theorem d_130_92 : decode (codeOf 130) 92 = .ok (.if_icmp .ne 6, 3) := by decide +kernel
theorem d_130_95 : decode (codeOf 130) 95 = .ok (.iconst 0, 1) := by decide +kernel
theorem d_130_96 : decode (codeOf 130) 96 = .ok (.istore 7, 2) := by decide +kernel
theorem d_130_98 : decode (codeOf 130) 98 = .ok (.aload_n 0, 1) := by decide +kernel
theorem d_130_99 : decode (codeOf 130) 99 = .ok (.getfield 23, 3) := by decide +kernel
theorem d_130_102 : decode (codeOf 130) 102 = .ok (.iload_n 3, 1) := by decide +kernel
theorem d_130_103 : decode (codeOf 130) 103 = .ok (.iload_n 1, 1) := by decide +kernel
theorem d_130_104 : decode (codeOf 130) 104 = .ok (.bipush 8, 2) := by decide +kernel
theorem d_130_106 : decode (codeOf 130) 106 = .ok (.idiv, 1) := by decide +kernel
theorem d_130_107 : decode (codeOf 130) 107 = .ok (.iload 4, 2) := by decide +kernel
theorem d_130_109 : decode (codeOf 130) 109 = .ok (.irem, 1) := by decide +kernel
theorem d_130_110 : decode (codeOf 130) 110 = .ok (.iload 5, 2) := by decide +kernel
theorem d_130_112 : decode (codeOf 130) 112 = .ok (.iload 6, 2) := by decide +kernel
theorem d_130_114 : decode (codeOf 130) 114 = .ok (.iload 7, 2) := by decide +kernel
theorem d_130_116 : decode (codeOf 130) 116 = .ok (.iconst 0, 1) := by decide +kernel
theorem d_130_117 : decode (codeOf 130) 117 = .ok (.invokevirtual 130, 3) := by decide +kernel
theorem d_130_120 : decode (codeOf 130) 120 = .ok (.return_, 1) := by decide +kernel
theorem d_131_0 : decode (codeOf 131) 0 = .ok (.aload_n 0, 1) := by decide +kernel
theorem d_131_1 : decode (codeOf 131) 1 = .ok (.getfield 49, 3) := by decide +kernel
theorem d_131_4 : decode (codeOf 131) 4 = .ok (.getfield 160, 3) := by decide +kernel
theorem d_131_7 : decode (codeOf 131) 7 = .ok (.iconst 2, 1) := by decide +kernel
theorem d_131_8 : decode (codeOf 131) 8 = .ok (.if_icmp .lt 6, 3) := by decide +kernel
theorem d_131_11 : decode (codeOf 131) 11 = .ok (.bipush (-3), 2) := by decide +kernel
theorem d_131_13 : decode (codeOf 131) 13 = .ok (.ireturn, 1) := by decide +kernel
theorem d_131_14 : decode (codeOf 131) 14 = .ok (.aload_n 0, 1) := by decide +kernel
theorem d_131_15 : decode (codeOf 131) 15 = .ok (.getfield 49, 3) := by decide +kernel
theorem d_131_18 : decode (codeOf 131) 18 = .ok (.aload_n 0, 1) := by decide +kernel
theorem d_131_19 : decode (codeOf 131) 19 = .ok (.getfield 19, 3) := by decide +kernel
theorem d_131_22 : decode (codeOf 131) 22 = .ok (.getfield 74, 3) := by decide +kernel
theorem d_131_25 : decode (codeOf 131) 25 = .ok (.invokevirtual 127, 3) := by decide +kernel
theorem d_131_28 : decode (codeOf 131) 28 = .ok (.aload_n 0, 1) := by decide +kernel
theorem d_131_29 : decode (codeOf 131) 29 = .ok (.getfield 49, 3) := by decide +kernel
theorem d_131_32 : decode (codeOf 131) 32 = .ok (.getfield 160, 3) := by decide +kernel
theorem d_131_35 : decode (codeOf 131) 35 = .ok (.ireturn, 1) := by decide +kernel
theorem d_132_0 : decode (codeOf 132) 0 = .ok (.aload_n 0, 1) := by decide +kernel
theorem d_132_1 : decode (codeOf 132) 1 = .ok (.getfield 49, 3) := by decide +kernel
theorem d_132_4 : decode (codeOf 132) 4 = .ok (.getfield 160, 3) := by decide +kernel
theorem d_132_7 : decode (codeOf 132) 7 = .ok (.ifCond .ne 6, 3) := by decide +kernel
theorem d_132_10 : decode (codeOf 132) 10 = .ok (.bipush (-2), 2) := by decide +kernel
theorem d_132_12 : decode (codeOf 132) 12 = .ok (.ireturn, 1) := by decide +kernel
theorem d_132_13 : decode (codeOf 132) 13 = .ok (.aload_n 0, 1) := by decide +kernel
theorem d_132_14 : decode (codeOf 132) 14 = .ok (.getfield 49, 3) := by decide +kernel
theorem d_132_17 : decode (codeOf 132) 17 = .ok (.aload_n 0, 1) := by decide +kernel
theorem d_132_18 : decode (codeOf 132) 18 = .ok (.getfield 19, 3) := by decide +kernel
theorem d_132_21 : decode (codeOf 132) 21 = .ok (.invokevirtual 163, 3) := by decide +kernel
theorem d_132_24 : decode (codeOf 132) 24 = .ok (.aload_n 0, 1) := by decide +kernel
theorem d_132_25 : decode (codeOf 132) 25 = .ok (.getfield 45, 3) := by decide +kernel
theorem d_132_28 : decode (codeOf 132) 28 = .ok (.invokevirtual 89, 3) := by decide +kernel
theorem d_132_31 : decode (codeOf 132) 31 = .ok (.aload_n 0, 1) := by decide +kernel
theorem d_132_32 : decode (codeOf 132) 32 = .ok (.getfield 49, 3) := by decide +kernel
theorem d_132_35 : decode (codeOf 132) 35 = .ok (.getfield 160, 3) := by decide +kernel
theorem d_132_38 : decode (codeOf 132) 38 = .ok (.ireturn, 1) := by decide +kernel
theorem d_133_0 : decode (codeOf 133) 0 = .ok (.iload_n 1, 1) := by decide +kernel
theorem d_133_1 : decode (codeOf 133) 1 = .ok (.tableswitch 113 0 6 #[43, 51, 59, 67, 89, 97, 105], 43) := by decide +kernel
theorem d_133_44 : decode (codeOf 133) 44 = .ok (.aload_n 0, 1) := by decide +kernel
theorem d_133_45 : decode (codeOf 133) 45 = .ok (.getfield 19, 3) := by decide +kernel
theorem d_133_48 : decode (codeOf 133) 48 = .ok (.invokevirtual 248, 3) := by decide +kernel
theorem d_133_51 : decode (codeOf 133) 51 = .ok (.ireturn, 1) := by decide +kernel
theorem d_133_52 : decode (codeOf 133) 52 = .ok (.aload_n 0, 1) := by decide +kernel
theorem d_133_53 : decode (codeOf 133) 53 = .ok (.getfield 19, 3) := by decide +kernel
theorem d_133_56 : decode (codeOf 133) 56 = .ok (.invokevirtual 92, 3) := by decide +kernel
theorem d_133_59 : decode (codeOf 133) 59 = .ok (.ireturn, 1) := by decide +kernel
theorem d_133_60 : decode (codeOf 133) 60 = .ok (.aload_n 0, 1) := by decide +kernel
theorem d_133_61 : decode (codeOf 133) 61 = .ok (.getfield 19, 3) := by decide +kernel
theorem d_133_64 : decode (codeOf 133) 64 = .ok (.invokevirtual 251, 3) := by decide +kernel
theorem d_133_67 : decode (codeOf 133) 67 = .ok (.ireturn, 1) := by decide +kernel
theorem d_133_68 : decode (codeOf 133) 68 = .ok (.aload_n 0, 1) := by decide +kernel
theorem d_133_69 : decode (codeOf 133) 69 = .ok (.getfield 29, 3) := by decide +kernel
theorem d_133_72 : decode (codeOf 133) 72 = .ok (.aload_n 0, 1) := by decide +kernel
theorem d_133_73 : decode (codeOf 133) 73 = .ok (.getfield 19, 3) := by decide +kernel
theorem d_133_76 : decode (codeOf 133) 76 = .ok (.invokevirtual 167, 3) := by decide +kernel
theorem d_133_79 : decode (codeOf 133) 79 = .ok (.aload_n 0, 1) := by decide +kernel
theorem d_133_80 : decode (codeOf 133) 80 = .ok (.getfield 29, 3) := by decide +kernel
theorem d_133_83 : decode (codeOf 133) 83 = .ok (.invokevirtual 191, 3) := by decide +kernel
theorem d_133_86 : decode (codeOf 133) 86 = .ok (.invokestatic 234, 3) := by decide +kernel
theorem d_133_89 : decode (codeOf 133) 89 = .ok (.ireturn, 1) := by decide +kernel
theorem d_133_90 : decode (codeOf 133) 90 = .ok (.aload_n 0, 1) := by decide +kernel
theorem d_133_91 : decode (codeOf 133) 91 = .ok (.getfield 45, 3) := by decide +kernel
theorem d_133_94 : decode (codeOf 133) 94 = .ok (.getfield 160, 3) := by decide +kernel
theorem d_133_97 : decode (codeOf 133) 97 = .ok (.ireturn, 1) := by decide +kernel
theorem d_133_98 : decode (codeOf 133) 98 = .ok (.aload_n 0, 1) := by decide +kernel
theorem d_133_99 : decode (codeOf 133) 99 = .ok (.getfield 49, 3) := by decide +kernel
theorem d_133_102 : decode (codeOf 133) 102 = .ok (.getfield 160, 3) := by decide +kernel
theorem d_133_105 : decode (codeOf 133) 105 = .ok (.ireturn, 1) := by decide +kernel
theorem d_133_106 : decode (codeOf 133) 106 = .ok (.aload_n 0, 1) := by decide +kernel
theorem d_133_107 : decode (codeOf 133) 107 = .ok (.getfield 10, 3) := by decide +kernel
theorem d_133_110 : decode (codeOf 133) 110 = .ok (.getfield 82, 3) := by decide +kernel
theorem d_133_113 : decode (codeOf 133) 113 = .ok (.ireturn, 1) := by decide +kernel
theorem d_133_114 : decode (codeOf 133) 114 = .ok (.iconst (-1), 1) := by decide +kernel
theorem d_133_115 : decode (codeOf 133) 115 = .ok (.ireturn, 1) := by decide +kernel
theorem d_134_0 : decode (codeOf 134) 0 = .ok (.aload_n 0, 1) := by decide +kernel
theorem d_134_1 : decode (codeOf 134) 1 = .ok (.invokespecial 1, 3) := by decide +kernel
theorem d_134_4 : decode (codeOf 134) 4 = .ok (.aload_n 0, 1) := by decide +kernel
theorem d_134_5 : decode (codeOf 134) 5 = .ok (.iconst 4, 1) := by decide +kernel
theorem d_134_6 : decode (codeOf 134) 6 = .ok (.newarray .int, 2) := by decide +kernel
theorem d_134_8 : decode (codeOf 134) 8 = .ok (.putfield 7, 3) := by decide +kernel
theorem d_134_11 : decode (codeOf 134) 11 = .ok (.aload_n 0, 1) := by decide +kernel
theorem d_134_12 : decode (codeOf 134) 12 = .ok (.bipush 12, 2) := by decide +kernel
theorem d_134_14 : decode (codeOf 134) 14 = .ok (.newarray .int, 2) := by decide +kernel
theorem d_134_16 : decode (codeOf 134) 16 = .ok (.putfield 13, 3) := by decide +kernel
theorem d_134_19 : decode (codeOf 134) 19 = .ok (.aload_n 0, 1) := by decide +kernel
theorem d_134_20 : decode (codeOf 134) 20 = .ok (.iconst 4, 1) := by decide +kernel
theorem d_134_21 : decode (codeOf 134) 21 = .ok (.newarray .int, 2) := by decide +kernel
theorem d_134_23 : decode (codeOf 134) 23 = .ok (.putfield 16, 3) := by decide +kernel
theorem d_134_26 : decode (codeOf 134) 26 = .ok (.aload_n 0, 1) := by decide +kernel
theorem d_134_27 : decode (codeOf 134) 27 = .ok (.bipush 12, 2) := by decide +kernel
theorem d_134_29 : decode (codeOf 134) 29 = .ok (.newarray .int, 2) := by decide +kernel
theorem d_134_31 : decode (codeOf 134) 31 = .ok (.putfield 19, 3) := by decide +kernel
theorem d_134_34 : decode (codeOf 134) 34 = .ok (.aload_n 0, 1) := by decide +kernel
theorem d_134_35 : decode (codeOf 134) 35 = .ok (.iconst 4, 1) := by decide +kernel
theorem d_134_36 : decode (codeOf 134) 36 = .ok (.newarray .int, 2) := by decide +kernel
theorem d_134_38 : decode (codeOf 134) 38 = .ok (.putfield 22, 3) := by decide +kernel
theorem d_134_41 : decode (codeOf 134) 41 = .ok (.aload_n 0, 1) := by decide +kernel
theorem d_134_42 : decode (codeOf 134) 42 = .ok (.bipush 12, 2) := by decide +kernel
theorem d_134_44 : decode (codeOf 134) 44 = .ok (.newarray .int, 2) := by decide +kernel
theorem d_134_46 : decode (codeOf 134) 46 = .ok (.putfield 25, 3) := by decide +kernel
theorem d_134_49 : decode (codeOf 134) 49 = .ok (.aload_n 0, 1) := by decide +kernel
theorem d_134_50 : decode (codeOf 134) 50 = .ok (.iconst 4, 1) := by decide +kernel
theorem d_134_51 : decode (codeOf 134) 51 = .ok (.newarray .int, 2) := by decide +kernel
theorem d_134_53 : decode (codeOf 134) 53 = .ok (.putfield 28, 3) := by decide +kernel
theorem d_134_56 : decode (codeOf 134) 56 = .ok (.aload_n 0, 1) := by decide +kernel
theorem d_134_57 : decode (codeOf 134) 57 = .ok (.bipush 12, 2) := by decide +kernel
theorem d_134_59 : decode (codeOf 134) 59 = .ok (.newarray .int, 2) := by decide +kernel
theorem d_134_61 : decode (codeOf 134) 61 = .ok (.putfield 31, 3) := by decide +kernel
theorem d_134_64 : decode (codeOf 134) 64 = .ok (.aload_n 0, 1) := by decide +kernel
theorem d_134_65 : decode (codeOf 134) 65 = .ok (.bipush 120, 2) := by decide +kernel
theorem d_134_67 : decode (codeOf 134) 67 = .ok (.newarray .int, 2) := by decide +kernel
theorem d_134_69 : decode (codeOf 134) 69 = .ok (.putfield 34, 3) := by decide +kernel
theorem d_134_72 : decode (codeOf 134) 72 = .ok (.aload_n 0, 1) := by decide +kernel
theorem d_134_73 : decode (codeOf 134) 73 = .ok (.sipush 1440, 3) := by decide +kernel
theorem d_134_76 : decode (codeOf 134) 76 = .ok (.newarray .int, 2) := by decide +kernel
theorem d_134_78 : decode (codeOf 134) 78 = .ok (.putfield 37, 3) := by decide +kernel
theorem d_134_81 : decode (codeOf 134) 81 = .ok (.aload_n 0, 1) := by decide +kernel
theorem d_134_82 : decode (codeOf 134) 82 = .ok (.sipush 200, 3) := by decide +kernel
theorem d_134_85 : decode (codeOf 134) 85 = .ok (.newarray .byte, 2) := by decide +kernel
theorem d_134_87 : decode (codeOf 134) 87 = .ok (.putfield 40, 3) := by decide +kernel
theorem d_134_90 : decode (codeOf 134) 90 = .ok (.aload_n 0, 1) := by decide +kernel
theorem d_134_91 : decode (codeOf 134) 91 = .ok (.iconst 4, 1) := by decide +kernel
theorem d_134_92 : decode (codeOf 134) 92 = .ok (.newarray .int, 2) := by decide +kernel
theorem d_134_94 : decode (codeOf 134) 94 = .ok (.putfield 44, 3) := by decide +kernel
theorem d_134_97 : decode (codeOf 134) 97 = .ok (.aload_n 0, 1) := by decide +kernel
theorem d_134_98 : decode (codeOf 134) 98 = .ok (.bipush 8, 2) := by decide +kernel
theorem d_134_100 : decode (codeOf 134) 100 = .ok (.newarray .int, 2) := by decide +kernel
theorem d_134_102 : decode (codeOf 134) 102 = .ok (.putfield 47, 3) := by decide +kernel
theorem d_134_105 : decode (codeOf 134) 105 = .ok (.aload_n 0, 1) := by decide +kernel
theorem d_134_106 : decode (codeOf 134) 106 = .ok (.iconst 4, 1) := by decide +kernel
theorem d_134_107 : decode (codeOf 134) 107 = .ok (.newarray .int, 2) := by decide +kernel
theorem d_134_109 : decode (codeOf 134) 109 = .ok (.putfield 50, 3) := by decide +kernel
theorem d_134_112 : decode (codeOf 134) 112 = .ok (.aload_n 0, 1) := by decide +kernel
theorem d_134_113 : decode (codeOf 134) 113 = .ok (.bipush 48, 2) := by decide +kernel
theorem d_134_115 : decode (codeOf 134) 115 = .ok (.newarray .int, 2) := by decide +kernel
theorem d_134_117 : decode (codeOf 134) 117 = .ok (.putfield 53, 3) := by decide +kernel
theorem d_134_120 : decode (codeOf 134) 120 = .ok (.aload_n 0, 1) := by decide +kernel
theorem d_134_121 : decode (codeOf 134) 121 = .ok (.bipush 12, 2) := by decide +kernel
theorem d_134_123 : decode (codeOf 134) 123 = .ok (.newarray .int, 2) := by decide +kernel
theorem d_134_125 : decode (codeOf 134) 125 = .ok (.putfield 56, 3) := by decide +kernel
theorem d_134_128 : decode (codeOf 134) 128 = .ok (.aload_n 0, 1) := by decide +kernel
theorem d_134_129 : decode (codeOf 134) 129 = .ok (.bipush 16, 2) := by decide +kernel
theorem d_134_131 : decode (codeOf 134) 131 = .ok (.newarray .int, 2) := by decide +kernel
theorem d_134_133 : decode (codeOf 134) 133 = .ok (.putfield 59, 3) := by decide +kernel
theorem d_134_136 : decode (codeOf 134) 136 = .ok (.aload_n 0, 1) := by decide +kernel
theorem d_134_137 : decode (codeOf 134) 137 = .ok (.invokevirtual 62, 3) := by decide +kernel
theorem d_134_140 : decode (codeOf 134) 140 = .ok (.aload_n 0, 1) := by decide +kernel
theorem d_134_141 : decode (codeOf 134) 141 = .ok (.iconst 2, 1) := by decide +kernel
theorem d_134_142 : decode (codeOf 134) 142 = .ok (.iconst 0, 1) := by decide +kernel
theorem d_134_143 : decode (codeOf 134) 143 = .ok (.invokevirtual 65, 3) := by decide +kernel
theorem d_134_146 : decode (codeOf 134) 146 = .ok (.aload_n 0, 1) := by decide +kernel
theorem d_134_147 : decode (codeOf 134) 147 = .ok (.iconst 2, 1) := by decide +kernel
theorem d_134_148 : decode (codeOf 134) 148 = .ok (.bipush 10, 2) := by decide +kernel
theorem d_134_150 : decode (codeOf 134) 150 = .ok (.invokevirtual 65, 3) := by decide +kernel
theorem d_134_153 : decode (codeOf 134) 153 = .ok (.aload_n 0, 1) := by decide +kernel
theorem d_134_154 : decode (codeOf 134) 154 = .ok (.sipush 1111, 3) := by decide +kernel
theorem d_134_157 : decode (codeOf 134) 157 = .ok (.iconst 0, 1) := by decide +kernel
theorem d_134_158 : decode (codeOf 134) 158 = .ok (.iconst 0, 1) := by decide +kernel
theorem d_134_159 : decode (codeOf 134) 159 = .ok (.invokevirtual 69, 3) := by decide +kernel
theorem d_134_162 : decode (codeOf 134) 162 = .ok (.aload_n 0, 1) := by decide +kernel
theorem d_134_163 : decode (codeOf 134) 163 = .ok (.iconst 3, 1) := by decide +kernel
theorem d_134_164 : decode (codeOf 134) 164 = .ok (.iconst 1, 1) := by decide +kernel
theorem d_134_165 : decode (codeOf 134) 165 = .ok (.iconst 0, 1) := by decide +kernel
theorem d_134_166 : decode (codeOf 134) 166 = .ok (.iconst 0, 1) := by decide +kernel
theorem d_134_167 : decode (codeOf 134) 167 = .ok (.invokevirtual 73, 3) := by decide +kernel
theorem d_134_170 : decode (codeOf 134) 170 = .ok (.aload_n 0, 1) := by decide +kernel
theorem d_134_171 : decode (codeOf 134) 171 = .ok (.iconst 4, 1) := by decide +kernel
theorem d_134_172 : decode (codeOf 134) 172 = .ok (.iconst 1, 1) := by decide +kernel
theorem d_134_173 : decode (codeOf 134) 173 = .ok (.iconst 0, 1) := by decide +kernel
theorem d_134_174 : decode (codeOf 134) 174 = .ok (.iconst 0, 1) := by decide +kernel
theorem d_134_175 : decode (codeOf 134) 175 = .ok (.invokevirtual 73, 3) := by decide +kernel
theorem d_134_178 : decode (codeOf 134) 178 = .ok (.aload_n 0, 1) := by decide +kernel
theorem d_134_179 : decode (codeOf 134) 179 = .ok (.iconst 4, 1) := by decide +kernel
theorem d_134_180 : decode (codeOf 134) 180 = .ok (.iconst 1, 1) := by decide +kernel
theorem d_134_181 : decode (codeOf 134) 181 = .ok (.iconst 1, 1) := by decide +kernel
theorem d_134_182 : decode (codeOf 134) 182 = .ok (.iconst 2, 1) := by decide +kernel
theorem d_134_183 : decode (codeOf 134) 183 = .ok (.invokevirtual 73, 3) := by decide +kernel
theorem d_134_186 : decode (codeOf 134) 186 = .ok (.aload_n 0, 1) := by decide +kernel
theorem d_134_187 : decode (codeOf 134) 187 = .ok (.bipush 6, 2) := by decide +kernel
theorem d_134_189 : decode (codeOf 134) 189 = .ok (.iconst 1, 1) := by decide +kernel
theorem d_134_190 : decode (codeOf 134) 190 = .ok (.iconst 0, 1) := by decide +kernel
theorem d_134_191 : decode (codeOf 134) 191 = .ok (.iconst 0, 1) := by decide +kernel
theorem d_134_192 : decode (codeOf 134) 192 = .ok (.invokevirtual 73, 3) := by decide +kernel
theorem d_134_195 : decode (codeOf 134) 195 = .ok (.aload_n 0, 1) := by decide +kernel
theorem d_134_196 : decode (codeOf 134) 196 = .ok (.bipush 11, 2) := by decide +kernel
theorem d_134_198 : decode (codeOf 134) 198 = .ok (.iconst 1, 1) := by decide +kernel
theorem d_134_199 : decode (codeOf 134) 199 = .ok (.iconst 2, 1) := by decide +kernel
theorem d_134_200 : decode (codeOf 134) 200 = .ok (.iconst 0, 1) := by decide +kernel
theorem d_134_201 : decode (codeOf 134) 201 = .ok (.invokevirtual 73, 3) := by decide +kernel
theorem d_134_204 : decode (codeOf 134) 204 = .ok (.aload_n 0, 1) := by decide +kernel
theorem d_134_205 : decode (codeOf 134) 205 = .ok (.sipush 1018, 3) := by decide +kernel
theorem d_134_208 : decode (codeOf 134) 208 = .ok (.iconst 1, 1) := by decide +kernel
theorem d_134_209 : decode (codeOf 134) 209 = .ok (.iconst 1, 1) := by decide +kernel
theorem d_134_210 : decode (codeOf 134) 210 = .ok (.invokevirtual 69, 3) := by decide +kernel
theorem d_134_213 : decode (codeOf 134) 213 = .ok (.aload_n 0, 1) := by decide +kernel
theorem d_134_214 : decode (codeOf 134) 214 = .ok (.getfield 31, 3) := by decide +kernel
theorem d_134_217 : decode (codeOf 134) 217 = .ok (.iconst 3, 1) := by decide +kernel
theorem d_134_218 : decode (codeOf 134) 218 = .ok (.iconst 2, 1) := by decide +kernel
theorem d_134_219 : decode (codeOf 134) 219 = .ok (.iastore, 1) := by decide +kernel
theorem d_134_220 : decode (codeOf 134) 220 = .ok (.aload_n 0, 1) := by decide +kernel
theorem d_134_221 : decode (codeOf 134) 221 = .ok (.bipush 7, 2) := by decide +kernel
theorem d_134_223 : decode (codeOf 134) 223 = .ok (.iconst 1, 1) := by decide +kernel
theorem d_134_224 : decode (codeOf 134) 224 = .ok (.iconst 0, 1) := by decide +kernel
theorem d_134_225 : decode (codeOf 134) 225 = .ok (.iconst 0, 1) := by decide +kernel
theorem d_134_226 : decode (codeOf 134) 226 = .ok (.invokevirtual 73, 3) := by decide +kernel
theorem d_134_229 : decode (codeOf 134) 229 = .ok (.aload_n 0, 1) := by decide +kernel
theorem d_134_230 : decode (codeOf 134) 230 = .ok (.iconst 5, 1) := by decide +kernel
theorem d_134_231 : decode (codeOf 134) 231 = .ok (.iconst 0, 1) := by decide +kernel
theorem d_134_232 : decode (codeOf 134) 232 = .ok (.iconst 1, 1) := by decide +kernel
theorem d_134_233 : decode (codeOf 134) 233 = .ok (.iconst 0, 1) := by decide +kernel
theorem d_134_234 : decode (codeOf 134) 234 = .ok (.invokevirtual 73, 3) := by decide +kernel
theorem d_134_237 : decode (codeOf 134) 237 = .ok (.aload_n 0, 1) := by decide +kernel
theorem d_134_238 : decode (codeOf 134) 238 = .ok (.iconst 2, 1) := by decide +kernel
theorem d_134_239 : decode (codeOf 134) 239 = .ok (.iconst 0, 1) := by decide +kernel
theorem d_134_240 : decode (codeOf 134) 240 = .ok (.iconst 2, 1) := by decide +kernel
theorem d_134_241 : decode (codeOf 134) 241 = .ok (.iconst 0, 1) := by decide +kernel
theorem d_134_242 : decode (codeOf 134) 242 = .ok (.invokevirtual 73, 3) := by decide +kernel
theorem d_134_245 : decode (codeOf 134) 245 = .ok (.aload_n 0, 1) := by decide +kernel
theorem d_134_246 : decode (codeOf 134) 246 = .ok (.bipush 12, 2) := by decide +kernel
theorem d_134_248 : decode (codeOf 134) 248 = .ok (.iconst 3, 1) := by decide +kernel
theorem d_134_249 : decode (codeOf 134) 249 = .ok (.iconst 0, 1) := by decide +kernel
theorem d_134_250 : decode (codeOf 134) 250 = .ok (.iconst 0, 1) := by decide +kernel
theorem d_134_251 : decode (codeOf 134) 251 = .ok (.invokevirtual 73, 3) := by decide +kernel
theorem d_134_254 : decode (codeOf 134) 254 = .ok (.aload_n 0, 1) := by decide +kernel
theorem d_134_255 : decode (codeOf 134) 255 = .ok (.sipush 1000, 3) := by decide +kernel
theorem d_134_258 : decode (codeOf 134) 258 = .ok (.iconst 0, 1) := by decide +kernel
theorem d_134_259 : decode (codeOf 134) 259 = .ok (.iconst 1, 1) := by decide +kernel
theorem d_134_260 : decode (codeOf 134) 260 = .ok (.invokevirtual 69, 3) := by decide +kernel
theorem d_134_263 : decode (codeOf 134) 263 = .ok (.aload_n 0, 1) := by decide +kernel
theorem d_134_264 : decode (codeOf 134) 264 = .ok (.bipush 13, 2) := by decide +kernel
theorem d_134_266 : decode (codeOf 134) 266 = .ok (.iconst 0, 1) := by decide +kernel
theorem d_134_267 : decode (codeOf 134) 267 = .ok (.iconst 0, 1) := by decide +kernel
theorem d_134_268 : decode (codeOf 134) 268 = .ok (.iconst 0, 1) := by decide +kernel
theorem d_134_269 : decode (codeOf 134) 269 = .ok (.invokevirtual 73, 3) := by decide +kernel
theorem d_134_272 : decode (codeOf 134) 272 = .ok (.aload_n 0, 1) := by decide +kernel
theorem d_134_273 : decode (codeOf 134) 273 = .ok (.invokevirtual 77, 3) := by decide +kernel
theorem d_134_276 : decode (codeOf 134) 276 = .ok (.return_, 1) := by decide +kernel
theorem d_135_0 : decode (codeOf 135) 0 = .ok (.lload_n 0, 1) := by decide +kernel
theorem d_135_1 : decode (codeOf 135) 1 = .ok (.lload_n 2, 1) := by decide +kernel
theorem d_135_2 : decode (codeOf 135) 2 = .ok (.lcmp, 1) := by decide +kernel
theorem d_135_3 : decode (codeOf 135) 3 = .ok (.ifCond .lt 14, 3) := by decide +kernel
theorem d_135_6 : decode (codeOf 135) 6 = .ok (.lload_n 0, 1) := by decide +kernel
theorem d_135_7 : decode (codeOf 135) 7 = .ok (.lload 4, 2) := by decide +kernel
theorem d_135_9 : decode (codeOf 135) 9 = .ok (.lcmp, 1) := by decide +kernel
theorem d_135_10 : decode (codeOf 135) 10 = .ok (.ifCond .gt 7, 3) := by decide +kernel
theorem d_135_13 : decode (codeOf 135) 13 = .ok (.iconst 1, 1) := by decide +kernel
theorem d_135_14 : decode (codeOf 135) 14 = .ok (.goto 4, 3) := by decide +kernel
theorem d_135_17 : decode (codeOf 135) 17 = .ok (.iconst 0, 1) := by decide +kernel
theorem d_135_18 : decode (codeOf 135) 18 = .ok (.ireturn, 1) := by decide +kernel
theorem d_136_0 : decode (codeOf 136) 0 = .ok (.iload_n 0, 1) := by decide +kernel
theorem d_136_1 : decode (codeOf 136) 1 = .ok (.iload_n 1, 1) := by decide +kernel
theorem d_136_2 : decode (codeOf 136) 2 = .ok (.ishr, 1) := by decide +kernel
theorem d_136_3 : decode (codeOf 136) 3 = .ok (.iconst 1, 1) := by decide +kernel
theorem d_136_4 : decode (codeOf 136) 4 = .ok (.iand, 1) := by decide +kernel
theorem d_136_5 : decode (codeOf 136) 5 = .ok (.iconst 1, 1) := by decide +kernel
theorem d_136_6 : decode (codeOf 136) 6 = .ok (.if_icmp .ne 7, 3) := by decide +kernel
theorem d_136_9 : decode (codeOf 136) 9 = .ok (.iconst 1, 1) := by decide +kernel
theorem d_136_10 : decode (codeOf 136) 10 = .ok (.goto 4, 3) := by decide +kernel
theorem d_136_13 : decode (codeOf 136) 13 = .ok (.iconst 0, 1) := by decide +kernel
theorem d_136_14 : decode (codeOf 136) 14 = .ok (.ireturn, 1) := by decide +kernel
theorem d_137_0 : decode (codeOf 137) 0 = .ok (.iconst 0, 1) := by decide +kernel
theorem d_137_1 : decode (codeOf 137) 1 = .ok (.istore_n 1, 1) := by decide +kernel
theorem d_137_2 : decode (codeOf 137) 2 = .ok (.iconst 0, 1) := by decide +kernel
theorem d_137_3 : decode (codeOf 137) 3 = .ok (.istore_n 2, 1) := by decide +kernel
theorem d_137_4 : decode (codeOf 137) 4 = .ok (.iload_n 2, 1) := by decide +kernel
theorem d_137_5 : decode (codeOf 137) 5 = .ok (.bipush 12, 2) := by decide +kernel
theorem d_137_7 : decode (codeOf 137) 7 = .ok (.if_icmp .ge 17, 3) := by decide +kernel
theorem d_137_10 : decode (codeOf 137) 10 = .ok (.iload_n 1, 1) := by decide +kernel
theorem d_137_11 : decode (codeOf 137) 11 = .ok (.iload_n 0, 1) := by decide +kernel
theorem d_137_12 : decode (codeOf 137) 12 = .ok (.iload_n 2, 1) := by decide +kernel
theorem d_137_13 : decode (codeOf 137) 13 = .ok (.ishr, 1) := by decide +kernel
theorem d_137_14 : decode (codeOf 137) 14 = .ok (.iconst 1, 1) := by decide +kernel
theorem d_137_15 : decode (codeOf 137) 15 = .ok (.iand, 1) := by decide +kernel
theorem d_137_16 : decode (codeOf 137) 16 = .ok (.iadd, 1) := by decide +kernel
theorem d_137_17 : decode (codeOf 137) 17 = .ok (.istore_n 1, 1) := by decide +kernel
theorem d_137_18 : decode (codeOf 137) 18 = .ok (.iinc 2 1, 3) := by decide +kernel
theorem d_137_21 : decode (codeOf 137) 21 = .ok (.goto (-17), 3) := by decide +kernel
theorem d_137_24 : decode (codeOf 137) 24 = .ok (.iload_n 1, 1) := by decide +kernel
theorem d_137_25 : decode (codeOf 137) 25 = .ok (.ireturn, 1) := by decide +kernel
theorem d_138_0 : decode (codeOf 138) 0 = .ok (.aload_n 0, 1) := by decide +kernel
theorem d_138_1 : decode (codeOf 138) 1 = .ok (.iconst 0, 1) := by decide +kernel
theorem d_138_2 : decode (codeOf 138) 2 = .ok (.putfield 80, 3) := by decide +kernel
theorem d_138_5 : decode (codeOf 138) 5 = .ok (.aload_n 0, 1) := by decide +kernel
theorem d_138_6 : decode (codeOf 138) 6 = .ok (.iconst 0, 1) := by decide +kernel
theorem d_138_7 : decode (codeOf 138) 7 = .ok (.putfield 84, 3) := by decide +kernel
theorem d_138_10 : decode (codeOf 138) 10 = .ok (.aload_n 0, 1) := by decide +kernel
theorem d_138_11 : decode (codeOf 138) 11 = .ok (.iconst 0, 1) := by decide +kernel
theorem d_138_12 : decode (codeOf 138) 12 = .ok (.putfield 87, 3) := by decide +kernel
theorem d_138_15 : decode (codeOf 138) 15 = .ok (.iconst 0, 1) := by decide +kernel
theorem d_138_16 : decode (codeOf 138) 16 = .ok (.istore_n 1, 1) := by decide +kernel
theorem d_138_17 : decode (codeOf 138) 17 = .ok (.iload_n 1, 1) := by decide +kernel
theorem d_138_18 : decode (codeOf 138) 18 = .ok (.bipush 120, 2) := by decide +kernel
theorem d_138_20 : decode (codeOf 138) 20 = .ok (.if_icmp .ge 16, 3) := by decide +kernel
theorem d_138_23 : decode (codeOf 138) 23 = .ok (.aload_n 0, 1) := by decide +kernel
theorem d_138_24 : decode (codeOf 138) 24 = .ok (.getfield 34, 3) := by decide +kernel
theorem d_138_27 : decode (codeOf 138) 27 = .ok (.iload_n 1, 1) := by decide +kernel
theorem d_138_28 : decode (codeOf 138) 28 = .ok (.iconst 0, 1) := by decide +kernel
theorem d_138_29 : decode (codeOf 138) 29 = .ok (.iastore, 1) := by decide +kernel
theorem d_138_30 : decode (codeOf 138) 30 = .ok (.iinc 1 1, 3) := by decide +kernel
theorem d_138_33 : decode (codeOf 138) 33 = .ok (.goto (-16), 3) := by decide +kernel
theorem d_138_36 : decode (codeOf 138) 36 = .ok (.return_, 1) := by decide +kernel
theorem d_139_0 : decode (codeOf 139) 0 = .ok (.aload_n 0, 1) := by decide +kernel
theorem d_139_1 : decode (codeOf 139) 1 = .ok (.getfield 22, 3) := by decide +kernel
theorem d_139_4 : decode (codeOf 139) 4 = .ok (.aload_n 0, 1) := by decide +kernel
theorem d_139_5 : decode (codeOf 139) 5 = .ok (.getfield 80, 3) := by decide +kernel
theorem d_139_8 : decode (codeOf 139) 8 = .ok (.iload_n 1, 1) := by decide +kernel
theorem d_139_9 : decode (codeOf 139) 9 = .ok (.iastore, 1) := by decide +kernel
theorem d_139_10 : decode (codeOf 139) 10 = .ok (.iload_n 2, 1) := by decide +kernel
theorem d_139_11 : decode (codeOf 139) 11 = .ok (.istore_n 3, 1) := by decide +kernel
theorem d_139_12 : decode (codeOf 139) 12 = .ok (.iload_n 1, 1) := by decide +kernel
theorem d_139_13 : decode (codeOf 139) 13 = .ok (.iconst 1, 1) := by decide +kernel
theorem d_139_14 : decode (codeOf 139) 14 = .ok (.isub, 1) := by decide +kernel
theorem d_139_15 : decode (codeOf 139) 15 = .ok (.istore 4, 2) := by decide +kernel
theorem d_139_17 : decode (codeOf 139) 17 = .ok (.iload 4, 2) := by decide +kernel
theorem d_139_19 : decode (codeOf 139) 19 = .ok (.ifCond .lt 34, 3) := by decide +kernel
theorem d_139_22 : decode (codeOf 139) 22 = .ok (.aload_n 0, 1) := by decide +kernel
theorem d_139_23 : decode (codeOf 139) 23 = .ok (.getfield 25, 3) := by decide +kernel
theorem d_139_26 : decode (codeOf 139) 26 = .ok (.iconst 3, 1) := by decide +kernel
theorem d_139_27 : decode (codeOf 139) 27 = .ok (.aload_n 0, 1) := by decide +kernel
theorem d_139_28 : decode (codeOf 139) 28 = .ok (.getfield 80, 3) := by decide +kernel
theorem d_139_31 : decode (codeOf 139) 31 = .ok (.imul, 1) := by decide +kernel
theorem d_139_32 : decode (codeOf 139) 32 = .ok (.iload 4, 2) := by decide +kernel
theorem d_139_34 : decode (codeOf 139) 34 = .ok (.iadd, 1) := by decide +kernel
theorem d_139_35 : decode (codeOf 139) 35 = .ok (.iload_n 3, 1) := by decide +kernel
theorem d_139_36 : decode (codeOf 139) 36 = .ok (.bipush 10, 2) := by decide +kernel
theorem d_139_38 : decode (codeOf 139) 38 = .ok (.irem, 1) := by decide +kernel
theorem d_139_39 : decode (codeOf 139) 39 = .ok (.iconst 1, 1) := by decide +kernel
theorem d_139_40 : decode (codeOf 139) 40 = .ok (.iadd, 1) := by decide +kernel
theorem d_139_41 : decode (codeOf 139) 41 = .ok (.iastore, 1) := by decide +kernel
theorem d_139_42 : decode (codeOf 139) 42 = .ok (.iload_n 3, 1) := by decide +kernel
theorem d_139_43 : decode (codeOf 139) 43 = .ok (.bipush 10, 2) := by decide +kernel
theorem d_139_45 : decode (codeOf 139) 45 = .ok (.idiv, 1) := by decide +kernel
theorem d_139_46 : decode (codeOf 139) 46 = .ok (.istore_n 3, 1) := by decide +kernel
theorem d_139_47 : decode (codeOf 139) 47 = .ok (.iinc 4 (-1), 3) := by decide +kernel
theorem d_139_50 : decode (codeOf 139) 50 = .ok (.goto (-33), 3) := by decide +kernel
theorem d_139_53 : decode (codeOf 139) 53 = .ok (.aload_n 0, 1) := by decide +kernel
theorem d_139_54 : decode (codeOf 139) 54 = .ok (.dup, 1) := by decide +kernel
theorem d_139_55 : decode (codeOf 139) 55 = .ok (.getfield 80, 3) := by decide +kernel
theorem d_139_58 : decode (codeOf 139) 58 = .ok (.iconst 1, 1) := by decide +kernel
theorem d_139_59 : decode (codeOf 139) 59 = .ok (.iadd, 1) := by decide +kernel
theorem d_139_60 : decode (codeOf 139) 60 = .ok (.putfield 80, 3) := by decide +kernel
theorem d_139_63 : decode (codeOf 139) 63 = .ok (.return_, 1) := by decide +kernel
theorem d_140_0 : decode (codeOf 140) 0 = .ok (.iload_n 1, 1) := by decide +kernel
theorem d_140_1 : decode (codeOf 140) 1 = .ok (.istore 4, 2) := by decide +kernel
theorem d_140_3 : decode (codeOf 140) 3 = .ok (.iconst 3, 1) := by decide +kernel
theorem d_140_4 : decode (codeOf 140) 4 = .ok (.istore 5, 2) := by decide +kernel
theorem d_140_6 : decode (codeOf 140) 6 = .ok (.iload 5, 2) := by decide +kernel
theorem d_140_8 : decode (codeOf 140) 8 = .ok (.ifCond .lt 36, 3) := by decide +kernel
theorem d_140_11 : decode (codeOf 140) 11 = .ok (.aload_n 0, 1) := by decide +kernel
theorem d_140_12 : decode (codeOf 140) 12 = .ok (.getfield 34, 3) := by decide +kernel
theorem d_140_15 : decode (codeOf 140) 15 = .ok (.bipush 30, 2) := by decide +kernel
theorem d_140_17 : decode (codeOf 140) 17 = .ok (.aload_n 0, 1) := by decide +kernel
theorem d_140_18 : decode (codeOf 140) 18 = .ok (.getfield 84, 3) := by decide +kernel
theorem d_140_21 : decode (codeOf 140) 21 = .ok (.imul, 1) := by decide +kernel
theorem d_140_22 : decode (codeOf 140) 22 = .ok (.iload 5, 2) := by decide +kernel
theorem d_140_24 : decode (codeOf 140) 24 = .ok (.iadd, 1) := by decide +kernel
theorem d_140_25 : decode (codeOf 140) 25 = .ok (.iload 4, 2) := by decide +kernel
theorem d_140_27 : decode (codeOf 140) 27 = .ok (.bipush 10, 2) := by decide +kernel
theorem d_140_29 : decode (codeOf 140) 29 = .ok (.irem, 1) := by decide +kernel
theorem d_140_30 : decode (codeOf 140) 30 = .ok (.iastore, 1) := by decide +kernel
theorem d_140_31 : decode (codeOf 140) 31 = .ok (.iload 4, 2) := by decide +kernel
theorem d_140_33 : decode (codeOf 140) 33 = .ok (.bipush 10, 2) := by decide +kernel
theorem d_140_35 : decode (codeOf 140) 35 = .ok (.idiv, 1) := by decide +kernel
theorem d_140_36 : decode (codeOf 140) 36 = .ok (.istore 4, 2) := by decide +kernel
theorem d_140_38 : decode (codeOf 140) 38 = .ok (.iinc 5 (-1), 3) := by decide +kernel
theorem d_140_41 : decode (codeOf 140) 41 = .ok (.goto (-35), 3) := by decide +kernel
theorem d_140_44 : decode (codeOf 140) 44 = .ok (.aload_n 0, 1) := by decide +kernel
theorem d_140_45 : decode (codeOf 140) 45 = .ok (.getfield 34, 3) := by decide +kernel
theorem d_140_48 : decode (codeOf 140) 48 = .ok (.bipush 30, 2) := by decide +kernel
theorem d_140_50 : decode (codeOf 140) 50 = .ok (.aload_n 0, 1) := by decide +kernel
theorem d_140_51 : decode (codeOf 140) 51 = .ok (.getfield 84, 3) := by decide +kernel
theorem d_140_54 : decode (codeOf 140) 54 = .ok (.imul, 1) := by decide +kernel
theorem d_140_55 : decode (codeOf 140) 55 = .ok (.iconst 4, 1) := by decide +kernel
theorem d_140_56 : decode (codeOf 140) 56 = .ok (.iadd, 1) := by decide +kernel
theorem d_140_57 : decode (codeOf 140) 57 = .ok (.iload_n 3, 1) := by decide +kernel
theorem d_140_58 : decode (codeOf 140) 58 = .ok (.iastore, 1) := by decide +kernel
theorem d_140_59 : decode (codeOf 140) 59 = .ok (.aload_n 0, 1) := by decide +kernel
theorem d_140_60 : decode (codeOf 140) 60 = .ok (.getfield 28, 3) := by decide +kernel
theorem d_140_63 : decode (codeOf 140) 63 = .ok (.aload_n 0, 1) := by decide +kernel
theorem d_140_64 : decode (codeOf 140) 64 = .ok (.getfield 84, 3) := by decide +kernel
theorem d_140_67 : decode (codeOf 140) 67 = .ok (.iload_n 2, 1) := by decide +kernel
theorem d_140_68 : decode (codeOf 140) 68 = .ok (.iastore, 1) := by decide +kernel
theorem d_140_69 : decode (codeOf 140) 69 = .ok (.aload_n 0, 1) := by decide +kernel
theorem d_140_70 : decode (codeOf 140) 70 = .ok (.dup, 1) := by decide +kernel
theorem d_140_71 : decode (codeOf 140) 71 = .ok (.getfield 84, 3) := by decide +kernel
theorem d_140_74 : decode (codeOf 140) 74 = .ok (.iconst 1, 1) := by decide +kernel
theorem d_140_75 : decode (codeOf 140) 75 = .ok (.iadd, 1) := by decide +kernel
theorem d_140_76 : decode (codeOf 140) 76 = .ok (.putfield 84, 3) := by decide +kernel
theorem d_140_79 : decode (codeOf 140) 79 = .ok (.return_, 1) := by decide +kernel
theorem d_141_0 : decode (codeOf 141) 0 = .ok (.bipush 30, 2) := by decide +kernel
theorem d_141_2 : decode (codeOf 141) 2 = .ok (.aload_n 0, 1) := by decide +kernel
theorem d_141_3 : decode (codeOf 141) 3 = .ok (.getfield 84, 3) := by decide +kernel
theorem d_141_6 : decode (codeOf 141) 6 = .ok (.iconst 1, 1) := by decide +kernel
theorem d_141_7 : decode (codeOf 141) 7 = .ok (.isub, 1) := by decide +kernel
theorem d_141_8 : decode (codeOf 141) 8 = .ok (.imul, 1) := by decide +kernel
theorem d_141_9 : decode (codeOf 141) 9 = .ok (.istore 5, 2) := by decide +kernel
theorem d_141_11 : decode (codeOf 141) 11 = .ok (.iload 5, 2) := by decide +kernel
theorem d_141_13 : decode (codeOf 141) 13 = .ok (.bipush 6, 2) := by decide +kernel
theorem d_141_15 : decode (codeOf 141) 15 = .ok (.iadd, 1) := by decide +kernel
theorem d_141_16 : decode (codeOf 141) 16 = .ok (.iconst 4, 1) := by decide +kernel
theorem d_141_17 : decode (codeOf 141) 17 = .ok (.aload_n 0, 1) := by decide +kernel
theorem d_141_18 : decode (codeOf 141) 18 = .ok (.getfield 34, 3) := by decide +kernel
theorem d_141_21 : decode (codeOf 141) 21 = .ok (.iload 5, 2) := by decide +kernel
theorem d_141_23 : decode (codeOf 141) 23 = .ok (.iconst 5, 1) := by decide +kernel
theorem d_141_24 : decode (codeOf 141) 24 = .ok (.iadd, 1) := by decide +kernel
theorem d_141_25 : decode (codeOf 141) 25 = .ok (.iaload, 1) := by decide +kernel
theorem d_141_26 : decode (codeOf 141) 26 = .ok (.imul, 1) := by decide +kernel
theorem d_141_27 : decode (codeOf 141) 27 = .ok (.iadd, 1) := by decide +kernel
theorem d_141_28 : decode (codeOf 141) 28 = .ok (.istore 6, 2) := by decide +kernel
theorem d_141_30 : decode (codeOf 141) 30 = .ok (.aload_n 0, 1) := by decide +kernel
theorem d_141_31 : decode (codeOf 141) 31 = .ok (.getfield 34, 3) := by decide +kernel
theorem d_141_34 : decode (codeOf 141) 34 = .ok (.iload 6, 2) := by decide +kernel
theorem d_141_36 : decode (codeOf 141) 36 = .ok (.iload_n 1, 1) := by decide +kernel
theorem d_141_37 : decode (codeOf 141) 37 = .ok (.iastore, 1) := by decide +kernel
theorem d_141_38 : decode (codeOf 141) 38 = .ok (.aload_n 0, 1) := by decide +kernel
theorem d_141_39 : decode (codeOf 141) 39 = .ok (.getfield 34, 3) := by decide +kernel
theorem d_141_42 : decode (codeOf 141) 42 = .ok (.iload 6, 2) := by decide +kernel
theorem d_141_44 : decode (codeOf 141) 44 = .ok (.iconst 1, 1) := by decide +kernel
theorem d_141_45 : decode (codeOf 141) 45 = .ok (.iadd, 1) := by decide +kernel
theorem d_141_46 : decode (codeOf 141) 46 = .ok (.iload_n 2, 1) := by decide +kernel
theorem d_141_47 : decode (codeOf 141) 47 = .ok (.iastore, 1) := by decide +kernel
theorem d_141_48 : decode (codeOf 141) 48 = .ok (.aload_n 0, 1) := by decide +kernel
theorem d_141_49 : decode (codeOf 141) 49 = .ok (.getfield 34, 3) := by decide +kernel
theorem d_141_52 : decode (codeOf 141) 52 = .ok (.iload 6, 2) := by decide +kernel
theorem d_141_54 : decode (codeOf 141) 54 = .ok (.iconst 2, 1) := by decide +kernel
theorem d_141_55 : decode (codeOf 141) 55 = .ok (.iadd, 1) := by decide +kernel
theorem d_141_56 : decode (codeOf 141) 56 = .ok (.iload_n 3, 1) := by decide +kernel
theorem d_141_57 : decode (codeOf 141) 57 = .ok (.iastore, 1) := by decide +kernel
theorem d_141_58 : decode (codeOf 141) 58 = .ok (.aload_n 0, 1) := by decide +kernel
theorem d_141_59 : decode (codeOf 141) 59 = .ok (.getfield 34, 3) := by decide +kernel
theorem d_141_62 : decode (codeOf 141) 62 = .ok (.iload 6, 2) := by decide +kernel
theorem d_141_64 : decode (codeOf 141) 64 = .ok (.iconst 3, 1) := by decide +kernel
theorem d_141_65 : decode (codeOf 141) 65 = .ok (.iadd, 1) := by decide +kernel
theorem d_141_66 : decode (codeOf 141) 66 = .ok (.iload 4, 2) := by decide +kernel
theorem d_141_68 : decode (codeOf 141) 68 = .ok (.iastore, 1) := by decide +kernel
theorem d_141_69 : decode (codeOf 141) 69 = .ok (.aload_n 0, 1) := by decide +kernel
theorem d_141_70 : decode (codeOf 141) 70 = .ok (.getfield 34, 3) := by decide +kernel
theorem d_141_73 : decode (codeOf 141) 73 = .ok (.iload 5, 2) := by decide +kernel
theorem d_141_75 : decode (codeOf 141) 75 = .ok (.iconst 5, 1) := by decide +kernel
theorem d_141_76 : decode (codeOf 141) 76 = .ok (.iadd, 1) := by decide +kernel
theorem d_141_77 : decode (codeOf 141) 77 = .ok (.dup2, 1) := by decide +kernel
theorem d_141_78 : decode (codeOf 141) 78 = .ok (.iaload, 1) := by decide +kernel
theorem d_141_79 : decode (codeOf 141) 79 = .ok (.iconst 1, 1) := by decide +kernel
theorem d_141_80 : decode (codeOf 141) 80 = .ok (.iadd, 1) := by decide +kernel
theorem d_141_81 : decode (codeOf 141) 81 = .ok (.iastore, 1) := by decide +kernel
theorem d_141_82 : decode (codeOf 141) 82 = .ok (.return_, 1) := by decide +kernel
theorem d_142_0 : decode (codeOf 142) 0 = .ok (.aload_n 0, 1) := by decide +kernel
theorem d_142_1 : decode (codeOf 142) 1 = .ok (.aload_n 0, 1) := by decide +kernel
theorem d_142_2 : decode (codeOf 142) 2 = .ok (.getfield 80, 3) := by decide +kernel
theorem d_142_5 : decode (codeOf 142) 5 = .ok (.putfield 90, 3) := by decide +kernel
theorem d_142_8 : decode (codeOf 142) 8 = .ok (.aload_n 0, 1) := by decide +kernel
theorem d_142_9 : decode (codeOf 142) 9 = .ok (.aload_n 0, 1) := by decide +kernel
theorem d_142_10 : decode (codeOf 142) 10 = .ok (.getfield 84, 3) := by decide +kernel
theorem d_142_13 : decode (codeOf 142) 13 = .ok (.putfield 93, 3) := by decide +kernel
theorem d_142_16 : decode (codeOf 142) 16 = .ok (.iconst 0, 1) := by decide +kernel
theorem d_142_17 : decode (codeOf 142) 17 = .ok (.istore_n 1, 1) := by decide +kernel
theorem d_142_18 : decode (codeOf 142) 18 = .ok (.iload_n 1, 1) := by decide +kernel
theorem d_142_19 : decode (codeOf 142) 19 = .ok (.iconst 4, 1) := by decide +kernel
theorem d_142_20 : decode (codeOf 142) 20 = .ok (.if_icmp .ge 33, 3) := by decide +kernel
theorem d_142_23 : decode (codeOf 142) 23 = .ok (.aload_n 0, 1) := by decide +kernel
theorem d_142_24 : decode (codeOf 142) 24 = .ok (.getfield 7, 3) := by decide +kernel
theorem d_142_27 : decode (codeOf 142) 27 = .ok (.iload_n 1, 1) := by decide +kernel
theorem d_142_28 : decode (codeOf 142) 28 = .ok (.aload_n 0, 1) := by decide +kernel
theorem d_142_29 : decode (codeOf 142) 29 = .ok (.getfield 22, 3) := by decide +kernel
theorem d_142_32 : decode (codeOf 142) 32 = .ok (.iload_n 1, 1) := by decide +kernel
theorem d_142_33 : decode (codeOf 142) 33 = .ok (.iaload, 1) := by decide +kernel
theorem d_142_34 : decode (codeOf 142) 34 = .ok (.iastore, 1) := by decide +kernel
theorem d_142_35 : decode (codeOf 142) 35 = .ok (.aload_n 0, 1) := by decide +kernel
theorem d_142_36 : decode (codeOf 142) 36 = .ok (.getfield 16, 3) := by decide +kernel
theorem d_142_39 : decode (codeOf 142) 39 = .ok (.iload_n 1, 1) := by decide +kernel
theorem d_142_40 : decode (codeOf 142) 40 = .ok (.aload_n 0, 1) := by decide +kernel
theorem d_142_41 : decode (codeOf 142) 41 = .ok (.getfield 28, 3) := by decide +kernel
theorem d_142_44 : decode (codeOf 142) 44 = .ok (.iload_n 1, 1) := by decide +kernel
theorem d_142_45 : decode (codeOf 142) 45 = .ok (.iaload, 1) := by decide +kernel
theorem d_142_46 : decode (codeOf 142) 46 = .ok (.iastore, 1) := by decide +kernel
theorem d_142_47 : decode (codeOf 142) 47 = .ok (.iinc 1 1, 3) := by decide +kernel
theorem d_142_50 : decode (codeOf 142) 50 = .ok (.goto (-32), 3) := by decide +kernel
theorem d_142_53 : decode (codeOf 142) 53 = .ok (.iconst 0, 1) := by decide +kernel
theorem d_142_54 : decode (codeOf 142) 54 = .ok (.istore_n 1, 1) := by decide +kernel
theorem d_142_55 : decode (codeOf 142) 55 = .ok (.iload_n 1, 1) := by decide +kernel
theorem d_142_56 : decode (codeOf 142) 56 = .ok (.bipush 12, 2) := by decide +kernel
theorem d_142_58 : decode (codeOf 142) 58 = .ok (.if_icmp .ge 33, 3) := by decide +kernel
theorem d_142_61 : decode (codeOf 142) 61 = .ok (.aload_n 0, 1) := by decide +kernel
theorem d_142_62 : decode (codeOf 142) 62 = .ok (.getfield 13, 3) := by decide +kernel
theorem d_142_65 : decode (codeOf 142) 65 = .ok (.iload_n 1, 1) := by decide +kernel
theorem d_142_66 : decode (codeOf 142) 66 = .ok (.aload_n 0, 1) := by decide +kernel
theorem d_142_67 : decode (codeOf 142) 67 = .ok (.getfield 25, 3) := by decide +kernel
theorem d_142_70 : decode (codeOf 142) 70 = .ok (.iload_n 1, 1) := by decide +kernel
theorem d_142_71 : decode (codeOf 142) 71 = .ok (.iaload, 1) := by decide +kernel
theorem d_142_72 : decode (codeOf 142) 72 = .ok (.iastore, 1) := by decide +kernel
theorem d_142_73 : decode (codeOf 142) 73 = .ok (.aload_n 0, 1) := by decide +kernel
theorem d_142_74 : decode (codeOf 142) 74 = .ok (.getfield 19, 3) := by decide +kernel
theorem d_142_77 : decode (codeOf 142) 77 = .ok (.iload_n 1, 1) := by decide +kernel
theorem d_142_78 : decode (codeOf 142) 78 = .ok (.aload_n 0, 1) := by decide +kernel
theorem d_142_79 : decode (codeOf 142) 79 = .ok (.getfield 31, 3) := by decide +kernel
theorem d_142_82 : decode (codeOf 142) 82 = .ok (.iload_n 1, 1) := by decide +kernel
theorem d_142_83 : decode (codeOf 142) 83 = .ok (.iaload, 1) := by decide +kernel
theorem d_142_84 : decode (codeOf 142) 84 = .ok (.iastore, 1) := by decide +kernel
theorem d_142_85 : decode (codeOf 142) 85 = .ok (.iinc 1 1, 3) := by decide +kernel
theorem d_142_88 : decode (codeOf 142) 88 = .ok (.goto (-33), 3) := by decide +kernel
theorem d_142_91 : decode (codeOf 142) 91 = .ok (.iconst 0, 1) := by decide +kernel
theorem d_142_92 : decode (codeOf 142) 92 = .ok (.istore_n 1, 1) := by decide +kernel
theorem d_142_93 : decode (codeOf 142) 93 = .ok (.iload_n 1, 1) := by decide +kernel
theorem d_142_94 : decode (codeOf 142) 94 = .ok (.bipush 120, 2) := by decide +kernel
theorem d_142_96 : decode (codeOf 142) 96 = .ok (.if_icmp .ge 21, 3) := by decide +kernel
theorem d_142_99 : decode (codeOf 142) 99 = .ok (.aload_n 0, 1) := by decide +kernel
theorem d_142_100 : decode (codeOf 142) 100 = .ok (.getfield 37, 3) := by decide +kernel
theorem d_142_103 : decode (codeOf 142) 103 = .ok (.iload_n 1, 1) := by decide +kernel
theorem d_142_104 : decode (codeOf 142) 104 = .ok (.aload_n 0, 1) := by decide +kernel
theorem d_142_105 : decode (codeOf 142) 105 = .ok (.getfield 34, 3) := by decide +kernel
theorem d_142_108 : decode (codeOf 142) 108 = .ok (.iload_n 1, 1) := by decide +kernel
theorem d_142_109 : decode (codeOf 142) 109 = .ok (.iaload, 1) := by decide +kernel
theorem d_142_110 : decode (codeOf 142) 110 = .ok (.iastore, 1) := by decide +kernel
theorem d_142_111 : decode (codeOf 142) 111 = .ok (.iinc 1 1, 3) := by decide +kernel
theorem d_142_114 : decode (codeOf 142) 114 = .ok (.goto (-21), 3) := by decide +kernel
theorem d_142_117 : decode (codeOf 142) 117 = .ok (.aload_n 0, 1) := by decide +kernel
theorem d_142_118 : decode (codeOf 142) 118 = .ok (.iconst 0, 1) := by decide +kernel
theorem d_142_119 : decode (codeOf 142) 119 = .ok (.putfield 96, 3) := by decide +kernel
theorem d_142_122 : decode (codeOf 142) 122 = .ok (.aload_n 0, 1) := by decide +kernel
theorem d_142_123 : decode (codeOf 142) 123 = .ok (.iconst 0, 1) := by decide +kernel
theorem d_142_124 : decode (codeOf 142) 124 = .ok (.putfield 99, 3) := by decide +kernel
theorem d_142_127 : decode (codeOf 142) 127 = .ok (.return_, 1) := by decide +kernel
theorem d_143_0 : decode (codeOf 143) 0 = .ok (.iload_n 1, 1) := by decide +kernel
theorem d_143_1 : decode (codeOf 143) 1 = .ok (.i2l, 1) := by decide +kernel
theorem d_143_2 : decode (codeOf 143) 2 = .ok (.ldc2_w 102, 3) := by decide +kernel
theorem d_143_5 : decode (codeOf 143) 5 = .ok (.ldc2_w 104, 3) := by decide +kernel
theorem d_143_8 : decode (codeOf 143) 8 = .ok (.invokestatic 106, 3) := by decide +kernel
theorem d_143_11 : decode (codeOf 143) 11 = .ok (.ifCond .ne 5, 3) := by decide +kernel
theorem d_143_14 : decode (codeOf 143) 14 = .ok (.iconst (-1), 1) := by decide +kernel
theorem d_143_15 : decode (codeOf 143) 15 = .ok (.ireturn, 1) := by decide +kernel
theorem d_143_16 : decode (codeOf 143) 16 = .ok (.aload_n 0, 1) := by decide +kernel
theorem d_143_17 : decode (codeOf 143) 17 = .ok (.getfield 110, 3) := by decide +kernel
theorem d_143_20 : decode (codeOf 143) 20 = .ok (.sipush 200, 3) := by decide +kernel
theorem d_143_23 : decode (codeOf 143) 23 = .ok (.if_icmp .ne 6, 3) := by decide +kernel
theorem d_143_26 : decode (codeOf 143) 26 = .ok (.bipush (-3), 2) := by decide +kernel
theorem d_143_28 : decode (codeOf 143) 28 = .ok (.ireturn, 1) := by decide +kernel
theorem d_143_29 : decode (codeOf 143) 29 = .ok (.aload_n 0, 1) := by decide +kernel
theorem d_143_30 : decode (codeOf 143) 30 = .ok (.getfield 40, 3) := by decide +kernel
theorem d_143_33 : decode (codeOf 143) 33 = .ok (.aload_n 0, 1) := by decide +kernel
theorem d_143_34 : decode (codeOf 143) 34 = .ok (.getfield 110, 3) := by decide +kernel
theorem d_143_37 : decode (codeOf 143) 37 = .ok (.iload_n 1, 1) := by decide +kernel
theorem d_143_38 : decode (codeOf 143) 38 = .ok (.i2b, 1) := by decide +kernel
theorem d_143_39 : decode (codeOf 143) 39 = .ok (.bastore, 1) := by decide +kernel
theorem d_143_40 : decode (codeOf 143) 40 = .ok (.aload_n 0, 1) := by decide +kernel
theorem d_143_41 : decode (codeOf 143) 41 = .ok (.dup, 1) := by decide +kernel
theorem d_143_42 : decode (codeOf 143) 42 = .ok (.getfield 110, 3) := by decide +kernel
theorem d_143_45 : decode (codeOf 143) 45 = .ok (.iconst 1, 1) := by decide +kernel
theorem d_143_46 : decode (codeOf 143) 46 = .ok (.iadd, 1) := by decide +kernel
theorem d_143_47 : decode (codeOf 143) 47 = .ok (.putfield 110, 3) := by decide +kernel
theorem d_143_50 : decode (codeOf 143) 50 = .ok (.aload_n 0, 1) := by decide +kernel
theorem d_143_51 : decode (codeOf 143) 51 = .ok (.getfield 110, 3) := by decide +kernel
theorem d_143_54 : decode (codeOf 143) 54 = .ok (.ireturn, 1) := by decide +kernel
theorem d_144_0 : decode (codeOf 144) 0 = .ok (.aload_n 0, 1) := by decide +kernel
theorem d_144_1 : decode (codeOf 144) 1 = .ok (.getfield 110, 3) := by decide +kernel
theorem d_144_4 : decode (codeOf 144) 4 = .ok (.istore_n 1, 1) := by decide +kernel
theorem d_144_5 : decode (codeOf 144) 5 = .ok (.aload_n 0, 1) := by decide +kernel
theorem d_144_6 : decode (codeOf 144) 6 = .ok (.iconst 0, 1) := by decide +kernel
theorem d_144_7 : decode (codeOf 144) 7 = .ok (.putfield 110, 3) := by decide +kernel
theorem d_144_10 : decode (codeOf 144) 10 = .ok (.iload_n 1, 1) := by decide +kernel
theorem d_144_11 : decode (codeOf 144) 11 = .ok (.ireturn, 1) := by decide +kernel
theorem d_145_0 : decode (codeOf 145) 0 = .ok (.iload_n 1, 1) := by decide +kernel
theorem d_145_1 : decode (codeOf 145) 1 = .ok (.aload_n 0, 1) := by decide +kernel
theorem d_145_2 : decode (codeOf 145) 2 = .ok (.getfield 110, 3) := by decide +kernel
theorem d_145_5 : decode (codeOf 145) 5 = .ok (.if_icmp .ge 12, 3) := by decide +kernel
theorem d_145_8 : decode (codeOf 145) 8 = .ok (.aload_n 0, 1) := by decide +kernel
theorem d_145_9 : decode (codeOf 145) 9 = .ok (.getfield 40, 3) := by decide +kernel
theorem d_145_12 : decode (codeOf 145) 12 = .ok (.iload_n 1, 1) := by decide +kernel
theorem d_145_13 : decode (codeOf 145) 13 = .ok (.baload, 1) := by decide +kernel
theorem d_145_14 : decode (codeOf 145) 14 = .ok (.goto 4, 3) := by decide +kernel
theorem d_145_17 : decode (codeOf 145) 17 = .ok (.iconst (-1), 1) := by decide +kernel
theorem d_145_18 : decode (codeOf 145) 18 = .ok (.ireturn, 1) := by decide +kernel
theorem d_146_0 : decode (codeOf 146) 0 = .ok (.iconst 0, 1) := by decide +kernel
theorem d_146_1 : decode (codeOf 146) 1 = .ok (.istore_n 3, 1) := by decide +kernel
theorem d_146_2 : decode (codeOf 146) 2 = .ok (.iconst 0, 1) := by decide +kernel
theorem d_146_3 : decode (codeOf 146) 3 = .ok (.istore 4, 2) := by decide +kernel
theorem d_146_5 : decode (codeOf 146) 5 = .ok (.aload_n 0, 1) := by decide +kernel
theorem d_146_6 : decode (codeOf 146) 6 = .ok (.aload_n 0, 1) := by decide +kernel
theorem d_146_7 : decode (codeOf 146) 7 = .ok (.getfield 113, 3) := by decide +kernel
theorem d_146_10 : decode (codeOf 146) 10 = .ok (.invokevirtual 116, 3) := by decide +kernel
theorem d_146_13 : decode (codeOf 146) 13 = .ok (.i2l, 1) := by decide +kernel
theorem d_146_14 : decode (codeOf 146) 14 = .ok (.ldc2_w 120, 3) := by decide +kernel
theorem d_146_17 : decode (codeOf 146) 17 = .ok (.ldc2_w 122, 3) := by decide +kernel
theorem d_146_20 : decode (codeOf 146) 20 = .ok (.invokestatic 106, 3) := by decide +kernel
theorem d_146_23 : decode (codeOf 146) 23 = .ok (.ifCond .eq 46, 3) := by decide +kernel
theorem d_146_26 : decode (codeOf 146) 26 = .ok (.iload 4, 2) := by decide +kernel
theorem d_146_28 : decode (codeOf 146) 28 = .ok (.iconst 2, 1) := by decide +kernel
theorem d_146_29 : decode (codeOf 146) 29 = .ok (.if_icmp .ge 22, 3) := by decide +kernel
theorem d_146_32 : decode (codeOf 146) 32 = .ok (.bipush 10, 2) := by decide +kernel
theorem d_146_34 : decode (codeOf 146) 34 = .ok (.iload_n 3, 1) := by decide +kernel
theorem d_146_35 : decode (codeOf 146) 35 = .ok (.imul, 1) := by decide +kernel
theorem d_146_36 : decode (codeOf 146) 36 = .ok (.aload_n 0, 1) := by decide +kernel
theorem d_146_37 : decode (codeOf 146) 37 = .ok (.aload_n 0, 1) := by decide +kernel
theorem d_146_38 : decode (codeOf 146) 38 = .ok (.getfield 113, 3) := by decide +kernel
theorem d_146_41 : decode (codeOf 146) 41 = .ok (.invokevirtual 116, 3) := by decide +kernel
theorem d_146_44 : decode (codeOf 146) 44 = .ok (.iadd, 1) := by decide +kernel
theorem d_146_45 : decode (codeOf 146) 45 = .ok (.bipush 48, 2) := by decide +kernel
theorem d_146_47 : decode (codeOf 146) 47 = .ok (.isub, 1) := by decide +kernel
theorem d_146_48 : decode (codeOf 146) 48 = .ok (.goto 4, 3) := by decide +kernel
theorem d_146_51 : decode (codeOf 146) 51 = .ok (.iload_n 3, 1) := by decide +kernel
theorem d_146_52 : decode (codeOf 146) 52 = .ok (.istore_n 3, 1) := by decide +kernel
theorem d_146_53 : decode (codeOf 146) 53 = .ok (.iinc 4 1, 3) := by decide +kernel
theorem d_146_56 : decode (codeOf 146) 56 = .ok (.aload_n 0, 1) := by decide +kernel
theorem d_146_57 : decode (codeOf 146) 57 = .ok (.dup, 1) := by decide +kernel
theorem d_146_58 : decode (codeOf 146) 58 = .ok (.getfield 113, 3) := by decide +kernel
theorem d_146_61 : decode (codeOf 146) 61 = .ok (.iconst 1, 1) := by decide +kernel
theorem d_146_62 : decode (codeOf 146) 62 = .ok (.iadd, 1) := by decide +kernel
theorem d_146_63 : decode (codeOf 146) 63 = .ok (.putfield 113, 3) := by decide +kernel
theorem d_146_66 : decode (codeOf 146) 66 = .ok (.goto (-61), 3) := by decide +kernel
theorem d_146_69 : decode (codeOf 146) 69 = .ok (.aload_n 0, 1) := by decide +kernel
theorem d_146_70 : decode (codeOf 146) 70 = .ok (.aload_n 0, 1) := by decide +kernel
theorem d_146_71 : decode (codeOf 146) 71 = .ok (.getfield 124, 3) := by decide +kernel
theorem d_146_74 : decode (codeOf 146) 74 = .ok (.ifCond .ne 28, 3) := by decide +kernel
theorem d_146_77 : decode (codeOf 146) 77 = .ok (.iload 4, 2) := by decide +kernel
theorem d_146_79 : decode (codeOf 146) 79 = .ok (.i2l, 1) := by decide +kernel
theorem d_146_80 : decode (codeOf 146) 80 = .ok (.lconst 1, 1) := by decide +kernel
theorem d_146_81 : decode (codeOf 146) 81 = .ok (.ldc2_w 128, 3) := by decide +kernel
theorem d_146_84 : decode (codeOf 146) 84 = .ok (.invokestatic 106, 3) := by decide +kernel
theorem d_146_87 : decode (codeOf 146) 87 = .ok (.ifCond .eq 15, 3) := by decide +kernel
theorem d_146_90 : decode (codeOf 146) 90 = .ok (.iload_n 3, 1) := by decide +kernel
theorem d_146_91 : decode (codeOf 146) 91 = .ok (.i2l, 1) := by decide +kernel
theorem d_146_92 : decode (codeOf 146) 92 = .ok (.iload_n 1, 1) := by decide +kernel
theorem d_146_93 : decode (codeOf 146) 93 = .ok (.i2l, 1) := by decide +kernel
theorem d_146_94 : decode (codeOf 146) 94 = .ok (.iload_n 2, 1) := by decide +kernel
theorem d_146_95 : decode (codeOf 146) 95 = .ok (.i2l, 1) := by decide +kernel
theorem d_146_96 : decode (codeOf 146) 96 = .ok (.invokestatic 106, 3) := by decide +kernel
theorem d_146_99 : decode (codeOf 146) 99 = .ok (.ifCond .ne 7, 3) := by decide +kernel
theorem d_146_102 : decode (codeOf 146) 102 = .ok (.iconst 1, 1) := by decide +kernel
theorem d_146_103 : decode (codeOf 146) 103 = .ok (.goto 4, 3) := by decide +kernel
theorem d_146_106 : decode (codeOf 146) 106 = .ok (.iconst 0, 1) := by decide +kernel
theorem d_146_107 : decode (codeOf 146) 107 = .ok (.putfield 124, 3) := by decide +kernel
theorem d_146_110 : decode (codeOf 146) 110 = .ok (.aload_n 0, 1) := by decide +kernel
theorem d_146_111 : decode (codeOf 146) 111 = .ok (.getfield 124, 3) := by decide +kernel
theorem d_146_114 : decode (codeOf 146) 114 = .ok (.ifCond .eq 7, 3) := by decide +kernel
theorem d_146_117 : decode (codeOf 146) 117 = .ok (.iconst 0, 1) := by decide +kernel
theorem d_146_118 : decode (codeOf 146) 118 = .ok (.goto 4, 3) := by decide +kernel
theorem d_146_121 : decode (codeOf 146) 121 = .ok (.iload_n 3, 1) := by decide +kernel
theorem d_146_122 : decode (codeOf 146) 122 = .ok (.ireturn, 1) := by decide +kernel
theorem d_147_0 : decode (codeOf 147) 0 = .ok (.aload_n 0, 1) := by decide +kernel
theorem d_147_1 : decode (codeOf 147) 1 = .ok (.aload_n 0, 1) := by decide +kernel
theorem d_147_2 : decode (codeOf 147) 2 = .ok (.getfield 124, 3) := by decide +kernel
theorem d_147_5 : decode (codeOf 147) 5 = .ok (.ifCond .ne 16, 3) := by decide +kernel
theorem d_147_8 : decode (codeOf 147) 8 = .ok (.aload_n 0, 1) := by decide +kernel
theorem d_147_9 : decode (codeOf 147) 9 = .ok (.aload_n 0, 1) := by decide +kernel
theorem d_147_10 : decode (codeOf 147) 10 = .ok (.getfield 113, 3) := by decide +kernel
theorem d_147_13 : decode (codeOf 147) 13 = .ok (.invokevirtual 116, 3) := by decide +kernel
theorem d_147_16 : decode (codeOf 147) 16 = .ok (.bipush 44, 2) := by decide +kernel
theorem d_147_18 : decode (codeOf 147) 18 = .ok (.if_icmp .eq 7, 3) := by decide +kernel
theorem d_147_21 : decode (codeOf 147) 21 = .ok (.iconst 1, 1) := by decide +kernel
theorem d_147_22 : decode (codeOf 147) 22 = .ok (.goto 4, 3) := by decide +kernel
theorem d_147_25 : decode (codeOf 147) 25 = .ok (.iconst 0, 1) := by decide +kernel
theorem d_147_26 : decode (codeOf 147) 26 = .ok (.putfield 124, 3) := by decide +kernel
theorem d_147_29 : decode (codeOf 147) 29 = .ok (.aload_n 0, 1) := by decide +kernel
theorem d_147_30 : decode (codeOf 147) 30 = .ok (.dup, 1) := by decide +kernel
theorem d_147_31 : decode (codeOf 147) 31 = .ok (.getfield 113, 3) := by decide +kernel
theorem d_147_34 : decode (codeOf 147) 34 = .ok (.iconst 1, 1) := by decide +kernel
theorem d_147_35 : decode (codeOf 147) 35 = .ok (.iadd, 1) := by decide +kernel
theorem d_147_36 : decode (codeOf 147) 36 = .ok (.putfield 113, 3) := by decide +kernel
theorem d_147_39 : decode (codeOf 147) 39 = .ok (.return_, 1) := by decide +kernel
theorem d_148_0 : decode (codeOf 148) 0 = .ok (.aload_n 0, 1) := by decide +kernel
theorem d_148_1 : decode (codeOf 148) 1 = .ok (.aload_n 0, 1) := by decide +kernel
theorem d_148_2 : decode (codeOf 148) 2 = .ok (.getfield 113, 3) := by decide +kernel
theorem d_148_5 : decode (codeOf 148) 5 = .ok (.invokevirtual 116, 3) := by decide +kernel
theorem d_148_8 : decode (codeOf 148) 8 = .ok (.i2l, 1) := by decide +kernel
theorem d_148_9 : decode (codeOf 148) 9 = .ok (.ldc2_w 120, 3) := by decide +kernel
theorem d_148_12 : decode (codeOf 148) 12 = .ok (.ldc2_w 122, 3) := by decide +kernel
theorem d_148_15 : decode (codeOf 148) 15 = .ok (.invokestatic 106, 3) := by decide +kernel
theorem d_148_18 : decode (codeOf 148) 18 = .ok (.ireturn, 1) := by decide +kernel
theorem d_149_0 : decode (codeOf 149) 0 = .ok (.aload_n 0, 1) := by decide +kernel
theorem d_149_1 : decode (codeOf 149) 1 = .ok (.invokevirtual 130, 3) := by decide +kernel
theorem d_149_4 : decode (codeOf 149) 4 = .ok (.ifCond .eq 49, 3) := by decide +kernel
theorem d_149_7 : decode (codeOf 149) 7 = .ok (.aload_n 0, 1) := by decide +kernel
theorem d_149_8 : decode (codeOf 149) 8 = .ok (.aload_n 0, 1) := by decide +kernel
theorem d_149_9 : decode (codeOf 149) 9 = .ok (.getfield 113, 3) := by decide +kernel
theorem d_149_12 : decode (codeOf 149) 12 = .ok (.invokevirtual 116, 3) := by decide +kernel
theorem d_149_15 : decode (codeOf 149) 15 = .ok (.bipush 48, 2) := by decide +kernel
theorem d_149_17 : decode (codeOf 149) 17 = .ok (.isub, 1) := by decide +kernel
theorem d_149_18 : decode (codeOf 149) 18 = .ok (.i2l, 1) := by decide +kernel
theorem d_149_19 : decode (codeOf 149) 19 = .ok (.ldc2_w 128, 3) := by decide +kernel
theorem d_149_22 : decode (codeOf 149) 22 = .ok (.ldc2_w 134, 3) := by decide +kernel
theorem d_149_25 : decode (codeOf 149) 25 = .ok (.invokestatic 106, 3) := by decide +kernel
theorem d_149_28 : decode (codeOf 149) 28 = .ok (.ifCond .eq 21, 3) := by decide +kernel
theorem d_149_31 : decode (codeOf 149) 31 = .ok (.aload_n 0, 1) := by decide +kernel
theorem d_149_32 : decode (codeOf 149) 32 = .ok (.aload_n 0, 1) := by decide +kernel
theorem d_149_33 : decode (codeOf 149) 33 = .ok (.getfield 113, 3) := by decide +kernel
theorem d_149_36 : decode (codeOf 149) 36 = .ok (.invokevirtual 116, 3) := by decide +kernel
theorem d_149_39 : decode (codeOf 149) 39 = .ok (.bipush 50, 2) := by decide +kernel
theorem d_149_41 : decode (codeOf 149) 41 = .ok (.isub, 1) := by decide +kernel
theorem d_149_42 : decode (codeOf 149) 42 = .ok (.aload_n 0, 1) := by decide +kernel
theorem d_149_43 : decode (codeOf 149) 43 = .ok (.getfield 80, 3) := by decide +kernel
theorem d_149_46 : decode (codeOf 149) 46 = .ok (.if_icmp .ge 7, 3) := by decide +kernel
theorem d_149_49 : decode (codeOf 149) 49 = .ok (.iconst 1, 1) := by decide +kernel
theorem d_149_50 : decode (codeOf 149) 50 = .ok (.goto 4, 3) := by decide +kernel
theorem d_149_53 : decode (codeOf 149) 53 = .ok (.iconst 0, 1) := by decide +kernel
theorem d_149_54 : decode (codeOf 149) 54 = .ok (.istore_n 1, 1) := by decide +kernel
theorem d_149_55 : decode (codeOf 149) 55 = .ok (.aload_n 0, 1) := by decide +kernel
theorem d_149_56 : decode (codeOf 149) 56 = .ok (.aload_n 0, 1) := by decide +kernel
theorem d_149_57 : decode (codeOf 149) 57 = .ok (.getfield 124, 3) := by decide +kernel
theorem d_149_60 : decode (codeOf 149) 60 = .ok (.ifCond .ne 7, 3) := by decide +kernel
theorem d_149_63 : decode (codeOf 149) 63 = .ok (.iload_n 1, 1) := by decide +kernel
theorem d_149_64 : decode (codeOf 149) 64 = .ok (.ifCond .ne 7, 3) := by decide +kernel
theorem d_149_67 : decode (codeOf 149) 67 = .ok (.iconst 1, 1) := by decide +kernel
theorem d_149_68 : decode (codeOf 149) 68 = .ok (.goto 4, 3) := by decide +kernel
theorem d_149_71 : decode (codeOf 149) 71 = .ok (.iconst 0, 1) := by decide +kernel
theorem d_149_72 : decode (codeOf 149) 72 = .ok (.putfield 124, 3) := by decide +kernel
theorem d_149_75 : decode (codeOf 149) 75 = .ok (.iload_n 1, 1) := by decide +kernel
theorem d_149_76 : decode (codeOf 149) 76 = .ok (.ifCond .eq 17, 3) := by decide +kernel
theorem d_149_79 : decode (codeOf 149) 79 = .ok (.aload_n 0, 1) := by decide +kernel
theorem d_149_80 : decode (codeOf 149) 80 = .ok (.aload_n 0, 1) := by decide +kernel
theorem d_149_81 : decode (codeOf 149) 81 = .ok (.getfield 113, 3) := by decide +kernel
theorem d_149_84 : decode (codeOf 149) 84 = .ok (.invokevirtual 116, 3) := by decide +kernel
theorem d_149_87 : decode (codeOf 149) 87 = .ok (.bipush 48, 2) := by decide +kernel
theorem d_149_89 : decode (codeOf 149) 89 = .ok (.isub, 1) := by decide +kernel
theorem d_149_90 : decode (codeOf 149) 90 = .ok (.goto 4, 3) := by decide +kernel
theorem d_149_93 : decode (codeOf 149) 93 = .ok (.iconst 0, 1) := by decide +kernel
theorem d_149_94 : decode (codeOf 149) 94 = .ok (.istore_n 2, 1) := by decide +kernel
theorem d_149_95 : decode (codeOf 149) 95 = .ok (.aload_n 0, 1) := by decide +kernel
theorem d_149_96 : decode (codeOf 149) 96 = .ok (.dup, 1) := by decide +kernel
theorem d_149_97 : decode (codeOf 149) 97 = .ok (.getfield 87, 3) := by decide +kernel
theorem d_149_100 : decode (codeOf 149) 100 = .ok (.iload_n 2, 1) := by decide +kernel
theorem d_149_101 : decode (codeOf 149) 101 = .ok (.iconst 5, 1) := by decide +kernel
theorem d_149_102 : decode (codeOf 149) 102 = .ok (.if_icmp .le 12, 3) := by decide +kernel
theorem d_149_105 : decode (codeOf 149) 105 = .ok (.iconst 1, 1) := by decide +kernel
theorem d_149_106 : decode (codeOf 149) 106 = .ok (.iload_n 2, 1) := by decide +kernel
theorem d_149_107 : decode (codeOf 149) 107 = .ok (.bipush 6, 2) := by decide +kernel
theorem d_149_109 : decode (codeOf 149) 109 = .ok (.isub, 1) := by decide +kernel
theorem d_149_110 : decode (codeOf 149) 110 = .ok (.ishl, 1) := by decide +kernel
theorem d_149_111 : decode (codeOf 149) 111 = .ok (.goto 4, 3) := by decide +kernel
theorem d_149_114 : decode (codeOf 149) 114 = .ok (.iconst 0, 1) := by decide +kernel
theorem d_149_115 : decode (codeOf 149) 115 = .ok (.ior, 1) := by decide +kernel
theorem d_149_116 : decode (codeOf 149) 116 = .ok (.putfield 87, 3) := by decide +kernel
theorem d_149_119 : decode (codeOf 149) 119 = .ok (.aload_n 0, 1) := by decide +kernel
theorem d_149_120 : decode (codeOf 149) 120 = .ok (.dup, 1) := by decide +kernel
theorem d_149_121 : decode (codeOf 149) 121 = .ok (.getfield 113, 3) := by decide +kernel
theorem d_149_124 : decode (codeOf 149) 124 = .ok (.iconst 1, 1) := by decide +kernel
theorem d_149_125 : decode (codeOf 149) 125 = .ok (.iadd, 1) := by decide +kernel
theorem d_149_126 : decode (codeOf 149) 126 = .ok (.putfield 113, 3) := by decide +kernel
theorem d_149_129 : decode (codeOf 149) 129 = .ok (.iload_n 2, 1) := by decide +kernel
theorem d_149_130 : decode (codeOf 149) 130 = .ok (.ireturn, 1) := by decide +kernel
theorem d_150_0 : decode (codeOf 150) 0 = .ok (.aload_n 0, 1) := by decide +kernel
theorem d_150_1 : decode (codeOf 150) 1 = .ok (.aload_n 0, 1) := by decide +kernel
theorem d_150_2 : decode (codeOf 150) 2 = .ok (.getfield 80, 3) := by decide +kernel
theorem d_150_5 : decode (codeOf 150) 5 = .ok (.iconst 4, 1) := by decide +kernel
theorem d_150_6 : decode (codeOf 150) 6 = .ok (.if_icmp .ne 7, 3) := by decide +kernel
theorem d_150_9 : decode (codeOf 150) 9 = .ok (.iconst 1, 1) := by decide +kernel
theorem d_150_10 : decode (codeOf 150) 10 = .ok (.goto 4, 3) := by decide +kernel
theorem d_150_13 : decode (codeOf 150) 13 = .ok (.iconst 0, 1) := by decide +kernel
theorem d_150_14 : decode (codeOf 150) 14 = .ok (.putfield 124, 3) := by decide +kernel
theorem d_150_17 : decode (codeOf 150) 17 = .ok (.iconst 0, 1) := by decide +kernel
theorem d_150_18 : decode (codeOf 150) 18 = .ok (.istore_n 1, 1) := by decide +kernel
theorem d_150_19 : decode (codeOf 150) 19 = .ok (.aload_n 0, 1) := by decide +kernel
theorem d_150_20 : decode (codeOf 150) 20 = .ok (.getfield 124, 3) := by decide +kernel
theorem d_150_23 : decode (codeOf 150) 23 = .ok (.ifCond .ne 88, 3) := by decide +kernel
theorem d_150_26 : decode (codeOf 150) 26 = .ok (.aload_n 0, 1) := by decide +kernel
theorem d_150_27 : decode (codeOf 150) 27 = .ok (.invokevirtual 130, 3) := by decide +kernel
theorem d_150_30 : decode (codeOf 150) 30 = .ok (.ifCond .eq 81, 3) := by decide +kernel
theorem d_150_33 : decode (codeOf 150) 33 = .ok (.aload_n 0, 1) := by decide +kernel
theorem d_150_34 : decode (codeOf 150) 34 = .ok (.aload_n 0, 1) := by decide +kernel
theorem d_150_35 : decode (codeOf 150) 35 = .ok (.getfield 113, 3) := by decide +kernel
theorem d_150_38 : decode (codeOf 150) 38 = .ok (.invokevirtual 116, 3) := by decide +kernel
theorem d_150_41 : decode (codeOf 150) 41 = .ok (.bipush 48, 2) := by decide +kernel
theorem d_150_43 : decode (codeOf 150) 43 = .ok (.isub, 1) := by decide +kernel
theorem d_150_44 : decode (codeOf 150) 44 = .ok (.istore_n 2, 1) := by decide +kernel
theorem d_150_45 : decode (codeOf 150) 45 = .ok (.aload_n 0, 1) := by decide +kernel
theorem d_150_46 : decode (codeOf 150) 46 = .ok (.iload_n 1, 1) := by decide +kernel
theorem d_150_47 : decode (codeOf 150) 47 = .ok (.iconst 3, 1) := by decide +kernel
theorem d_150_48 : decode (codeOf 150) 48 = .ok (.if_icmp .eq 16, 3) := by decide +kernel
theorem d_150_51 : decode (codeOf 150) 51 = .ok (.iload_n 2, 1) := by decide +kernel
theorem d_150_52 : decode (codeOf 150) 52 = .ok (.iconst 3, 1) := by decide +kernel
theorem d_150_53 : decode (codeOf 150) 53 = .ok (.if_icmp .gt 11, 3) := by decide +kernel
theorem d_150_56 : decode (codeOf 150) 56 = .ok (.iload_n 2, 1) := by decide +kernel
theorem d_150_57 : decode (codeOf 150) 57 = .ok (.aload_n 0, 1) := by decide +kernel
theorem d_150_58 : decode (codeOf 150) 58 = .ok (.getfield 80, 3) := by decide +kernel
theorem d_150_61 : decode (codeOf 150) 61 = .ok (.if_icmp .le 7, 3) := by decide +kernel
theorem d_150_64 : decode (codeOf 150) 64 = .ok (.iconst 1, 1) := by decide +kernel
theorem d_150_65 : decode (codeOf 150) 65 = .ok (.goto 4, 3) := by decide +kernel
theorem d_150_68 : decode (codeOf 150) 68 = .ok (.iconst 0, 1) := by decide +kernel
theorem d_150_69 : decode (codeOf 150) 69 = .ok (.putfield 124, 3) := by decide +kernel
theorem d_150_72 : decode (codeOf 150) 72 = .ok (.aload_n 0, 1) := by decide +kernel
theorem d_150_73 : decode (codeOf 150) 73 = .ok (.getfield 124, 3) := by decide +kernel
theorem d_150_76 : decode (codeOf 150) 76 = .ok (.ifCond .ne 19, 3) := by decide +kernel
theorem d_150_79 : decode (codeOf 150) 79 = .ok (.aload_n 0, 1) := by decide +kernel
theorem d_150_80 : decode (codeOf 150) 80 = .ok (.getfield 25, 3) := by decide +kernel
theorem d_150_83 : decode (codeOf 150) 83 = .ok (.iconst 3, 1) := by decide +kernel
theorem d_150_84 : decode (codeOf 150) 84 = .ok (.aload_n 0, 1) := by decide +kernel
theorem d_150_85 : decode (codeOf 150) 85 = .ok (.getfield 80, 3) := by decide +kernel
theorem d_150_88 : decode (codeOf 150) 88 = .ok (.imul, 1) := by decide +kernel
theorem d_150_89 : decode (codeOf 150) 89 = .ok (.iload_n 1, 1) := by decide +kernel
theorem d_150_90 : decode (codeOf 150) 90 = .ok (.iadd, 1) := by decide +kernel
theorem d_150_91 : decode (codeOf 150) 91 = .ok (.iload_n 2, 1) := by decide +kernel
theorem d_150_92 : decode (codeOf 150) 92 = .ok (.iconst 1, 1) := by decide +kernel
theorem d_150_93 : decode (codeOf 150) 93 = .ok (.iadd, 1) := by decide +kernel
theorem d_150_94 : decode (codeOf 150) 94 = .ok (.iastore, 1) := by decide +kernel
theorem d_150_95 : decode (codeOf 150) 95 = .ok (.iinc 1 1, 3) := by decide +kernel
theorem d_150_98 : decode (codeOf 150) 98 = .ok (.aload_n 0, 1) := by decide +kernel
theorem d_150_99 : decode (codeOf 150) 99 = .ok (.dup, 1) := by decide +kernel
theorem d_150_100 : decode (codeOf 150) 100 = .ok (.getfield 113, 3) := by decide +kernel
theorem d_150_103 : decode (codeOf 150) 103 = .ok (.iconst 1, 1) := by decide +kernel
theorem d_150_104 : decode (codeOf 150) 104 = .ok (.iadd, 1) := by decide +kernel
theorem d_150_105 : decode (codeOf 150) 105 = .ok (.putfield 113, 3) := by decide +kernel
theorem d_150_108 : decode (codeOf 150) 108 = .ok (.goto (-89), 3) := by decide +kernel
theorem d_150_111 : decode (codeOf 150) 111 = .ok (.aload_n 0, 1) := by decide +kernel
theorem d_150_112 : decode (codeOf 150) 112 = .ok (.aload_n 0, 1) := by decide +kernel
theorem d_150_113 : decode (codeOf 150) 113 = .ok (.getfield 124, 3) := by decide +kernel
theorem d_150_116 : decode (codeOf 150) 116 = .ok (.ifCond .ne 7, 3) := by decide +kernel
theorem d_150_119 : decode (codeOf 150) 119 = .ok (.iload_n 1, 1) := by decide +kernel
theorem d_150_120 : decode (codeOf 150) 120 = .ok (.ifCond .ne 7, 3) := by decide +kernel
theorem d_150_123 : decode (codeOf 150) 123 = .ok (.iconst 1, 1) := by decide +kernel
