theorem dX7_isAhead_43 : decode cX7_isAhead 43 = .ok (.goto 4, 3) := by decide +kernel
theorem dX7_isAhead_46 : decode cX7_isAhead 46 = .ok (.iconst 0, 1) := by decide +kernel
theorem dX7_isAhead_47 : decode cX7_isAhead 47 = .ok (.istore 4, 2) := by decide +kernel
theorem dX7_isAhead_49 : decode cX7_isAhead 49 = .ok (.iload 4, 2) := by decide +kernel
theorem dX7_isAhead_51 : decode cX7_isAhead 51 = .ok (.ifCond .ne 63, 3) := by decide +kernel
theorem dX7_isAhead_54 : decode cX7_isAhead 54 = .ok (.aload_n 0, 1) := by decide +kernel
theorem dX7_isAhead_55 : decode cX7_isAhead 55 = .ok (.getfield 28, 3) := by decide +kernel
theorem dX7_isAhead_58 : decode cX7_isAhead 58 = .ok (.iload_n 1, 1) := by decide +kernel
theorem dX7_isAhead_59 : decode cX7_isAhead 59 = .ok (.iaload, 1) := by decide +kernel
theorem dX7_isAhead_60 : decode cX7_isAhead 60 = .ok (.aload_n 0, 1) := by decide +kernel
theorem dX7_isAhead_61 : decode cX7_isAhead 61 = .ok (.getfield 28, 3) := by decide +kernel
theorem dX7_isAhead_64 : decode cX7_isAhead 64 = .ok (.iload_n 2, 1) := by decide +kernel
theorem dX7_isAhead_65 : decode cX7_isAhead 65 = .ok (.iaload, 1) := by decide +kernel
theorem dX7_isAhead_66 : decode cX7_isAhead 66 = .ok (.if_icmp .ne 52, 3) := by decide +kernel
theorem dX7_isAhead_69 : decode cX7_isAhead 69 = .ok (.aload_n 0, 1) := by decide +kernel
theorem dX7_isAhead_70 : decode cX7_isAhead 70 = .ok (.getfield 31, 3) := by decide +kernel
theorem dX7_isAhead_73 : decode cX7_isAhead 73 = .ok (.iload_n 1, 1) := by decide +kernel
theorem dX7_isAhead_74 : decode cX7_isAhead 74 = .ok (.iaload, 1) := by decide +kernel
theorem dX7_isAhead_75 : decode cX7_isAhead 75 = .ok (.aload_n 0, 1) := by decide +kernel
theorem dX7_isAhead_76 : decode cX7_isAhead 76 = .ok (.getfield 31, 3) := by decide +kernel
theorem dX7_isAhead_79 : decode cX7_isAhead 79 = .ok (.iload_n 2, 1) := by decide +kernel
theorem dX7_isAhead_80 : decode cX7_isAhead 80 = .ok (.iaload, 1) := by decide +kernel
theorem dX7_isAhead_81 : decode cX7_isAhead 81 = .ok (.if_icmp .lt 33, 3) := by decide +kernel
theorem dX7_isAhead_84 : decode cX7_isAhead 84 = .ok (.aload_n 0, 1) := by decide +kernel
theorem dX7_isAhead_85 : decode cX7_isAhead 85 = .ok (.getfield 31, 3) := by decide +kernel
theorem dX7_isAhead_88 : decode cX7_isAhead 88 = .ok (.iload_n 1, 1) := by decide +kernel
theorem dX7_isAhead_89 : decode cX7_isAhead 89 = .ok (.iaload, 1) := by decide +kernel
theorem dX7_isAhead_90 : decode cX7_isAhead 90 = .ok (.aload_n 0, 1) := by decide +kernel
theorem dX7_isAhead_91 : decode cX7_isAhead 91 = .ok (.getfield 31, 3) := by decide +kernel
theorem dX7_isAhead_94 : decode cX7_isAhead 94 = .ok (.iload_n 2, 1) := by decide +kernel
theorem dX7_isAhead_95 : decode cX7_isAhead 95 = .ok (.iaload, 1) := by decide +kernel
theorem dX7_isAhead_96 : decode cX7_isAhead 96 = .ok (.if_icmp .ne 22, 3) := by decide +kernel
theorem dX7_isAhead_99 : decode cX7_isAhead 99 = .ok (.aload_n 0, 1) := by decide +kernel
theorem dX7_isAhead_100 : decode cX7_isAhead 100 = .ok (.getfield 34, 3) := by decide +kernel
theorem dX7_isAhead_103 : decode cX7_isAhead 103 = .ok (.iload_n 1, 1) := by decide +kernel
theorem dX7_isAhead_104 : decode cX7_isAhead 104 = .ok (.iaload, 1) := by decide +kernel
theorem dX7_isAhead_105 : decode cX7_isAhead 105 = .ok (.aload_n 0, 1) := by decide +kernel
theorem dX7_isAhead_106 : decode cX7_isAhead 106 = .ok (.getfield 34, 3) := by decide +kernel
theorem dX7_isAhead_109 : decode cX7_isAhead 109 = .ok (.iload_n 2, 1) := by decide +kernel
theorem dX7_isAhead_110 : decode cX7_isAhead 110 = .ok (.iaload, 1) := by decide +kernel
theorem dX7_isAhead_111 : decode cX7_isAhead 111 = .ok (.if_icmp .ge 7, 3) := by decide +kernel
theorem dX7_isAhead_114 : decode cX7_isAhead 114 = .ok (.iconst 1, 1) := by decide +kernel
theorem dX7_isAhead_115 : decode cX7_isAhead 115 = .ok (.goto 4, 3) := by decide +kernel
theorem dX7_isAhead_118 : decode cX7_isAhead 118 = .ok (.iconst 0, 1) := by decide +kernel
theorem dX7_isAhead_119 : decode cX7_isAhead 119 = .ok (.ireturn, 1) := by decide +kernel
theorem dX7_explodedAt_0 : decode cX7_explodedAt 0 = .ok (.iload_n 1, 1) := by decide +kernel
theorem dX7_explodedAt_1 : decode cX7_explodedAt 1 = .ok (.invokestatic 215, 3) := by decide +kernel
theorem dX7_explodedAt_4 : decode cX7_explodedAt 4 = .ok (.ifCond .ne 6, 3) := by decide +kernel
theorem dX7_explodedAt_7 : decode cX7_explodedAt 7 = .ok (.ldc 41, 2) := by decide +kernel
theorem dX7_explodedAt_9 : decode cX7_explodedAt 9 = .ok (.ireturn, 1) := by decide +kernel
theorem dX7_explodedAt_10 : decode cX7_explodedAt 10 = .ok (.iload_n 3, 1) := by decide +kernel
theorem dX7_explodedAt_11 : decode cX7_explodedAt 11 = .ok (.ifCond .lt 13, 3) := by decide +kernel
theorem dX7_explodedAt_14 : decode cX7_explodedAt 14 = .ok (.iload 4, 2) := by decide +kernel
theorem dX7_explodedAt_16 : decode cX7_explodedAt 16 = .ok (.iconst 0, 1) := by decide +kernel
theorem dX7_explodedAt_17 : decode cX7_explodedAt 17 = .ok (.iconst 2, 1) := by decide +kernel
theorem dX7_explodedAt_18 : decode cX7_explodedAt 18 = .ok (.invokestatic 50, 3) := by decide +kernel
theorem dX7_explodedAt_21 : decode cX7_explodedAt 21 = .ok (.ifCond .ne 6, 3) := by decide +kernel
theorem dX7_explodedAt_24 : decode cX7_explodedAt 24 = .ok (.ldc 85, 2) := by decide +kernel
theorem dX7_explodedAt_26 : decode cX7_explodedAt 26 = .ok (.ireturn, 1) := by decide +kernel
theorem dX7_explodedAt_27 : decode cX7_explodedAt 27 = .ok (.aload_n 0, 1) := by decide +kernel
theorem dX7_explodedAt_28 : decode cX7_explodedAt 28 = .ok (.iload_n 1, 1) := by decide +kernel
theorem dX7_explodedAt_29 : decode cX7_explodedAt 29 = .ok (.invokevirtual 260, 3) := by decide +kernel
theorem dX7_explodedAt_32 : decode cX7_explodedAt 32 = .ok (.istore 5, 2) := by decide +kernel
theorem dX7_explodedAt_34 : decode cX7_explodedAt 34 = .ok (.ldc 176, 2) := by decide +kernel
theorem dX7_explodedAt_36 : decode cX7_explodedAt 36 = .ok (.istore 6, 2) := by decide +kernel
theorem dX7_explodedAt_38 : decode cX7_explodedAt 38 = .ok (.iconst 0, 1) := by decide +kernel
theorem dX7_explodedAt_39 : decode cX7_explodedAt 39 = .ok (.istore 7, 2) := by decide +kernel
theorem dX7_explodedAt_41 : decode cX7_explodedAt 41 = .ok (.iload 7, 2) := by decide +kernel
theorem dX7_explodedAt_43 : decode cX7_explodedAt 43 = .ok (.iload 5, 2) := by decide +kernel
theorem dX7_explodedAt_45 : decode cX7_explodedAt 45 = .ok (.if_icmp .ge 65, 3) := by decide +kernel
theorem dX7_explodedAt_48 : decode cX7_explodedAt 48 = .ok (.iconst 0, 1) := by decide +kernel
theorem dX7_explodedAt_49 : decode cX7_explodedAt 49 = .ok (.istore 8, 2) := by decide +kernel
theorem dX7_explodedAt_51 : decode cX7_explodedAt 51 = .ok (.iconst 0, 1) := by decide +kernel
theorem dX7_explodedAt_52 : decode cX7_explodedAt 52 = .ok (.istore 9, 2) := by decide +kernel
theorem dX7_explodedAt_54 : decode cX7_explodedAt 54 = .ok (.iload 9, 2) := by decide +kernel
theorem dX7_explodedAt_56 : decode cX7_explodedAt 56 = .ok (.iload 5, 2) := by decide +kernel
theorem dX7_explodedAt_58 : decode cX7_explodedAt 58 = .ok (.if_icmp .ge 31, 3) := by decide +kernel
theorem dX7_explodedAt_61 : decode cX7_explodedAt 61 = .ok (.iload 8, 2) := by decide +kernel
theorem dX7_explodedAt_63 : decode cX7_explodedAt 63 = .ok (.aload_n 0, 1) := by decide +kernel
theorem dX7_explodedAt_64 : decode cX7_explodedAt 64 = .ok (.iload 9, 2) := by decide +kernel
theorem dX7_explodedAt_66 : decode cX7_explodedAt 66 = .ok (.iload 7, 2) := by decide +kernel
theorem dX7_explodedAt_68 : decode cX7_explodedAt 68 = .ok (.iload_n 2, 1) := by decide +kernel
theorem dX7_explodedAt_69 : decode cX7_explodedAt 69 = .ok (.invokevirtual 263, 3) := by decide +kernel
theorem dX7_explodedAt_72 : decode cX7_explodedAt 72 = .ok (.ifCond .eq 7, 3) := by decide +kernel
theorem dX7_explodedAt_75 : decode cX7_explodedAt 75 = .ok (.iconst 1, 1) := by decide +kernel
theorem dX7_explodedAt_76 : decode cX7_explodedAt 76 = .ok (.goto 4, 3) := by decide +kernel
theorem dX7_explodedAt_79 : decode cX7_explodedAt 79 = .ok (.iconst 0, 1) := by decide +kernel
theorem dX7_explodedAt_80 : decode cX7_explodedAt 80 = .ok (.iadd, 1) := by decide +kernel
theorem dX7_explodedAt_81 : decode cX7_explodedAt 81 = .ok (.istore 8, 2) := by decide +kernel
theorem dX7_explodedAt_83 : decode cX7_explodedAt 83 = .ok (.iinc 9 1, 3) := by decide +kernel
theorem dX7_explodedAt_86 : decode cX7_explodedAt 86 = .ok (.goto (-32), 3) := by decide +kernel
theorem dX7_explodedAt_89 : decode cX7_explodedAt 89 = .ok (.iload 8, 2) := by decide +kernel
theorem dX7_explodedAt_91 : decode cX7_explodedAt 91 = .ok (.iload_n 3, 1) := by decide +kernel
theorem dX7_explodedAt_92 : decode cX7_explodedAt 92 = .ok (.if_icmp .ne 8, 3) := by decide +kernel
theorem dX7_explodedAt_95 : decode cX7_explodedAt 95 = .ok (.iload 7, 2) := by decide +kernel
theorem dX7_explodedAt_97 : decode cX7_explodedAt 97 = .ok (.goto 5, 3) := by decide +kernel
theorem dX7_explodedAt_100 : decode cX7_explodedAt 100 = .ok (.iload 6, 2) := by decide +kernel
theorem dX7_explodedAt_102 : decode cX7_explodedAt 102 = .ok (.istore 6, 2) := by decide +kernel
theorem dX7_explodedAt_104 : decode cX7_explodedAt 104 = .ok (.iinc 7 1, 3) := by decide +kernel
theorem dX7_explodedAt_107 : decode cX7_explodedAt 107 = .ok (.goto (-66), 3) := by decide +kernel
theorem dX7_explodedAt_110 : decode cX7_explodedAt 110 = .ok (.iload 6, 2) := by decide +kernel
theorem dX7_explodedAt_112 : decode cX7_explodedAt 112 = .ok (.ifCond .ge 8, 3) := by decide +kernel
theorem dX7_explodedAt_115 : decode cX7_explodedAt 115 = .ok (.ldc 176, 2) := by decide +kernel
theorem dX7_explodedAt_117 : decode cX7_explodedAt 117 = .ok (.goto 41, 3) := by decide +kernel
theorem dX7_explodedAt_120 : decode cX7_explodedAt 120 = .ok (.iload 4, 2) := by decide +kernel
theorem dX7_explodedAt_122 : decode cX7_explodedAt 122 = .ok (.ifCond .ne 13, 3) := by decide +kernel
theorem dX7_explodedAt_125 : decode cX7_explodedAt 125 = .ok (.aload_n 0, 1) := by decide +kernel
theorem dX7_explodedAt_126 : decode cX7_explodedAt 126 = .ok (.getfield 28, 3) := by decide +kernel
theorem dX7_explodedAt_129 : decode cX7_explodedAt 129 = .ok (.iload 6, 2) := by decide +kernel
theorem dX7_explodedAt_131 : decode cX7_explodedAt 131 = .ok (.iaload, 1) := by decide +kernel
theorem dX7_explodedAt_132 : decode cX7_explodedAt 132 = .ok (.goto 26, 3) := by decide +kernel
theorem dX7_explodedAt_135 : decode cX7_explodedAt 135 = .ok (.iload 4, 2) := by decide +kernel
theorem dX7_explodedAt_137 : decode cX7_explodedAt 137 = .ok (.iconst 1, 1) := by decide +kernel
theorem dX7_explodedAt_138 : decode cX7_explodedAt 138 = .ok (.if_icmp .ne 13, 3) := by decide +kernel
theorem dX7_explodedAt_141 : decode cX7_explodedAt 141 = .ok (.aload_n 0, 1) := by decide +kernel
theorem dX7_explodedAt_142 : decode cX7_explodedAt 142 = .ok (.getfield 31, 3) := by decide +kernel
theorem dX7_explodedAt_145 : decode cX7_explodedAt 145 = .ok (.iload 6, 2) := by decide +kernel
theorem dX7_explodedAt_147 : decode cX7_explodedAt 147 = .ok (.iaload, 1) := by decide +kernel
theorem dX7_explodedAt_148 : decode cX7_explodedAt 148 = .ok (.goto 10, 3) := by decide +kernel
theorem dX7_explodedAt_151 : decode cX7_explodedAt 151 = .ok (.aload_n 0, 1) := by decide +kernel
theorem dX7_explodedAt_152 : decode cX7_explodedAt 152 = .ok (.getfield 34, 3) := by decide +kernel
theorem dX7_explodedAt_155 : decode cX7_explodedAt 155 = .ok (.iload 6, 2) := by decide +kernel
theorem dX7_explodedAt_157 : decode cX7_explodedAt 157 = .ok (.iaload, 1) := by decide +kernel
theorem dX7_explodedAt_158 : decode cX7_explodedAt 158 = .ok (.ireturn, 1) := by decide +kernel
theorem dX7_sumIn_0 : decode cX7_sumIn 0 = .ok (.iconst 0, 1) := by decide +kernel
theorem dX7_sumIn_1 : decode cX7_sumIn 1 = .ok (.istore_n 3, 1) := by decide +kernel
theorem dX7_sumIn_2 : decode cX7_sumIn 2 = .ok (.iconst 0, 1) := by decide +kernel
theorem dX7_sumIn_3 : decode cX7_sumIn 3 = .ok (.istore 4, 2) := by decide +kernel
theorem dX7_sumIn_5 : decode cX7_sumIn 5 = .ok (.iload 4, 2) := by decide +kernel
theorem dX7_sumIn_7 : decode cX7_sumIn 7 = .ok (.aload_n 0, 1) := by decide +kernel
theorem dX7_sumIn_8 : decode cX7_sumIn 8 = .ok (.getfield 7, 3) := by decide +kernel
theorem dX7_sumIn_11 : decode cX7_sumIn 11 = .ok (.iconst 0, 1) := by decide +kernel
theorem dX7_sumIn_12 : decode cX7_sumIn 12 = .ok (.iaload, 1) := by decide +kernel
theorem dX7_sumIn_13 : decode cX7_sumIn 13 = .ok (.if_icmp .ge 67, 3) := by decide +kernel
theorem dX7_sumIn_16 : decode cX7_sumIn 16 = .ok (.iload_n 2, 1) := by decide +kernel
theorem dX7_sumIn_17 : decode cX7_sumIn 17 = .ok (.ifCond .lt 18, 3) := by decide +kernel
theorem dX7_sumIn_20 : decode cX7_sumIn 20 = .ok (.aload_n 0, 1) := by decide +kernel
theorem dX7_sumIn_21 : decode cX7_sumIn 21 = .ok (.iload_n 2, 1) := by decide +kernel
theorem dX7_sumIn_22 : decode cX7_sumIn 22 = .ok (.aload_n 0, 1) := by decide +kernel
theorem dX7_sumIn_23 : decode cX7_sumIn 23 = .ok (.iload 4, 2) := by decide +kernel
theorem dX7_sumIn_25 : decode cX7_sumIn 25 = .ok (.iconst 0, 1) := by decide +kernel
theorem dX7_sumIn_26 : decode cX7_sumIn 26 = .ok (.invokevirtual 46, 3) := by decide +kernel
theorem dX7_sumIn_29 : decode cX7_sumIn 29 = .ok (.invokevirtual 218, 3) := by decide +kernel
theorem dX7_sumIn_32 : decode cX7_sumIn 32 = .ok (.ifCond .eq 13, 3) := by decide +kernel
theorem dX7_sumIn_35 : decode cX7_sumIn 35 = .ok (.aload_n 0, 1) := by decide +kernel
theorem dX7_sumIn_36 : decode cX7_sumIn 36 = .ok (.iload 4, 2) := by decide +kernel
theorem dX7_sumIn_38 : decode cX7_sumIn 38 = .ok (.iload_n 1, 1) := by decide +kernel
theorem dX7_sumIn_39 : decode cX7_sumIn 39 = .ok (.invokevirtual 221, 3) := by decide +kernel
theorem dX7_sumIn_42 : decode cX7_sumIn 42 = .ok (.goto 4, 3) := by decide +kernel
theorem dX7_sumIn_45 : decode cX7_sumIn 45 = .ok (.iconst 0, 1) := by decide +kernel
theorem dX7_sumIn_46 : decode cX7_sumIn 46 = .ok (.istore 5, 2) := by decide +kernel
theorem dX7_sumIn_48 : decode cX7_sumIn 48 = .ok (.iconst 0, 1) := by decide +kernel
theorem dX7_sumIn_49 : decode cX7_sumIn 49 = .ok (.istore 6, 2) := by decide +kernel
theorem dX7_sumIn_51 : decode cX7_sumIn 51 = .ok (.iload 6, 2) := by decide +kernel
theorem dX7_sumIn_53 : decode cX7_sumIn 53 = .ok (.iload 5, 2) := by decide +kernel
theorem dX7_sumIn_55 : decode cX7_sumIn 55 = .ok (.if_icmp .ge 19, 3) := by decide +kernel
theorem dX7_sumIn_58 : decode cX7_sumIn 58 = .ok (.iload_n 3, 1) := by decide +kernel
theorem dX7_sumIn_59 : decode cX7_sumIn 59 = .ok (.aload_n 0, 1) := by decide +kernel
theorem dX7_sumIn_60 : decode cX7_sumIn 60 = .ok (.getfield 25, 3) := by decide +kernel
theorem dX7_sumIn_63 : decode cX7_sumIn 63 = .ok (.iload 6, 2) := by decide +kernel
theorem dX7_sumIn_65 : decode cX7_sumIn 65 = .ok (.iaload, 1) := by decide +kernel
theorem dX7_sumIn_66 : decode cX7_sumIn 66 = .ok (.iadd, 1) := by decide +kernel
theorem dX7_sumIn_67 : decode cX7_sumIn 67 = .ok (.istore_n 3, 1) := by decide +kernel
theorem dX7_sumIn_68 : decode cX7_sumIn 68 = .ok (.iinc 6 1, 3) := by decide +kernel
theorem dX7_sumIn_71 : decode cX7_sumIn 71 = .ok (.goto (-20), 3) := by decide +kernel
theorem dX7_sumIn_74 : decode cX7_sumIn 74 = .ok (.iinc 4 1, 3) := by decide +kernel
theorem dX7_sumIn_77 : decode cX7_sumIn 77 = .ok (.goto (-72), 3) := by decide +kernel
theorem dX7_sumIn_80 : decode cX7_sumIn 80 = .ok (.iload_n 3, 1) := by decide +kernel
theorem dX7_sumIn_81 : decode cX7_sumIn 81 = .ok (.ireturn, 1) := by decide +kernel
theorem dX7_total_0 : decode cX7_total 0 = .ok (.iload_n 1, 1) := by decide +kernel
theorem dX7_total_1 : decode cX7_total 1 = .ok (.invokestatic 215, 3) := by decide +kernel
theorem dX7_total_4 : decode cX7_total 4 = .ok (.ifCond .eq 24, 3) := by decide +kernel
theorem dX7_total_7 : decode cX7_total 7 = .ok (.iload_n 2, 1) := by decide +kernel
theorem dX7_total_8 : decode cX7_total 8 = .ok (.iconst (-1), 1) := by decide +kernel
theorem dX7_total_9 : decode cX7_total 9 = .ok (.if_icmp .eq 10, 3) := by decide +kernel
theorem dX7_total_12 : decode cX7_total 12 = .ok (.iload_n 2, 1) := by decide +kernel
theorem dX7_total_13 : decode cX7_total 13 = .ok (.invokestatic 227, 3) := by decide +kernel
theorem dX7_total_16 : decode cX7_total 16 = .ok (.ifCond .eq 12, 3) := by decide +kernel
theorem dX7_total_19 : decode cX7_total 19 = .ok (.aload_n 0, 1) := by decide +kernel
theorem dX7_total_20 : decode cX7_total 20 = .ok (.iload_n 1, 1) := by decide +kernel
theorem dX7_total_21 : decode cX7_total 21 = .ok (.iload_n 2, 1) := by decide +kernel
theorem dX7_total_22 : decode cX7_total 22 = .ok (.invokevirtual 267, 3) := by decide +kernel
theorem dX7_total_25 : decode cX7_total 25 = .ok (.goto 5, 3) := by decide +kernel
theorem dX7_total_28 : decode cX7_total 28 = .ok (.ldc 41, 2) := by decide +kernel
theorem dX7_total_30 : decode cX7_total 30 = .ok (.ireturn, 1) := by decide +kernel
theorem dX7_mean_0 : decode cX7_mean 0 = .ok (.iload_n 1, 1) := by decide +kernel
theorem dX7_mean_1 : decode cX7_mean 1 = .ok (.invokestatic 215, 3) := by decide +kernel
theorem dX7_mean_4 : decode cX7_mean 4 = .ok (.ifCond .ne 7, 3) := by decide +kernel
theorem dX7_mean_7 : decode cX7_mean 7 = .ok (.ldc_w 270, 3) := by decide +kernel
theorem dX7_mean_10 : decode cX7_mean 10 = .ok (.freturn, 1) := by decide +kernel
theorem dX7_mean_11 : decode cX7_mean 11 = .ok (.aload_n 0, 1) := by decide +kernel
theorem dX7_mean_12 : decode cX7_mean 12 = .ok (.iload_n 1, 1) := by decide +kernel
theorem dX7_mean_13 : decode cX7_mean 13 = .ok (.invokevirtual 260, 3) := by decide +kernel
theorem dX7_mean_16 : decode cX7_mean 16 = .ok (.istore_n 2, 1) := by decide +kernel
theorem dX7_mean_17 : decode cX7_mean 17 = .ok (.iload_n 2, 1) := by decide +kernel
theorem dX7_mean_18 : decode cX7_mean 18 = .ok (.ifCond .ne 7, 3) := by decide +kernel
theorem dX7_mean_21 : decode cX7_mean 21 = .ok (.fconst 0, 1) := by decide +kernel
theorem dX7_mean_22 : decode cX7_mean 22 = .ok (.goto 13, 3) := by decide +kernel
theorem dX7_mean_25 : decode cX7_mean 25 = .ok (.aload_n 0, 1) := by decide +kernel
theorem dX7_mean_26 : decode cX7_mean 26 = .ok (.iload_n 1, 1) := by decide +kernel
theorem dX7_mean_27 : decode cX7_mean 27 = .ok (.iconst (-1), 1) := by decide +kernel
theorem dX7_mean_28 : decode cX7_mean 28 = .ok (.invokevirtual 267, 3) := by decide +kernel
theorem dX7_mean_31 : decode cX7_mean 31 = .ok (.i2f, 1) := by decide +kernel
theorem dX7_mean_32 : decode cX7_mean 32 = .ok (.iload_n 2, 1) := by decide +kernel
theorem dX7_mean_33 : decode cX7_mean 33 = .ok (.i2f, 1) := by decide +kernel
theorem dX7_mean_34 : decode cX7_mean 34 = .ok (.fdiv, 1) := by decide +kernel
theorem dX7_mean_35 : decode cX7_mean 35 = .ok (.freturn, 1) := by decide +kernel
theorem dX7_repeated_0 : decode cX7_repeated 0 = .ok (.iload_n 1, 1) := by decide +kernel
theorem dX7_repeated_1 : decode cX7_repeated 1 = .ok (.invokestatic 215, 3) := by decide +kernel
theorem dX7_repeated_4 : decode cX7_repeated 4 = .ok (.ifCond .ne 6, 3) := by decide +kernel
theorem dX7_repeated_7 : decode cX7_repeated 7 = .ok (.ldc 41, 2) := by decide +kernel
theorem dX7_repeated_9 : decode cX7_repeated 9 = .ok (.ireturn, 1) := by decide +kernel
theorem dX7_repeated_10 : decode cX7_repeated 10 = .ok (.aload_n 0, 1) := by decide +kernel
theorem dX7_repeated_11 : decode cX7_repeated 11 = .ok (.iload_n 1, 1) := by decide +kernel
theorem dX7_repeated_12 : decode cX7_repeated 12 = .ok (.invokevirtual 260, 3) := by decide +kernel
theorem dX7_repeated_15 : decode cX7_repeated 15 = .ok (.istore_n 2, 1) := by decide +kernel
theorem dX7_repeated_16 : decode cX7_repeated 16 = .ok (.iconst 0, 1) := by decide +kernel
theorem dX7_repeated_17 : decode cX7_repeated 17 = .ok (.istore_n 3, 1) := by decide +kernel
theorem dX7_repeated_18 : decode cX7_repeated 18 = .ok (.iconst 0, 1) := by decide +kernel
theorem dX7_repeated_19 : decode cX7_repeated 19 = .ok (.istore 4, 2) := by decide +kernel
theorem dX7_repeated_21 : decode cX7_repeated 21 = .ok (.iload 4, 2) := by decide +kernel
theorem dX7_repeated_23 : decode cX7_repeated 23 = .ok (.iload_n 2, 1) := by decide +kernel
theorem dX7_repeated_24 : decode cX7_repeated 24 = .ok (.if_icmp .ge 116, 3) := by decide +kernel
theorem dX7_repeated_27 : decode cX7_repeated 27 = .ok (.iconst 0, 1) := by decide +kernel
theorem dX7_repeated_28 : decode cX7_repeated 28 = .ok (.istore 5, 2) := by decide +kernel
theorem dX7_repeated_30 : decode cX7_repeated 30 = .ok (.iconst 0, 1) := by decide +kernel
theorem dX7_repeated_31 : decode cX7_repeated 31 = .ok (.istore 6, 2) := by decide +kernel
theorem dX7_repeated_33 : decode cX7_repeated 33 = .ok (.iconst 0, 1) := by decide +kernel
theorem dX7_repeated_34 : decode cX7_repeated 34 = .ok (.istore 7, 2) := by decide +kernel
theorem dX7_repeated_36 : decode cX7_repeated 36 = .ok (.iload 7, 2) := by decide +kernel
theorem dX7_repeated_38 : decode cX7_repeated 38 = .ok (.iload_n 2, 1) := by decide +kernel
theorem dX7_repeated_39 : decode cX7_repeated 39 = .ok (.if_icmp .ge 77, 3) := by decide +kernel
theorem dX7_repeated_42 : decode cX7_repeated 42 = .ok (.iload 5, 2) := by decide +kernel
theorem dX7_repeated_44 : decode cX7_repeated 44 = .ok (.iload 7, 2) := by decide +kernel
theorem dX7_repeated_46 : decode cX7_repeated 46 = .ok (.iload 4, 2) := by decide +kernel
theorem dX7_repeated_48 : decode cX7_repeated 48 = .ok (.if_icmp .ge 24, 3) := by decide +kernel
theorem dX7_repeated_51 : decode cX7_repeated 51 = .ok (.aload_n 0, 1) := by decide +kernel
theorem dX7_repeated_52 : decode cX7_repeated 52 = .ok (.getfield 28, 3) := by decide +kernel
theorem dX7_repeated_55 : decode cX7_repeated 55 = .ok (.iload 7, 2) := by decide +kernel
theorem dX7_repeated_57 : decode cX7_repeated 57 = .ok (.iaload, 1) := by decide +kernel
theorem dX7_repeated_58 : decode cX7_repeated 58 = .ok (.aload_n 0, 1) := by decide +kernel
theorem dX7_repeated_59 : decode cX7_repeated 59 = .ok (.getfield 28, 3) := by decide +kernel
theorem dX7_repeated_62 : decode cX7_repeated 62 = .ok (.iload 4, 2) := by decide +kernel
theorem dX7_repeated_64 : decode cX7_repeated 64 = .ok (.iaload, 1) := by decide +kernel
theorem dX7_repeated_65 : decode cX7_repeated 65 = .ok (.if_icmp .ne 7, 3) := by decide +kernel
theorem dX7_repeated_68 : decode cX7_repeated 68 = .ok (.iconst 1, 1) := by decide +kernel
theorem dX7_repeated_69 : decode cX7_repeated 69 = .ok (.goto 4, 3) := by decide +kernel
theorem dX7_repeated_72 : decode cX7_repeated 72 = .ok (.iconst 0, 1) := by decide +kernel
theorem dX7_repeated_73 : decode cX7_repeated 73 = .ok (.iadd, 1) := by decide +kernel
theorem dX7_repeated_74 : decode cX7_repeated 74 = .ok (.istore 5, 2) := by decide +kernel
theorem dX7_repeated_76 : decode cX7_repeated 76 = .ok (.iload 6, 2) := by decide +kernel
theorem dX7_repeated_78 : decode cX7_repeated 78 = .ok (.iload 7, 2) := by decide +kernel
theorem dX7_repeated_80 : decode cX7_repeated 80 = .ok (.iload 4, 2) := by decide +kernel
theorem dX7_repeated_82 : decode cX7_repeated 82 = .ok (.if_icmp .le 24, 3) := by decide +kernel
theorem dX7_repeated_85 : decode cX7_repeated 85 = .ok (.aload_n 0, 1) := by decide +kernel
theorem dX7_repeated_86 : decode cX7_repeated 86 = .ok (.getfield 28, 3) := by decide +kernel
theorem dX7_repeated_89 : decode cX7_repeated 89 = .ok (.iload 7, 2) := by decide +kernel
theorem dX7_repeated_91 : decode cX7_repeated 91 = .ok (.iaload, 1) := by decide +kernel
theorem dX7_repeated_92 : decode cX7_repeated 92 = .ok (.aload_n 0, 1) := by decide +kernel
theorem dX7_repeated_93 : decode cX7_repeated 93 = .ok (.getfield 28, 3) := by decide +kernel
theorem dX7_repeated_96 : decode cX7_repeated 96 = .ok (.iload 4, 2) := by decide +kernel
theorem dX7_repeated_98 : decode cX7_repeated 98 = .ok (.iaload, 1) := by decide +kernel
theorem dX7_repeated_99 : decode cX7_repeated 99 = .ok (.if_icmp .ne 7, 3) := by decide +kernel
theorem dX7_repeated_102 : decode cX7_repeated 102 = .ok (.iconst 1, 1) := by decide +kernel
theorem dX7_repeated_103 : decode cX7_repeated 103 = .ok (.goto 4, 3) := by decide +kernel
theorem dX7_repeated_106 : decode cX7_repeated 106 = .ok (.iconst 0, 1) := by decide +kernel
theorem dX7_repeated_107 : decode cX7_repeated 107 = .ok (.iadd, 1) := by decide +kernel
theorem dX7_repeated_108 : decode cX7_repeated 108 = .ok (.istore 6, 2) := by decide +kernel
theorem dX7_repeated_110 : decode cX7_repeated 110 = .ok (.iinc 7 1, 3) := by decide +kernel
theorem dX7_repeated_113 : decode cX7_repeated 113 = .ok (.goto (-77), 3) := by decide +kernel
theorem dX7_repeated_116 : decode cX7_repeated 116 = .ok (.iload_n 3, 1) := by decide +kernel
theorem dX7_repeated_117 : decode cX7_repeated 117 = .ok (.iload 5, 2) := by decide +kernel
theorem dX7_repeated_119 : decode cX7_repeated 119 = .ok (.ifCond .ne 12, 3) := by decide +kernel
theorem dX7_repeated_122 : decode cX7_repeated 122 = .ok (.iload 6, 2) := by decide +kernel
theorem dX7_repeated_124 : decode cX7_repeated 124 = .ok (.ifCond .le 7, 3) := by decide +kernel
theorem dX7_repeated_127 : decode cX7_repeated 127 = .ok (.iconst 1, 1) := by decide +kernel
theorem dX7_repeated_128 : decode cX7_repeated 128 = .ok (.goto 4, 3) := by decide +kernel
theorem dX7_repeated_131 : decode cX7_repeated 131 = .ok (.iconst 0, 1) := by decide +kernel
theorem dX7_repeated_132 : decode cX7_repeated 132 = .ok (.iadd, 1) := by decide +kernel
theorem dX7_repeated_133 : decode cX7_repeated 133 = .ok (.istore_n 3, 1) := by decide +kernel
theorem dX7_repeated_134 : decode cX7_repeated 134 = .ok (.iinc 4 1, 3) := by decide +kernel
theorem dX7_repeated_137 : decode cX7_repeated 137 = .ok (.goto (-116), 3) := by decide +kernel
theorem dX7_repeated_140 : decode cX7_repeated 140 = .ok (.iload_n 3, 1) := by decide +kernel
theorem dX7_repeated_141 : decode cX7_repeated 141 = .ok (.ireturn, 1) := by decide +kernel
