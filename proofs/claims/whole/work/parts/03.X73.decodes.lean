theorem dX7_isSelected_2 : decode cX7_isSelected 2 = .ok (.iload_n 2, 1) := by decide +kernel
theorem dX7_isSelected_3 : decode cX7_isSelected 3 = .ok (.invokevirtual 221, 3) := by decide +kernel
theorem dX7_isSelected_6 : decode cX7_isSelected 6 = .ok (.istore 6, 2) := by decide +kernel
theorem dX7_isSelected_8 : decode cX7_isSelected 8 = .ok (.iconst 0, 1) := by decide +kernel
theorem dX7_isSelected_9 : decode cX7_isSelected 9 = .ok (.istore 7, 2) := by decide +kernel
theorem dX7_isSelected_11 : decode cX7_isSelected 11 = .ok (.iconst 0, 1) := by decide +kernel
theorem dX7_isSelected_12 : decode cX7_isSelected 12 = .ok (.istore 8, 2) := by decide +kernel
theorem dX7_isSelected_14 : decode cX7_isSelected 14 = .ok (.iload 8, 2) := by decide +kernel
theorem dX7_isSelected_16 : decode cX7_isSelected 16 = .ok (.iload 6, 2) := by decide +kernel
theorem dX7_isSelected_18 : decode cX7_isSelected 18 = .ok (.if_icmp .ge 35, 3) := by decide +kernel
theorem dX7_isSelected_21 : decode cX7_isSelected 21 = .ok (.iload 7, 2) := by decide +kernel
theorem dX7_isSelected_23 : decode cX7_isSelected 23 = .ok (.aload_n 0, 1) := by decide +kernel
theorem dX7_isSelected_24 : decode cX7_isSelected 24 = .ok (.getfield 25, 3) := by decide +kernel
theorem dX7_isSelected_27 : decode cX7_isSelected 27 = .ok (.iload 8, 2) := by decide +kernel
theorem dX7_isSelected_29 : decode cX7_isSelected 29 = .ok (.iaload, 1) := by decide +kernel
theorem dX7_isSelected_30 : decode cX7_isSelected 30 = .ok (.iload_n 3, 1) := by decide +kernel
theorem dX7_isSelected_31 : decode cX7_isSelected 31 = .ok (.iload 4, 2) := by decide +kernel
theorem dX7_isSelected_33 : decode cX7_isSelected 33 = .ok (.invokestatic 224, 3) := by decide +kernel
theorem dX7_isSelected_36 : decode cX7_isSelected 36 = .ok (.ifCond .eq 7, 3) := by decide +kernel
theorem dX7_isSelected_39 : decode cX7_isSelected 39 = .ok (.iconst 1, 1) := by decide +kernel
theorem dX7_isSelected_40 : decode cX7_isSelected 40 = .ok (.goto 4, 3) := by decide +kernel
theorem dX7_isSelected_43 : decode cX7_isSelected 43 = .ok (.iconst 0, 1) := by decide +kernel
theorem dX7_isSelected_44 : decode cX7_isSelected 44 = .ok (.iadd, 1) := by decide +kernel
theorem dX7_isSelected_45 : decode cX7_isSelected 45 = .ok (.istore 7, 2) := by decide +kernel
theorem dX7_isSelected_47 : decode cX7_isSelected 47 = .ok (.iinc 8 1, 3) := by decide +kernel
theorem dX7_isSelected_50 : decode cX7_isSelected 50 = .ok (.goto (-36), 3) := by decide +kernel
theorem dX7_isSelected_53 : decode cX7_isSelected 53 = .ok (.iload 5, 2) := by decide +kernel
theorem dX7_isSelected_55 : decode cX7_isSelected 55 = .ok (.ifCond .eq 23, 3) := by decide +kernel
theorem dX7_isSelected_58 : decode cX7_isSelected 58 = .ok (.iload 6, 2) := by decide +kernel
theorem dX7_isSelected_60 : decode cX7_isSelected 60 = .ok (.ifCond .le 14, 3) := by decide +kernel
theorem dX7_isSelected_63 : decode cX7_isSelected 63 = .ok (.iload 7, 2) := by decide +kernel
theorem dX7_isSelected_65 : decode cX7_isSelected 65 = .ok (.iload 6, 2) := by decide +kernel
theorem dX7_isSelected_67 : decode cX7_isSelected 67 = .ok (.if_icmp .ne 7, 3) := by decide +kernel
theorem dX7_isSelected_70 : decode cX7_isSelected 70 = .ok (.iconst 1, 1) := by decide +kernel
theorem dX7_isSelected_71 : decode cX7_isSelected 71 = .ok (.goto 17, 3) := by decide +kernel
theorem dX7_isSelected_74 : decode cX7_isSelected 74 = .ok (.iconst 0, 1) := by decide +kernel
theorem dX7_isSelected_75 : decode cX7_isSelected 75 = .ok (.goto 13, 3) := by decide +kernel
theorem dX7_isSelected_78 : decode cX7_isSelected 78 = .ok (.iload 7, 2) := by decide +kernel
theorem dX7_isSelected_80 : decode cX7_isSelected 80 = .ok (.ifCond .le 7, 3) := by decide +kernel
theorem dX7_isSelected_83 : decode cX7_isSelected 83 = .ok (.iconst 1, 1) := by decide +kernel
theorem dX7_isSelected_84 : decode cX7_isSelected 84 = .ok (.goto 4, 3) := by decide +kernel
theorem dX7_isSelected_87 : decode cX7_isSelected 87 = .ok (.iconst 0, 1) := by decide +kernel
theorem dX7_isSelected_88 : decode cX7_isSelected 88 = .ok (.ireturn, 1) := by decide +kernel
theorem dX7_goSelect_0 : decode cX7_goSelect 0 = .ok (.iload_n 1, 1) := by decide +kernel
theorem dX7_goSelect_1 : decode cX7_goSelect 1 = .ok (.invokestatic 215, 3) := by decide +kernel
theorem dX7_goSelect_4 : decode cX7_goSelect 4 = .ok (.ifCond .eq 11, 3) := by decide +kernel
theorem dX7_goSelect_7 : decode cX7_goSelect 7 = .ok (.iload 5, 2) := by decide +kernel
theorem dX7_goSelect_9 : decode cX7_goSelect 9 = .ok (.invokestatic 227, 3) := by decide +kernel
theorem dX7_goSelect_12 : decode cX7_goSelect 12 = .ok (.ifCond .ne 6, 3) := by decide +kernel
theorem dX7_goSelect_15 : decode cX7_goSelect 15 = .ok (.ldc 41, 2) := by decide +kernel
theorem dX7_goSelect_17 : decode cX7_goSelect 17 = .ok (.ireturn, 1) := by decide +kernel
theorem dX7_goSelect_18 : decode cX7_goSelect 18 = .ok (.iload_n 2, 1) := by decide +kernel
theorem dX7_goSelect_19 : decode cX7_goSelect 19 = .ok (.iconst 0, 1) := by decide +kernel
theorem dX7_goSelect_20 : decode cX7_goSelect 20 = .ok (.iconst 2, 1) := by decide +kernel
theorem dX7_goSelect_21 : decode cX7_goSelect 21 = .ok (.invokestatic 50, 3) := by decide +kernel
theorem dX7_goSelect_24 : decode cX7_goSelect 24 = .ok (.ifCond .eq 14, 3) := by decide +kernel
theorem dX7_goSelect_27 : decode cX7_goSelect 27 = .ok (.iload_n 3, 1) := by decide +kernel
theorem dX7_goSelect_28 : decode cX7_goSelect 28 = .ok (.ldc 230, 2) := by decide +kernel
theorem dX7_goSelect_30 : decode cX7_goSelect 30 = .ok (.ldc 231, 2) := by decide +kernel
theorem dX7_goSelect_32 : decode cX7_goSelect 32 = .ok (.invokestatic 50, 3) := by decide +kernel
theorem dX7_goSelect_35 : decode cX7_goSelect 35 = .ok (.ifCond .ne 6, 3) := by decide +kernel
theorem dX7_goSelect_38 : decode cX7_goSelect 38 = .ok (.ldc 85, 2) := by decide +kernel
theorem dX7_goSelect_40 : decode cX7_goSelect 40 = .ok (.ireturn, 1) := by decide +kernel
theorem dX7_goSelect_41 : decode cX7_goSelect 41 = .ok (.iconst 0, 1) := by decide +kernel
theorem dX7_goSelect_42 : decode cX7_goSelect 42 = .ok (.istore 6, 2) := by decide +kernel
theorem dX7_goSelect_44 : decode cX7_goSelect 44 = .ok (.iload 6, 2) := by decide +kernel
theorem dX7_goSelect_46 : decode cX7_goSelect 46 = .ok (.bipush 100, 2) := by decide +kernel
theorem dX7_goSelect_48 : decode cX7_goSelect 48 = .ok (.if_icmp .ge 49, 3) := by decide +kernel
theorem dX7_goSelect_51 : decode cX7_goSelect 51 = .ok (.aload_n 0, 1) := by decide +kernel
theorem dX7_goSelect_52 : decode cX7_goSelect 52 = .ok (.iload 6, 2) := by decide +kernel
theorem dX7_goSelect_54 : decode cX7_goSelect 54 = .ok (.invokevirtual 86, 3) := by decide +kernel
theorem dX7_goSelect_57 : decode cX7_goSelect 57 = .ok (.istore 7, 2) := by decide +kernel
theorem dX7_goSelect_59 : decode cX7_goSelect 59 = .ok (.aload_n 0, 1) := by decide +kernel
theorem dX7_goSelect_60 : decode cX7_goSelect 60 = .ok (.iload 5, 2) := by decide +kernel
theorem dX7_goSelect_62 : decode cX7_goSelect 62 = .ok (.iload 6, 2) := by decide +kernel
theorem dX7_goSelect_64 : decode cX7_goSelect 64 = .ok (.iload 7, 2) := by decide +kernel
theorem dX7_goSelect_66 : decode cX7_goSelect 66 = .ok (.ifCond .lt 21, 3) := by decide +kernel
theorem dX7_goSelect_69 : decode cX7_goSelect 69 = .ok (.aload_n 0, 1) := by decide +kernel
theorem dX7_goSelect_70 : decode cX7_goSelect 70 = .ok (.iload 7, 2) := by decide +kernel
theorem dX7_goSelect_72 : decode cX7_goSelect 72 = .ok (.iload_n 1, 1) := by decide +kernel
theorem dX7_goSelect_73 : decode cX7_goSelect 73 = .ok (.iload_n 2, 1) := by decide +kernel
theorem dX7_goSelect_74 : decode cX7_goSelect 74 = .ok (.iload_n 3, 1) := by decide +kernel
theorem dX7_goSelect_75 : decode cX7_goSelect 75 = .ok (.iload 4, 2) := by decide +kernel
theorem dX7_goSelect_77 : decode cX7_goSelect 77 = .ok (.invokevirtual 232, 3) := by decide +kernel
theorem dX7_goSelect_80 : decode cX7_goSelect 80 = .ok (.ifCond .eq 7, 3) := by decide +kernel
theorem dX7_goSelect_83 : decode cX7_goSelect 83 = .ok (.iconst 1, 1) := by decide +kernel
theorem dX7_goSelect_84 : decode cX7_goSelect 84 = .ok (.goto 4, 3) := by decide +kernel
theorem dX7_goSelect_87 : decode cX7_goSelect 87 = .ok (.iconst 0, 1) := by decide +kernel
theorem dX7_goSelect_88 : decode cX7_goSelect 88 = .ok (.invokevirtual 236, 3) := by decide +kernel
theorem dX7_goSelect_91 : decode cX7_goSelect 91 = .ok (.iinc 6 1, 3) := by decide +kernel
theorem dX7_goSelect_94 : decode cX7_goSelect 94 = .ok (.goto (-50), 3) := by decide +kernel
theorem dX7_goSelect_97 : decode cX7_goSelect 97 = .ok (.aload_n 0, 1) := by decide +kernel
theorem dX7_goSelect_98 : decode cX7_goSelect 98 = .ok (.iload 5, 2) := by decide +kernel
theorem dX7_goSelect_100 : decode cX7_goSelect 100 = .ok (.invokevirtual 240, 3) := by decide +kernel
theorem dX7_goSelect_103 : decode cX7_goSelect 103 = .ok (.ireturn, 1) := by decide +kernel
theorem dX7_goCombine_0 : decode cX7_goCombine 0 = .ok (.iload_n 2, 1) := by decide +kernel
theorem dX7_goCombine_1 : decode cX7_goCombine 1 = .ok (.invokestatic 227, 3) := by decide +kernel
theorem dX7_goCombine_4 : decode cX7_goCombine 4 = .ok (.ifCond .eq 18, 3) := by decide +kernel
theorem dX7_goCombine_7 : decode cX7_goCombine 7 = .ok (.iload_n 3, 1) := by decide +kernel
theorem dX7_goCombine_8 : decode cX7_goCombine 8 = .ok (.invokestatic 227, 3) := by decide +kernel
theorem dX7_goCombine_11 : decode cX7_goCombine 11 = .ok (.ifCond .eq 11, 3) := by decide +kernel
theorem dX7_goCombine_14 : decode cX7_goCombine 14 = .ok (.iload 4, 2) := by decide +kernel
theorem dX7_goCombine_16 : decode cX7_goCombine 16 = .ok (.invokestatic 227, 3) := by decide +kernel
theorem dX7_goCombine_19 : decode cX7_goCombine 19 = .ok (.ifCond .ne 6, 3) := by decide +kernel
theorem dX7_goCombine_22 : decode cX7_goCombine 22 = .ok (.ldc 41, 2) := by decide +kernel
theorem dX7_goCombine_24 : decode cX7_goCombine 24 = .ok (.ireturn, 1) := by decide +kernel
theorem dX7_goCombine_25 : decode cX7_goCombine 25 = .ok (.iload_n 1, 1) := by decide +kernel
theorem dX7_goCombine_26 : decode cX7_goCombine 26 = .ok (.iconst 0, 1) := by decide +kernel
theorem dX7_goCombine_27 : decode cX7_goCombine 27 = .ok (.iconst 2, 1) := by decide +kernel
theorem dX7_goCombine_28 : decode cX7_goCombine 28 = .ok (.invokestatic 50, 3) := by decide +kernel
theorem dX7_goCombine_31 : decode cX7_goCombine 31 = .ok (.ifCond .ne 6, 3) := by decide +kernel
theorem dX7_goCombine_34 : decode cX7_goCombine 34 = .ok (.ldc 85, 2) := by decide +kernel
theorem dX7_goCombine_36 : decode cX7_goCombine 36 = .ok (.ireturn, 1) := by decide +kernel
theorem dX7_goCombine_37 : decode cX7_goCombine 37 = .ok (.iconst 0, 1) := by decide +kernel
theorem dX7_goCombine_38 : decode cX7_goCombine 38 = .ok (.istore 5, 2) := by decide +kernel
theorem dX7_goCombine_40 : decode cX7_goCombine 40 = .ok (.iload 5, 2) := by decide +kernel
theorem dX7_goCombine_42 : decode cX7_goCombine 42 = .ok (.bipush 100, 2) := by decide +kernel
theorem dX7_goCombine_44 : decode cX7_goCombine 44 = .ok (.if_icmp .ge 95, 3) := by decide +kernel
theorem dX7_goCombine_47 : decode cX7_goCombine 47 = .ok (.aload_n 0, 1) := by decide +kernel
theorem dX7_goCombine_48 : decode cX7_goCombine 48 = .ok (.iload_n 2, 1) := by decide +kernel
theorem dX7_goCombine_49 : decode cX7_goCombine 49 = .ok (.iload 5, 2) := by decide +kernel
theorem dX7_goCombine_51 : decode cX7_goCombine 51 = .ok (.invokevirtual 218, 3) := by decide +kernel
theorem dX7_goCombine_54 : decode cX7_goCombine 54 = .ok (.istore 6, 2) := by decide +kernel
theorem dX7_goCombine_56 : decode cX7_goCombine 56 = .ok (.aload_n 0, 1) := by decide +kernel
theorem dX7_goCombine_57 : decode cX7_goCombine 57 = .ok (.iload_n 3, 1) := by decide +kernel
theorem dX7_goCombine_58 : decode cX7_goCombine 58 = .ok (.iload 5, 2) := by decide +kernel
theorem dX7_goCombine_60 : decode cX7_goCombine 60 = .ok (.invokevirtual 218, 3) := by decide +kernel
theorem dX7_goCombine_63 : decode cX7_goCombine 63 = .ok (.istore 7, 2) := by decide +kernel
theorem dX7_goCombine_65 : decode cX7_goCombine 65 = .ok (.aload_n 0, 1) := by decide +kernel
theorem dX7_goCombine_66 : decode cX7_goCombine 66 = .ok (.iload 4, 2) := by decide +kernel
theorem dX7_goCombine_68 : decode cX7_goCombine 68 = .ok (.iload 5, 2) := by decide +kernel
theorem dX7_goCombine_70 : decode cX7_goCombine 70 = .ok (.iload_n 1, 1) := by decide +kernel
theorem dX7_goCombine_71 : decode cX7_goCombine 71 = .ok (.ifCond .ne 21, 3) := by decide +kernel
theorem dX7_goCombine_74 : decode cX7_goCombine 74 = .ok (.iload 6, 2) := by decide +kernel
theorem dX7_goCombine_76 : decode cX7_goCombine 76 = .ok (.ifCond .eq 12, 3) := by decide +kernel
theorem dX7_goCombine_79 : decode cX7_goCombine 79 = .ok (.iload 7, 2) := by decide +kernel
theorem dX7_goCombine_81 : decode cX7_goCombine 81 = .ok (.ifCond .eq 7, 3) := by decide +kernel
theorem dX7_goCombine_84 : decode cX7_goCombine 84 = .ok (.iconst 1, 1) := by decide +kernel
theorem dX7_goCombine_85 : decode cX7_goCombine 85 = .ok (.goto 45, 3) := by decide +kernel
theorem dX7_goCombine_88 : decode cX7_goCombine 88 = .ok (.iconst 0, 1) := by decide +kernel
theorem dX7_goCombine_89 : decode cX7_goCombine 89 = .ok (.goto 41, 3) := by decide +kernel
theorem dX7_goCombine_92 : decode cX7_goCombine 92 = .ok (.iload_n 1, 1) := by decide +kernel
theorem dX7_goCombine_93 : decode cX7_goCombine 93 = .ok (.iconst 1, 1) := by decide +kernel
theorem dX7_goCombine_94 : decode cX7_goCombine 94 = .ok (.if_icmp .ne 21, 3) := by decide +kernel
theorem dX7_goCombine_97 : decode cX7_goCombine 97 = .ok (.iload 6, 2) := by decide +kernel
theorem dX7_goCombine_99 : decode cX7_goCombine 99 = .ok (.ifCond .ne 8, 3) := by decide +kernel
theorem dX7_goCombine_102 : decode cX7_goCombine 102 = .ok (.iload 7, 2) := by decide +kernel
theorem dX7_goCombine_104 : decode cX7_goCombine 104 = .ok (.ifCond .eq 7, 3) := by decide +kernel
theorem dX7_goCombine_107 : decode cX7_goCombine 107 = .ok (.iconst 1, 1) := by decide +kernel
theorem dX7_goCombine_108 : decode cX7_goCombine 108 = .ok (.goto 22, 3) := by decide +kernel
theorem dX7_goCombine_111 : decode cX7_goCombine 111 = .ok (.iconst 0, 1) := by decide +kernel
theorem dX7_goCombine_112 : decode cX7_goCombine 112 = .ok (.goto 18, 3) := by decide +kernel
theorem dX7_goCombine_115 : decode cX7_goCombine 115 = .ok (.iload 6, 2) := by decide +kernel
theorem dX7_goCombine_117 : decode cX7_goCombine 117 = .ok (.ifCond .eq 12, 3) := by decide +kernel
theorem dX7_goCombine_120 : decode cX7_goCombine 120 = .ok (.iload 7, 2) := by decide +kernel
theorem dX7_goCombine_122 : decode cX7_goCombine 122 = .ok (.ifCond .ne 7, 3) := by decide +kernel
theorem dX7_goCombine_125 : decode cX7_goCombine 125 = .ok (.iconst 1, 1) := by decide +kernel
theorem dX7_goCombine_126 : decode cX7_goCombine 126 = .ok (.goto 4, 3) := by decide +kernel
theorem dX7_goCombine_129 : decode cX7_goCombine 129 = .ok (.iconst 0, 1) := by decide +kernel
theorem dX7_goCombine_130 : decode cX7_goCombine 130 = .ok (.invokevirtual 236, 3) := by decide +kernel
theorem dX7_goCombine_133 : decode cX7_goCombine 133 = .ok (.iinc 5 1, 3) := by decide +kernel
theorem dX7_goCombine_136 : decode cX7_goCombine 136 = .ok (.goto (-96), 3) := by decide +kernel
theorem dX7_goCombine_139 : decode cX7_goCombine 139 = .ok (.aload_n 0, 1) := by decide +kernel
theorem dX7_goCombine_140 : decode cX7_goCombine 140 = .ok (.iload 4, 2) := by decide +kernel
theorem dX7_goCombine_142 : decode cX7_goCombine 142 = .ok (.invokevirtual 240, 3) := by decide +kernel
theorem dX7_goCombine_145 : decode cX7_goCombine 145 = .ok (.ireturn, 1) := by decide +kernel
theorem dX7_goClear_0 : decode cX7_goClear 0 = .ok (.iload_n 1, 1) := by decide +kernel
theorem dX7_goClear_1 : decode cX7_goClear 1 = .ok (.invokestatic 227, 3) := by decide +kernel
theorem dX7_goClear_4 : decode cX7_goClear 4 = .ok (.ifCond .ne 6, 3) := by decide +kernel
theorem dX7_goClear_7 : decode cX7_goClear 7 = .ok (.ldc 41, 2) := by decide +kernel
theorem dX7_goClear_9 : decode cX7_goClear 9 = .ok (.ireturn, 1) := by decide +kernel
theorem dX7_goClear_10 : decode cX7_goClear 10 = .ok (.aload_n 0, 1) := by decide +kernel
theorem dX7_goClear_11 : decode cX7_goClear 11 = .ok (.iload_n 1, 1) := by decide +kernel
theorem dX7_goClear_12 : decode cX7_goClear 12 = .ok (.invokevirtual 240, 3) := by decide +kernel
theorem dX7_goClear_15 : decode cX7_goClear 15 = .ok (.istore_n 2, 1) := by decide +kernel
theorem dX7_goClear_16 : decode cX7_goClear 16 = .ok (.iconst 0, 1) := by decide +kernel
theorem dX7_goClear_17 : decode cX7_goClear 17 = .ok (.istore_n 3, 1) := by decide +kernel
theorem dX7_goClear_18 : decode cX7_goClear 18 = .ok (.iload_n 3, 1) := by decide +kernel
theorem dX7_goClear_19 : decode cX7_goClear 19 = .ok (.iconst 4, 1) := by decide +kernel
theorem dX7_goClear_20 : decode cX7_goClear 20 = .ok (.if_icmp .ge 23, 3) := by decide +kernel
theorem dX7_goClear_23 : decode cX7_goClear 23 = .ok (.aload_n 0, 1) := by decide +kernel
theorem dX7_goClear_24 : decode cX7_goClear 24 = .ok (.getfield 7, 3) := by decide +kernel
theorem dX7_goClear_27 : decode cX7_goClear 27 = .ok (.bipush 23, 2) := by decide +kernel
theorem dX7_goClear_29 : decode cX7_goClear 29 = .ok (.iconst 4, 1) := by decide +kernel
theorem dX7_goClear_30 : decode cX7_goClear 30 = .ok (.iload_n 1, 1) := by decide +kernel
theorem dX7_goClear_31 : decode cX7_goClear 31 = .ok (.imul, 1) := by decide +kernel
theorem dX7_goClear_32 : decode cX7_goClear 32 = .ok (.iadd, 1) := by decide +kernel
theorem dX7_goClear_33 : decode cX7_goClear 33 = .ok (.iload_n 3, 1) := by decide +kernel
theorem dX7_goClear_34 : decode cX7_goClear 34 = .ok (.iadd, 1) := by decide +kernel
theorem dX7_goClear_35 : decode cX7_goClear 35 = .ok (.iconst 0, 1) := by decide +kernel
theorem dX7_goClear_36 : decode cX7_goClear 36 = .ok (.iastore, 1) := by decide +kernel
theorem dX7_goClear_37 : decode cX7_goClear 37 = .ok (.iinc 3 1, 3) := by decide +kernel
theorem dX7_goClear_40 : decode cX7_goClear 40 = .ok (.goto (-22), 3) := by decide +kernel
theorem dX7_goClear_43 : decode cX7_goClear 43 = .ok (.iload_n 2, 1) := by decide +kernel
theorem dX7_goClear_44 : decode cX7_goClear 44 = .ok (.ireturn, 1) := by decide +kernel
theorem dX7_associate_0 : decode cX7_associate 0 = .ok (.aload_n 0, 1) := by decide +kernel
theorem dX7_associate_1 : decode cX7_associate 1 = .ok (.invokevirtual 110, 3) := by decide +kernel
theorem dX7_associate_4 : decode cX7_associate 4 = .ok (.aload_n 0, 1) := by decide +kernel
theorem dX7_associate_5 : decode cX7_associate 5 = .ok (.aload_n 0, 1) := by decide +kernel
theorem dX7_associate_6 : decode cX7_associate 6 = .ok (.iload_n 1, 1) := by decide +kernel
theorem dX7_associate_7 : decode cX7_associate 7 = .ok (.iload_n 2, 1) := by decide +kernel
theorem dX7_associate_8 : decode cX7_associate 8 = .ok (.invokevirtual 243, 3) := by decide +kernel
theorem dX7_associate_11 : decode cX7_associate 11 = .ok (.invokevirtual 116, 3) := by decide +kernel
theorem dX7_associate_14 : decode cX7_associate 14 = .ok (.ireturn, 1) := by decide +kernel
theorem dX7_define_0 : decode cX7_define 0 = .ok (.aload_n 0, 1) := by decide +kernel
theorem dX7_define_1 : decode cX7_define 1 = .ok (.invokevirtual 110, 3) := by decide +kernel
theorem dX7_define_4 : decode cX7_define 4 = .ok (.aload_n 0, 1) := by decide +kernel
theorem dX7_define_5 : decode cX7_define 5 = .ok (.aload_n 0, 1) := by decide +kernel
theorem dX7_define_6 : decode cX7_define 6 = .ok (.iload_n 1, 1) := by decide +kernel
theorem dX7_define_7 : decode cX7_define 7 = .ok (.iload_n 2, 1) := by decide +kernel
theorem dX7_define_8 : decode cX7_define 8 = .ok (.iload_n 3, 1) := by decide +kernel
theorem dX7_define_9 : decode cX7_define 9 = .ok (.iload 4, 2) := by decide +kernel
theorem dX7_define_11 : decode cX7_define 11 = .ok (.invokevirtual 247, 3) := by decide +kernel
theorem dX7_define_14 : decode cX7_define 14 = .ok (.invokevirtual 116, 3) := by decide +kernel
theorem dX7_define_17 : decode cX7_define 17 = .ok (.ireturn, 1) := by decide +kernel
theorem dX7_select_0 : decode cX7_select 0 = .ok (.aload_n 0, 1) := by decide +kernel
theorem dX7_select_1 : decode cX7_select 1 = .ok (.invokevirtual 110, 3) := by decide +kernel
theorem dX7_select_4 : decode cX7_select 4 = .ok (.aload_n 0, 1) := by decide +kernel
theorem dX7_select_5 : decode cX7_select 5 = .ok (.aload_n 0, 1) := by decide +kernel
theorem dX7_select_6 : decode cX7_select 6 = .ok (.iload_n 1, 1) := by decide +kernel
theorem dX7_select_7 : decode cX7_select 7 = .ok (.iload_n 2, 1) := by decide +kernel
theorem dX7_select_8 : decode cX7_select 8 = .ok (.iload_n 3, 1) := by decide +kernel
theorem dX7_select_9 : decode cX7_select 9 = .ok (.iload 4, 2) := by decide +kernel
theorem dX7_select_11 : decode cX7_select 11 = .ok (.iload 5, 2) := by decide +kernel
theorem dX7_select_13 : decode cX7_select 13 = .ok (.invokevirtual 250, 3) := by decide +kernel
theorem dX7_select_16 : decode cX7_select 16 = .ok (.invokevirtual 116, 3) := by decide +kernel
theorem dX7_select_19 : decode cX7_select 19 = .ok (.ireturn, 1) := by decide +kernel
theorem dX7_combine_0 : decode cX7_combine 0 = .ok (.aload_n 0, 1) := by decide +kernel
theorem dX7_combine_1 : decode cX7_combine 1 = .ok (.invokevirtual 110, 3) := by decide +kernel
theorem dX7_combine_4 : decode cX7_combine 4 = .ok (.aload_n 0, 1) := by decide +kernel
theorem dX7_combine_5 : decode cX7_combine 5 = .ok (.aload_n 0, 1) := by decide +kernel
theorem dX7_combine_6 : decode cX7_combine 6 = .ok (.iload_n 1, 1) := by decide +kernel
theorem dX7_combine_7 : decode cX7_combine 7 = .ok (.iload_n 2, 1) := by decide +kernel
theorem dX7_combine_8 : decode cX7_combine 8 = .ok (.iload_n 3, 1) := by decide +kernel
theorem dX7_combine_9 : decode cX7_combine 9 = .ok (.iload 4, 2) := by decide +kernel
theorem dX7_combine_11 : decode cX7_combine 11 = .ok (.invokevirtual 254, 3) := by decide +kernel
theorem dX7_combine_14 : decode cX7_combine 14 = .ok (.invokevirtual 116, 3) := by decide +kernel
theorem dX7_combine_17 : decode cX7_combine 17 = .ok (.ireturn, 1) := by decide +kernel
theorem dX7_clearList_0 : decode cX7_clearList 0 = .ok (.aload_n 0, 1) := by decide +kernel
theorem dX7_clearList_1 : decode cX7_clearList 1 = .ok (.invokevirtual 110, 3) := by decide +kernel
theorem dX7_clearList_4 : decode cX7_clearList 4 = .ok (.aload_n 0, 1) := by decide +kernel
theorem dX7_clearList_5 : decode cX7_clearList 5 = .ok (.aload_n 0, 1) := by decide +kernel
theorem dX7_clearList_6 : decode cX7_clearList 6 = .ok (.iload_n 1, 1) := by decide +kernel
theorem dX7_clearList_7 : decode cX7_clearList 7 = .ok (.invokevirtual 257, 3) := by decide +kernel
theorem dX7_clearList_10 : decode cX7_clearList 10 = .ok (.invokevirtual 116, 3) := by decide +kernel
theorem dX7_clearList_13 : decode cX7_clearList 13 = .ok (.ireturn, 1) := by decide +kernel
theorem dX7_records_0 : decode cX7_records 0 = .ok (.aload_n 0, 1) := by decide +kernel
theorem dX7_records_1 : decode cX7_records 1 = .ok (.getfield 7, 3) := by decide +kernel
theorem dX7_records_4 : decode cX7_records 4 = .ok (.iconst 0, 1) := by decide +kernel
theorem dX7_records_5 : decode cX7_records 5 = .ok (.iaload, 1) := by decide +kernel
theorem dX7_records_6 : decode cX7_records 6 = .ok (.ireturn, 1) := by decide +kernel
theorem dX7_recordAt_0 : decode cX7_recordAt 0 = .ok (.iload_n 1, 1) := by decide +kernel
theorem dX7_recordAt_1 : decode cX7_recordAt 1 = .ok (.ifCond .ge 6, 3) := by decide +kernel
theorem dX7_recordAt_4 : decode cX7_recordAt 4 = .ok (.ldc 85, 2) := by decide +kernel
theorem dX7_recordAt_6 : decode cX7_recordAt 6 = .ok (.ireturn, 1) := by decide +kernel
theorem dX7_recordAt_7 : decode cX7_recordAt 7 = .ok (.ldc 176, 2) := by decide +kernel
theorem dX7_recordAt_9 : decode cX7_recordAt 9 = .ok (.istore_n 2, 1) := by decide +kernel
theorem dX7_recordAt_10 : decode cX7_recordAt 10 = .ok (.iconst 0, 1) := by decide +kernel
theorem dX7_recordAt_11 : decode cX7_recordAt 11 = .ok (.istore_n 3, 1) := by decide +kernel
theorem dX7_recordAt_12 : decode cX7_recordAt 12 = .ok (.iload_n 3, 1) := by decide +kernel
theorem dX7_recordAt_13 : decode cX7_recordAt 13 = .ok (.aload_n 0, 1) := by decide +kernel
theorem dX7_recordAt_14 : decode cX7_recordAt 14 = .ok (.getfield 7, 3) := by decide +kernel
theorem dX7_recordAt_17 : decode cX7_recordAt 17 = .ok (.iconst 0, 1) := by decide +kernel
theorem dX7_recordAt_18 : decode cX7_recordAt 18 = .ok (.iaload, 1) := by decide +kernel
theorem dX7_recordAt_19 : decode cX7_recordAt 19 = .ok (.if_icmp .ge 75, 3) := by decide +kernel
theorem dX7_recordAt_22 : decode cX7_recordAt 22 = .ok (.iconst 0, 1) := by decide +kernel
theorem dX7_recordAt_23 : decode cX7_recordAt 23 = .ok (.istore 4, 2) := by decide +kernel
theorem dX7_recordAt_25 : decode cX7_recordAt 25 = .ok (.iconst 0, 1) := by decide +kernel
theorem dX7_recordAt_26 : decode cX7_recordAt 26 = .ok (.istore 5, 2) := by decide +kernel
theorem dX7_recordAt_28 : decode cX7_recordAt 28 = .ok (.iload 5, 2) := by decide +kernel
theorem dX7_recordAt_30 : decode cX7_recordAt 30 = .ok (.aload_n 0, 1) := by decide +kernel
theorem dX7_recordAt_31 : decode cX7_recordAt 31 = .ok (.getfield 7, 3) := by decide +kernel
theorem dX7_recordAt_34 : decode cX7_recordAt 34 = .ok (.iconst 0, 1) := by decide +kernel
theorem dX7_recordAt_35 : decode cX7_recordAt 35 = .ok (.iaload, 1) := by decide +kernel
theorem dX7_recordAt_36 : decode cX7_recordAt 36 = .ok (.if_icmp .ge 35, 3) := by decide +kernel
theorem dX7_recordAt_39 : decode cX7_recordAt 39 = .ok (.iload 4, 2) := by decide +kernel
theorem dX7_recordAt_41 : decode cX7_recordAt 41 = .ok (.aload_n 0, 1) := by decide +kernel
theorem dX7_recordAt_42 : decode cX7_recordAt 42 = .ok (.iload 5, 2) := by decide +kernel
theorem dX7_recordAt_44 : decode cX7_recordAt 44 = .ok (.iconst 0, 1) := by decide +kernel
theorem dX7_recordAt_45 : decode cX7_recordAt 45 = .ok (.invokevirtual 46, 3) := by decide +kernel
theorem dX7_recordAt_48 : decode cX7_recordAt 48 = .ok (.aload_n 0, 1) := by decide +kernel
theorem dX7_recordAt_49 : decode cX7_recordAt 49 = .ok (.iload_n 3, 1) := by decide +kernel
theorem dX7_recordAt_50 : decode cX7_recordAt 50 = .ok (.iconst 0, 1) := by decide +kernel
theorem dX7_recordAt_51 : decode cX7_recordAt 51 = .ok (.invokevirtual 46, 3) := by decide +kernel
theorem dX7_recordAt_54 : decode cX7_recordAt 54 = .ok (.if_icmp .ge 7, 3) := by decide +kernel
theorem dX7_recordAt_57 : decode cX7_recordAt 57 = .ok (.iconst 1, 1) := by decide +kernel
theorem dX7_recordAt_58 : decode cX7_recordAt 58 = .ok (.goto 4, 3) := by decide +kernel
theorem dX7_recordAt_61 : decode cX7_recordAt 61 = .ok (.iconst 0, 1) := by decide +kernel
theorem dX7_recordAt_62 : decode cX7_recordAt 62 = .ok (.iadd, 1) := by decide +kernel
theorem dX7_recordAt_63 : decode cX7_recordAt 63 = .ok (.istore 4, 2) := by decide +kernel
theorem dX7_recordAt_65 : decode cX7_recordAt 65 = .ok (.iinc 5 1, 3) := by decide +kernel
theorem dX7_recordAt_68 : decode cX7_recordAt 68 = .ok (.goto (-40), 3) := by decide +kernel
theorem dX7_recordAt_71 : decode cX7_recordAt 71 = .ok (.iload 4, 2) := by decide +kernel
theorem dX7_recordAt_73 : decode cX7_recordAt 73 = .ok (.iload_n 1, 1) := by decide +kernel
theorem dX7_recordAt_74 : decode cX7_recordAt 74 = .ok (.if_icmp .ne 12, 3) := by decide +kernel
theorem dX7_recordAt_77 : decode cX7_recordAt 77 = .ok (.aload_n 0, 1) := by decide +kernel
theorem dX7_recordAt_78 : decode cX7_recordAt 78 = .ok (.iload_n 3, 1) := by decide +kernel
theorem dX7_recordAt_79 : decode cX7_recordAt 79 = .ok (.iconst 0, 1) := by decide +kernel
theorem dX7_recordAt_80 : decode cX7_recordAt 80 = .ok (.invokevirtual 46, 3) := by decide +kernel
theorem dX7_recordAt_83 : decode cX7_recordAt 83 = .ok (.goto 4, 3) := by decide +kernel
theorem dX7_recordAt_86 : decode cX7_recordAt 86 = .ok (.iload_n 2, 1) := by decide +kernel
theorem dX7_recordAt_87 : decode cX7_recordAt 87 = .ok (.istore_n 2, 1) := by decide +kernel
theorem dX7_recordAt_88 : decode cX7_recordAt 88 = .ok (.iinc 3 1, 3) := by decide +kernel
theorem dX7_recordAt_91 : decode cX7_recordAt 91 = .ok (.goto (-79), 3) := by decide +kernel
theorem dX7_recordAt_94 : decode cX7_recordAt 94 = .ok (.iload_n 2, 1) := by decide +kernel
theorem dX7_recordAt_95 : decode cX7_recordAt 95 = .ok (.ireturn, 1) := by decide +kernel
theorem dX7_locker_0 : decode cX7_locker 0 = .ok (.aload_n 0, 1) := by decide +kernel
theorem dX7_locker_1 : decode cX7_locker 1 = .ok (.iload_n 1, 1) := by decide +kernel
theorem dX7_locker_2 : decode cX7_locker 2 = .ok (.invokevirtual 86, 3) := by decide +kernel
theorem dX7_locker_5 : decode cX7_locker 5 = .ok (.istore_n 2, 1) := by decide +kernel
theorem dX7_locker_6 : decode cX7_locker 6 = .ok (.iload_n 2, 1) := by decide +kernel
theorem dX7_locker_7 : decode cX7_locker 7 = .ok (.ifCond .ge 8, 3) := by decide +kernel
theorem dX7_locker_10 : decode cX7_locker 10 = .ok (.ldc 41, 2) := by decide +kernel
theorem dX7_locker_12 : decode cX7_locker 12 = .ok (.goto 25, 3) := by decide +kernel
theorem dX7_locker_15 : decode cX7_locker 15 = .ok (.aload_n 0, 1) := by decide +kernel
theorem dX7_locker_16 : decode cX7_locker 16 = .ok (.iload_n 2, 1) := by decide +kernel
theorem dX7_locker_17 : decode cX7_locker 17 = .ok (.iconst 1, 1) := by decide +kernel
theorem dX7_locker_18 : decode cX7_locker 18 = .ok (.invokevirtual 46, 3) := by decide +kernel
theorem dX7_locker_21 : decode cX7_locker 21 = .ok (.ifCond .ne 8, 3) := by decide +kernel
theorem dX7_locker_24 : decode cX7_locker 24 = .ok (.ldc 176, 2) := by decide +kernel
theorem dX7_locker_26 : decode cX7_locker 26 = .ok (.goto 11, 3) := by decide +kernel
theorem dX7_locker_29 : decode cX7_locker 29 = .ok (.aload_n 0, 1) := by decide +kernel
theorem dX7_locker_30 : decode cX7_locker 30 = .ok (.iload_n 2, 1) := by decide +kernel
theorem dX7_locker_31 : decode cX7_locker 31 = .ok (.iconst 1, 1) := by decide +kernel
theorem dX7_locker_32 : decode cX7_locker 32 = .ok (.invokevirtual 46, 3) := by decide +kernel
theorem dX7_locker_35 : decode cX7_locker 35 = .ok (.iconst 1, 1) := by decide +kernel
theorem dX7_locker_36 : decode cX7_locker 36 = .ok (.isub, 1) := by decide +kernel
theorem dX7_locker_37 : decode cX7_locker 37 = .ok (.ireturn, 1) := by decide +kernel
theorem dX7_values_0 : decode cX7_values 0 = .ok (.aload_n 0, 1) := by decide +kernel
theorem dX7_values_1 : decode cX7_values 1 = .ok (.iload_n 1, 1) := by decide +kernel
theorem dX7_values_2 : decode cX7_values 2 = .ok (.invokevirtual 86, 3) := by decide +kernel
theorem dX7_values_5 : decode cX7_values 5 = .ok (.istore_n 3, 1) := by decide +kernel
theorem dX7_values_6 : decode cX7_values 6 = .ok (.iload_n 3, 1) := by decide +kernel
theorem dX7_values_7 : decode cX7_values 7 = .ok (.ifCond .lt 10, 3) := by decide +kernel
theorem dX7_values_10 : decode cX7_values 10 = .ok (.iload_n 2, 1) := by decide +kernel
theorem dX7_values_11 : decode cX7_values 11 = .ok (.invokestatic 128, 3) := by decide +kernel
theorem dX7_values_14 : decode cX7_values 14 = .ok (.ifCond .ne 8, 3) := by decide +kernel
theorem dX7_values_17 : decode cX7_values 17 = .ok (.ldc 41, 2) := by decide +kernel
theorem dX7_values_19 : decode cX7_values 19 = .ok (.goto 9, 3) := by decide +kernel
theorem dX7_values_22 : decode cX7_values 22 = .ok (.aload_n 0, 1) := by decide +kernel
theorem dX7_values_23 : decode cX7_values 23 = .ok (.iload_n 3, 1) := by decide +kernel
theorem dX7_values_24 : decode cX7_values 24 = .ok (.iload_n 2, 1) := by decide +kernel
theorem dX7_values_25 : decode cX7_values 25 = .ok (.invokevirtual 61, 3) := by decide +kernel
theorem dX7_values_28 : decode cX7_values 28 = .ok (.ireturn, 1) := by decide +kernel
theorem dX7_subvalues_0 : decode cX7_subvalues 0 = .ok (.aload_n 0, 1) := by decide +kernel
theorem dX7_subvalues_1 : decode cX7_subvalues 1 = .ok (.iload_n 1, 1) := by decide +kernel
theorem dX7_subvalues_2 : decode cX7_subvalues 2 = .ok (.invokevirtual 86, 3) := by decide +kernel
theorem dX7_subvalues_5 : decode cX7_subvalues 5 = .ok (.istore 4, 2) := by decide +kernel
theorem dX7_subvalues_7 : decode cX7_subvalues 7 = .ok (.iload 4, 2) := by decide +kernel
theorem dX7_subvalues_9 : decode cX7_subvalues 9 = .ok (.ifCond .lt 21, 3) := by decide +kernel
theorem dX7_subvalues_12 : decode cX7_subvalues 12 = .ok (.iload_n 2, 1) := by decide +kernel
theorem dX7_subvalues_13 : decode cX7_subvalues 13 = .ok (.invokestatic 128, 3) := by decide +kernel
theorem dX7_subvalues_16 : decode cX7_subvalues 16 = .ok (.ifCond .eq 14, 3) := by decide +kernel
theorem dX7_subvalues_19 : decode cX7_subvalues 19 = .ok (.aload_n 0, 1) := by decide +kernel
theorem dX7_subvalues_20 : decode cX7_subvalues 20 = .ok (.iload 4, 2) := by decide +kernel
theorem dX7_subvalues_22 : decode cX7_subvalues 22 = .ok (.iload_n 2, 1) := by decide +kernel
theorem dX7_subvalues_23 : decode cX7_subvalues 23 = .ok (.iload_n 3, 1) := by decide +kernel
theorem dX7_subvalues_24 : decode cX7_subvalues 24 = .ok (.invokevirtual 64, 3) := by decide +kernel
theorem dX7_subvalues_27 : decode cX7_subvalues 27 = .ok (.ifCond .ne 8, 3) := by decide +kernel
theorem dX7_subvalues_30 : decode cX7_subvalues 30 = .ok (.ldc 41, 2) := by decide +kernel
theorem dX7_subvalues_32 : decode cX7_subvalues 32 = .ok (.goto 11, 3) := by decide +kernel
theorem dX7_subvalues_35 : decode cX7_subvalues 35 = .ok (.aload_n 0, 1) := by decide +kernel
theorem dX7_subvalues_36 : decode cX7_subvalues 36 = .ok (.iload 4, 2) := by decide +kernel
theorem dX7_subvalues_38 : decode cX7_subvalues 38 = .ok (.iload_n 2, 1) := by decide +kernel
theorem dX7_subvalues_39 : decode cX7_subvalues 39 = .ok (.iload_n 3, 1) := by decide +kernel
theorem dX7_subvalues_40 : decode cX7_subvalues 40 = .ok (.invokevirtual 67, 3) := by decide +kernel
theorem dX7_subvalues_43 : decode cX7_subvalues 43 = .ok (.ireturn, 1) := by decide +kernel
theorem dX7_get_0 : decode cX7_get 0 = .ok (.aload_n 0, 1) := by decide +kernel
theorem dX7_get_1 : decode cX7_get 1 = .ok (.iload_n 1, 1) := by decide +kernel
theorem dX7_get_2 : decode cX7_get 2 = .ok (.invokevirtual 86, 3) := by decide +kernel
theorem dX7_get_5 : decode cX7_get 5 = .ok (.istore 5, 2) := by decide +kernel
theorem dX7_get_7 : decode cX7_get 7 = .ok (.iload 5, 2) := by decide +kernel
theorem dX7_get_9 : decode cX7_get 9 = .ok (.ifCond .lt 23, 3) := by decide +kernel
theorem dX7_get_12 : decode cX7_get 12 = .ok (.iload_n 2, 1) := by decide +kernel
theorem dX7_get_13 : decode cX7_get 13 = .ok (.invokestatic 128, 3) := by decide +kernel
theorem dX7_get_16 : decode cX7_get 16 = .ok (.ifCond .eq 16, 3) := by decide +kernel
theorem dX7_get_19 : decode cX7_get 19 = .ok (.aload_n 0, 1) := by decide +kernel
theorem dX7_get_20 : decode cX7_get 20 = .ok (.iload 5, 2) := by decide +kernel
theorem dX7_get_22 : decode cX7_get 22 = .ok (.iload_n 2, 1) := by decide +kernel
theorem dX7_get_23 : decode cX7_get 23 = .ok (.iload_n 3, 1) := by decide +kernel
theorem dX7_get_24 : decode cX7_get 24 = .ok (.iload 4, 2) := by decide +kernel
theorem dX7_get_26 : decode cX7_get 26 = .ok (.invokevirtual 138, 3) := by decide +kernel
theorem dX7_get_29 : decode cX7_get 29 = .ok (.ifCond .ne 8, 3) := by decide +kernel
theorem dX7_get_32 : decode cX7_get 32 = .ok (.ldc 41, 2) := by decide +kernel
theorem dX7_get_34 : decode cX7_get 34 = .ok (.goto 13, 3) := by decide +kernel
theorem dX7_get_37 : decode cX7_get 37 = .ok (.aload_n 0, 1) := by decide +kernel
theorem dX7_get_38 : decode cX7_get 38 = .ok (.iload 5, 2) := by decide +kernel
theorem dX7_get_40 : decode cX7_get 40 = .ok (.iload_n 2, 1) := by decide +kernel
theorem dX7_get_41 : decode cX7_get 41 = .ok (.iload_n 3, 1) := by decide +kernel
theorem dX7_get_42 : decode cX7_get 42 = .ok (.iload 4, 2) := by decide +kernel
theorem dX7_get_44 : decode cX7_get 44 = .ok (.invokevirtual 74, 3) := by decide +kernel
theorem dX7_get_47 : decode cX7_get 47 = .ok (.ireturn, 1) := by decide +kernel
theorem dX7_lines_0 : decode cX7_lines 0 = .ok (.aload_n 0, 1) := by decide +kernel
theorem dX7_lines_1 : decode cX7_lines 1 = .ok (.iload_n 1, 1) := by decide +kernel
theorem dX7_lines_2 : decode cX7_lines 2 = .ok (.invokevirtual 86, 3) := by decide +kernel
theorem dX7_lines_5 : decode cX7_lines 5 = .ok (.istore_n 2, 1) := by decide +kernel
theorem dX7_lines_6 : decode cX7_lines 6 = .ok (.iload_n 2, 1) := by decide +kernel
theorem dX7_lines_7 : decode cX7_lines 7 = .ok (.ifCond .ge 6, 3) := by decide +kernel
theorem dX7_lines_10 : decode cX7_lines 10 = .ok (.ldc 41, 2) := by decide +kernel
theorem dX7_lines_12 : decode cX7_lines 12 = .ok (.ireturn, 1) := by decide +kernel
theorem dX7_lines_13 : decode cX7_lines 13 = .ok (.iconst 0, 1) := by decide +kernel
theorem dX7_lines_14 : decode cX7_lines 14 = .ok (.istore_n 3, 1) := by decide +kernel
theorem dX7_lines_15 : decode cX7_lines 15 = .ok (.iconst 0, 1) := by decide +kernel
theorem dX7_lines_16 : decode cX7_lines 16 = .ok (.istore 4, 2) := by decide +kernel
theorem dX7_lines_18 : decode cX7_lines 18 = .ok (.iload 4, 2) := by decide +kernel
theorem dX7_lines_20 : decode cX7_lines 20 = .ok (.iconst 4, 1) := by decide +kernel
theorem dX7_lines_21 : decode cX7_lines 21 = .ok (.if_icmp .ge 45, 3) := by decide +kernel
theorem dX7_lines_24 : decode cX7_lines 24 = .ok (.aload_n 0, 1) := by decide +kernel
theorem dX7_lines_25 : decode cX7_lines 25 = .ok (.getfield 7, 3) := by decide +kernel
theorem dX7_lines_28 : decode cX7_lines 28 = .ok (.iconst 1, 1) := by decide +kernel
theorem dX7_lines_29 : decode cX7_lines 29 = .ok (.iload 4, 2) := by decide +kernel
theorem dX7_lines_31 : decode cX7_lines 31 = .ok (.iadd, 1) := by decide +kernel
theorem dX7_lines_32 : decode cX7_lines 32 = .ok (.iaload, 1) := by decide +kernel
theorem dX7_lines_33 : decode cX7_lines 33 = .ok (.iconst 1, 1) := by decide +kernel
theorem dX7_lines_34 : decode cX7_lines 34 = .ok (.if_icmp .ne 24, 3) := by decide +kernel
theorem dX7_lines_37 : decode cX7_lines 37 = .ok (.aload_n 0, 1) := by decide +kernel
theorem dX7_lines_38 : decode cX7_lines 38 = .ok (.iload_n 2, 1) := by decide +kernel
theorem dX7_lines_39 : decode cX7_lines 39 = .ok (.iload 4, 2) := by decide +kernel
theorem dX7_lines_41 : decode cX7_lines 41 = .ok (.invokevirtual 61, 3) := by decide +kernel
theorem dX7_lines_44 : decode cX7_lines 44 = .ok (.iload_n 3, 1) := by decide +kernel
theorem dX7_lines_45 : decode cX7_lines 45 = .ok (.if_icmp .le 13, 3) := by decide +kernel
theorem dX7_lines_48 : decode cX7_lines 48 = .ok (.aload_n 0, 1) := by decide +kernel
theorem dX7_lines_49 : decode cX7_lines 49 = .ok (.iload_n 2, 1) := by decide +kernel
theorem dX7_lines_50 : decode cX7_lines 50 = .ok (.iload 4, 2) := by decide +kernel
theorem dX7_lines_52 : decode cX7_lines 52 = .ok (.invokevirtual 61, 3) := by decide +kernel
theorem dX7_lines_55 : decode cX7_lines 55 = .ok (.goto 4, 3) := by decide +kernel
theorem dX7_lines_58 : decode cX7_lines 58 = .ok (.iload_n 3, 1) := by decide +kernel
theorem dX7_lines_59 : decode cX7_lines 59 = .ok (.istore_n 3, 1) := by decide +kernel
theorem dX7_lines_60 : decode cX7_lines 60 = .ok (.iinc 4 1, 3) := by decide +kernel
theorem dX7_lines_63 : decode cX7_lines 63 = .ok (.goto (-45), 3) := by decide +kernel
theorem dX7_lines_66 : decode cX7_lines 66 = .ok (.iload_n 3, 1) := by decide +kernel
theorem dX7_lines_67 : decode cX7_lines 67 = .ok (.ireturn, 1) := by decide +kernel
theorem dX7_locate_0 : decode cX7_locate 0 = .ok (.aload_n 0, 1) := by decide +kernel
theorem dX7_locate_1 : decode cX7_locate 1 = .ok (.iload_n 1, 1) := by decide +kernel
theorem dX7_locate_2 : decode cX7_locate 2 = .ok (.invokevirtual 86, 3) := by decide +kernel
theorem dX7_locate_5 : decode cX7_locate 5 = .ok (.istore 4, 2) := by decide +kernel
theorem dX7_locate_7 : decode cX7_locate 7 = .ok (.iload 4, 2) := by decide +kernel
theorem dX7_locate_9 : decode cX7_locate 9 = .ok (.ifCond .lt 10, 3) := by decide +kernel
theorem dX7_locate_12 : decode cX7_locate 12 = .ok (.iload_n 2, 1) := by decide +kernel
theorem dX7_locate_13 : decode cX7_locate 13 = .ok (.invokestatic 128, 3) := by decide +kernel
theorem dX7_locate_16 : decode cX7_locate 16 = .ok (.ifCond .ne 6, 3) := by decide +kernel
theorem dX7_locate_19 : decode cX7_locate 19 = .ok (.ldc 41, 2) := by decide +kernel
theorem dX7_locate_21 : decode cX7_locate 21 = .ok (.ireturn, 1) := by decide +kernel
theorem dX7_locate_22 : decode cX7_locate 22 = .ok (.iload_n 3, 1) := by decide +kernel
theorem dX7_locate_23 : decode cX7_locate 23 = .ok (.invokestatic 131, 3) := by decide +kernel
theorem dX7_locate_26 : decode cX7_locate 26 = .ok (.ifCond .ne 6, 3) := by decide +kernel
theorem dX7_locate_29 : decode cX7_locate 29 = .ok (.ldc 85, 2) := by decide +kernel
theorem dX7_locate_31 : decode cX7_locate 31 = .ok (.ireturn, 1) := by decide +kernel
theorem dX7_locate_32 : decode cX7_locate 32 = .ok (.ldc 176, 2) := by decide +kernel
theorem dX7_locate_34 : decode cX7_locate 34 = .ok (.istore 5, 2) := by decide +kernel
theorem dX7_locate_36 : decode cX7_locate 36 = .ok (.aload_n 0, 1) := by decide +kernel
theorem dX7_locate_37 : decode cX7_locate 37 = .ok (.iload 4, 2) := by decide +kernel
theorem dX7_locate_39 : decode cX7_locate 39 = .ok (.iload_n 2, 1) := by decide +kernel
theorem dX7_locate_40 : decode cX7_locate 40 = .ok (.invokevirtual 61, 3) := by decide +kernel
theorem dX7_locate_43 : decode cX7_locate 43 = .ok (.iconst 1, 1) := by decide +kernel
theorem dX7_locate_44 : decode cX7_locate 44 = .ok (.isub, 1) := by decide +kernel
theorem dX7_locate_45 : decode cX7_locate 45 = .ok (.istore 6, 2) := by decide +kernel
theorem dX7_locate_47 : decode cX7_locate 47 = .ok (.iload 6, 2) := by decide +kernel
theorem dX7_locate_49 : decode cX7_locate 49 = .ok (.ifCond .lt 63, 3) := by decide +kernel
theorem dX7_locate_52 : decode cX7_locate 52 = .ok (.aload_n 0, 1) := by decide +kernel
theorem dX7_locate_53 : decode cX7_locate 53 = .ok (.iload 4, 2) := by decide +kernel
theorem dX7_locate_55 : decode cX7_locate 55 = .ok (.iload_n 2, 1) := by decide +kernel
theorem dX7_locate_56 : decode cX7_locate 56 = .ok (.iload 6, 2) := by decide +kernel
theorem dX7_locate_58 : decode cX7_locate 58 = .ok (.invokevirtual 67, 3) := by decide +kernel
theorem dX7_locate_61 : decode cX7_locate 61 = .ok (.iconst 1, 1) := by decide +kernel
theorem dX7_locate_62 : decode cX7_locate 62 = .ok (.isub, 1) := by decide +kernel
theorem dX7_locate_63 : decode cX7_locate 63 = .ok (.istore 7, 2) := by decide +kernel
theorem dX7_locate_65 : decode cX7_locate 65 = .ok (.iload 7, 2) := by decide +kernel
theorem dX7_locate_67 : decode cX7_locate 67 = .ok (.ifCond .lt 39, 3) := by decide +kernel
theorem dX7_locate_70 : decode cX7_locate 70 = .ok (.aload_n 0, 1) := by decide +kernel
theorem dX7_locate_71 : decode cX7_locate 71 = .ok (.iload 4, 2) := by decide +kernel
theorem dX7_locate_73 : decode cX7_locate 73 = .ok (.iload_n 2, 1) := by decide +kernel
theorem dX7_locate_74 : decode cX7_locate 74 = .ok (.iload 6, 2) := by decide +kernel
theorem dX7_locate_76 : decode cX7_locate 76 = .ok (.iload 7, 2) := by decide +kernel
theorem dX7_locate_78 : decode cX7_locate 78 = .ok (.invokevirtual 74, 3) := by decide +kernel
theorem dX7_locate_81 : decode cX7_locate 81 = .ok (.iload_n 3, 1) := by decide +kernel
theorem dX7_locate_82 : decode cX7_locate 82 = .ok (.if_icmp .ne 14, 3) := by decide +kernel
theorem dX7_locate_85 : decode cX7_locate 85 = .ok (.bipush 10, 2) := by decide +kernel
theorem dX7_locate_87 : decode cX7_locate 87 = .ok (.iload 6, 2) := by decide +kernel
theorem dX7_locate_89 : decode cX7_locate 89 = .ok (.imul, 1) := by decide +kernel
theorem dX7_locate_90 : decode cX7_locate 90 = .ok (.iload 7, 2) := by decide +kernel
theorem dX7_locate_92 : decode cX7_locate 92 = .ok (.iadd, 1) := by decide +kernel
theorem dX7_locate_93 : decode cX7_locate 93 = .ok (.goto 5, 3) := by decide +kernel
theorem dX7_locate_96 : decode cX7_locate 96 = .ok (.iload 5, 2) := by decide +kernel
theorem dX7_locate_98 : decode cX7_locate 98 = .ok (.istore 5, 2) := by decide +kernel
theorem dX7_locate_100 : decode cX7_locate 100 = .ok (.iinc 7 (-1), 3) := by decide +kernel
theorem dX7_locate_103 : decode cX7_locate 103 = .ok (.goto (-38), 3) := by decide +kernel
theorem dX7_locate_106 : decode cX7_locate 106 = .ok (.iinc 6 (-1), 3) := by decide +kernel
theorem dX7_locate_109 : decode cX7_locate 109 = .ok (.goto (-62), 3) := by decide +kernel
theorem dX7_locate_112 : decode cX7_locate 112 = .ok (.iload 5, 2) := by decide +kernel
theorem dX7_locate_114 : decode cX7_locate 114 = .ok (.ireturn, 1) := by decide +kernel
theorem dX7_column_0 : decode cX7_column 0 = .ok (.iload_n 1, 1) := by decide +kernel
theorem dX7_column_1 : decode cX7_column 1 = .ok (.invokestatic 215, 3) := by decide +kernel
theorem dX7_column_4 : decode cX7_column 4 = .ok (.ifCond .ne 8, 3) := by decide +kernel
theorem dX7_column_7 : decode cX7_column 7 = .ok (.ldc 41, 2) := by decide +kernel
theorem dX7_column_9 : decode cX7_column 9 = .ok (.goto 23, 3) := by decide +kernel
theorem dX7_column_12 : decode cX7_column 12 = .ok (.iload_n 2, 1) := by decide +kernel
theorem dX7_column_13 : decode cX7_column 13 = .ok (.iconst 0, 1) := by decide +kernel
theorem dX7_column_14 : decode cX7_column 14 = .ok (.iconst 2, 1) := by decide +kernel
theorem dX7_column_15 : decode cX7_column 15 = .ok (.invokestatic 50, 3) := by decide +kernel
theorem dX7_column_18 : decode cX7_column 18 = .ok (.ifCond .eq 12, 3) := by decide +kernel
theorem dX7_column_21 : decode cX7_column 21 = .ok (.aload_n 0, 1) := by decide +kernel
theorem dX7_column_22 : decode cX7_column 22 = .ok (.iload_n 1, 1) := by decide +kernel
theorem dX7_column_23 : decode cX7_column 23 = .ok (.iload_n 2, 1) := by decide +kernel
theorem dX7_column_24 : decode cX7_column 24 = .ok (.invokevirtual 200, 3) := by decide +kernel
theorem dX7_column_27 : decode cX7_column 27 = .ok (.goto 5, 3) := by decide +kernel
theorem dX7_column_30 : decode cX7_column 30 = .ok (.ldc 85, 2) := by decide +kernel
theorem dX7_column_32 : decode cX7_column 32 = .ok (.ireturn, 1) := by decide +kernel
theorem dX7_associated_0 : decode cX7_associated 0 = .ok (.iload_n 1, 1) := by decide +kernel
theorem dX7_associated_1 : decode cX7_associated 1 = .ok (.invokestatic 128, 3) := by decide +kernel
theorem dX7_associated_4 : decode cX7_associated 4 = .ok (.ifCond .eq 14, 3) := by decide +kernel
theorem dX7_associated_7 : decode cX7_associated 7 = .ok (.aload_n 0, 1) := by decide +kernel
theorem dX7_associated_8 : decode cX7_associated 8 = .ok (.getfield 7, 3) := by decide +kernel
theorem dX7_associated_11 : decode cX7_associated 11 = .ok (.iconst 1, 1) := by decide +kernel
theorem dX7_associated_12 : decode cX7_associated 12 = .ok (.iload_n 1, 1) := by decide +kernel
theorem dX7_associated_13 : decode cX7_associated 13 = .ok (.iadd, 1) := by decide +kernel
theorem dX7_associated_14 : decode cX7_associated 14 = .ok (.iaload, 1) := by decide +kernel
theorem dX7_associated_15 : decode cX7_associated 15 = .ok (.goto 5, 3) := by decide +kernel
theorem dX7_associated_18 : decode cX7_associated 18 = .ok (.ldc 41, 2) := by decide +kernel
theorem dX7_associated_20 : decode cX7_associated 20 = .ok (.ireturn, 1) := by decide +kernel
theorem dX7_listSize_0 : decode cX7_listSize 0 = .ok (.iload_n 1, 1) := by decide +kernel
theorem dX7_listSize_1 : decode cX7_listSize 1 = .ok (.invokestatic 227, 3) := by decide +kernel
theorem dX7_listSize_4 : decode cX7_listSize 4 = .ok (.ifCond .eq 11, 3) := by decide +kernel
theorem dX7_listSize_7 : decode cX7_listSize 7 = .ok (.aload_n 0, 1) := by decide +kernel
theorem dX7_listSize_8 : decode cX7_listSize 8 = .ok (.iload_n 1, 1) := by decide +kernel
theorem dX7_listSize_9 : decode cX7_listSize 9 = .ok (.invokevirtual 240, 3) := by decide +kernel
theorem dX7_listSize_12 : decode cX7_listSize 12 = .ok (.goto 5, 3) := by decide +kernel
theorem dX7_listSize_15 : decode cX7_listSize 15 = .ok (.ldc 41, 2) := by decide +kernel
theorem dX7_listSize_17 : decode cX7_listSize 17 = .ok (.ireturn, 1) := by decide +kernel
theorem dX7_listAt_0 : decode cX7_listAt 0 = .ok (.iload_n 1, 1) := by decide +kernel
theorem dX7_listAt_1 : decode cX7_listAt 1 = .ok (.invokestatic 227, 3) := by decide +kernel
theorem dX7_listAt_4 : decode cX7_listAt 4 = .ok (.ifCond .ne 6, 3) := by decide +kernel
theorem dX7_listAt_7 : decode cX7_listAt 7 = .ok (.ldc 41, 2) := by decide +kernel
theorem dX7_listAt_9 : decode cX7_listAt 9 = .ok (.ireturn, 1) := by decide +kernel
theorem dX7_listAt_10 : decode cX7_listAt 10 = .ok (.iload_n 2, 1) := by decide +kernel
theorem dX7_listAt_11 : decode cX7_listAt 11 = .ok (.ifCond .ge 6, 3) := by decide +kernel
theorem dX7_listAt_14 : decode cX7_listAt 14 = .ok (.ldc 85, 2) := by decide +kernel
theorem dX7_listAt_16 : decode cX7_listAt 16 = .ok (.ireturn, 1) := by decide +kernel
theorem dX7_listAt_17 : decode cX7_listAt 17 = .ok (.ldc 176, 2) := by decide +kernel
theorem dX7_listAt_19 : decode cX7_listAt 19 = .ok (.istore_n 3, 1) := by decide +kernel
theorem dX7_listAt_20 : decode cX7_listAt 20 = .ok (.iconst 0, 1) := by decide +kernel
theorem dX7_listAt_21 : decode cX7_listAt 21 = .ok (.istore 4, 2) := by decide +kernel
theorem dX7_listAt_23 : decode cX7_listAt 23 = .ok (.iconst 0, 1) := by decide +kernel
theorem dX7_listAt_24 : decode cX7_listAt 24 = .ok (.istore 5, 2) := by decide +kernel
theorem dX7_listAt_26 : decode cX7_listAt 26 = .ok (.iload 5, 2) := by decide +kernel
theorem dX7_listAt_28 : decode cX7_listAt 28 = .ok (.bipush 100, 2) := by decide +kernel
theorem dX7_listAt_30 : decode cX7_listAt 30 = .ok (.if_icmp .ge 52, 3) := by decide +kernel
theorem dX7_listAt_33 : decode cX7_listAt 33 = .ok (.aload_n 0, 1) := by decide +kernel
theorem dX7_listAt_34 : decode cX7_listAt 34 = .ok (.iload_n 1, 1) := by decide +kernel
theorem dX7_listAt_35 : decode cX7_listAt 35 = .ok (.iload 5, 2) := by decide +kernel
theorem dX7_listAt_37 : decode cX7_listAt 37 = .ok (.invokevirtual 218, 3) := by decide +kernel
theorem dX7_listAt_40 : decode cX7_listAt 40 = .ok (.ifCond .eq 14, 3) := by decide +kernel
theorem dX7_listAt_43 : decode cX7_listAt 43 = .ok (.iload 4, 2) := by decide +kernel
theorem dX7_listAt_45 : decode cX7_listAt 45 = .ok (.iload_n 2, 1) := by decide +kernel
theorem dX7_listAt_46 : decode cX7_listAt 46 = .ok (.if_icmp .ne 8, 3) := by decide +kernel
theorem dX7_listAt_49 : decode cX7_listAt 49 = .ok (.iload 5, 2) := by decide +kernel
theorem dX7_listAt_51 : decode cX7_listAt 51 = .ok (.goto 4, 3) := by decide +kernel
theorem dX7_listAt_54 : decode cX7_listAt 54 = .ok (.iload_n 3, 1) := by decide +kernel
theorem dX7_listAt_55 : decode cX7_listAt 55 = .ok (.istore_n 3, 1) := by decide +kernel
theorem dX7_listAt_56 : decode cX7_listAt 56 = .ok (.iload 4, 2) := by decide +kernel
theorem dX7_listAt_58 : decode cX7_listAt 58 = .ok (.aload_n 0, 1) := by decide +kernel
theorem dX7_listAt_59 : decode cX7_listAt 59 = .ok (.iload_n 1, 1) := by decide +kernel
theorem dX7_listAt_60 : decode cX7_listAt 60 = .ok (.iload 5, 2) := by decide +kernel
theorem dX7_listAt_62 : decode cX7_listAt 62 = .ok (.invokevirtual 218, 3) := by decide +kernel
theorem dX7_listAt_65 : decode cX7_listAt 65 = .ok (.ifCond .eq 7, 3) := by decide +kernel
theorem dX7_listAt_68 : decode cX7_listAt 68 = .ok (.iconst 1, 1) := by decide +kernel
theorem dX7_listAt_69 : decode cX7_listAt 69 = .ok (.goto 4, 3) := by decide +kernel
theorem dX7_listAt_72 : decode cX7_listAt 72 = .ok (.iconst 0, 1) := by decide +kernel
theorem dX7_listAt_73 : decode cX7_listAt 73 = .ok (.iadd, 1) := by decide +kernel
theorem dX7_listAt_74 : decode cX7_listAt 74 = .ok (.istore 4, 2) := by decide +kernel
theorem dX7_listAt_76 : decode cX7_listAt 76 = .ok (.iinc 5 1, 3) := by decide +kernel
theorem dX7_listAt_79 : decode cX7_listAt 79 = .ok (.goto (-53), 3) := by decide +kernel
theorem dX7_listAt_82 : decode cX7_listAt 82 = .ok (.iload_n 3, 1) := by decide +kernel
theorem dX7_listAt_83 : decode cX7_listAt 83 = .ok (.ireturn, 1) := by decide +kernel
theorem dX7_numbers_0 : decode cX7_numbers 0 = .ok (.aload_n 0, 1) := by decide +kernel
theorem dX7_numbers_1 : decode cX7_numbers 1 = .ok (.iload_n 1, 1) := by decide +kernel
theorem dX7_numbers_2 : decode cX7_numbers 2 = .ok (.invokevirtual 86, 3) := by decide +kernel
theorem dX7_numbers_5 : decode cX7_numbers 5 = .ok (.istore_n 3, 1) := by decide +kernel
theorem dX7_numbers_6 : decode cX7_numbers 6 = .ok (.iload_n 3, 1) := by decide +kernel
theorem dX7_numbers_7 : decode cX7_numbers 7 = .ok (.ifCond .lt 10, 3) := by decide +kernel
theorem dX7_numbers_10 : decode cX7_numbers 10 = .ok (.iload_n 2, 1) := by decide +kernel
theorem dX7_numbers_11 : decode cX7_numbers 11 = .ok (.invokestatic 215, 3) := by decide +kernel
theorem dX7_numbers_14 : decode cX7_numbers 14 = .ok (.ifCond .ne 8, 3) := by decide +kernel
theorem dX7_numbers_17 : decode cX7_numbers 17 = .ok (.ldc 41, 2) := by decide +kernel
theorem dX7_numbers_19 : decode cX7_numbers 19 = .ok (.goto 9, 3) := by decide +kernel
theorem dX7_numbers_22 : decode cX7_numbers 22 = .ok (.aload_n 0, 1) := by decide +kernel
theorem dX7_numbers_23 : decode cX7_numbers 23 = .ok (.iload_n 3, 1) := by decide +kernel
theorem dX7_numbers_24 : decode cX7_numbers 24 = .ok (.iload_n 2, 1) := by decide +kernel
theorem dX7_numbers_25 : decode cX7_numbers 25 = .ok (.invokevirtual 221, 3) := by decide +kernel
theorem dX7_numbers_28 : decode cX7_numbers 28 = .ok (.ireturn, 1) := by decide +kernel
theorem dX7_numberAt_0 : decode cX7_numberAt 0 = .ok (.aload_n 0, 1) := by decide +kernel
theorem dX7_numberAt_1 : decode cX7_numberAt 1 = .ok (.iload_n 1, 1) := by decide +kernel
theorem dX7_numberAt_2 : decode cX7_numberAt 2 = .ok (.invokevirtual 86, 3) := by decide +kernel
theorem dX7_numberAt_5 : decode cX7_numberAt 5 = .ok (.istore 4, 2) := by decide +kernel
theorem dX7_numberAt_7 : decode cX7_numberAt 7 = .ok (.iload 4, 2) := by decide +kernel
theorem dX7_numberAt_9 : decode cX7_numberAt 9 = .ok (.ifCond .lt 10, 3) := by decide +kernel
theorem dX7_numberAt_12 : decode cX7_numberAt 12 = .ok (.iload_n 2, 1) := by decide +kernel
theorem dX7_numberAt_13 : decode cX7_numberAt 13 = .ok (.invokestatic 215, 3) := by decide +kernel
theorem dX7_numberAt_16 : decode cX7_numberAt 16 = .ok (.ifCond .ne 6, 3) := by decide +kernel
theorem dX7_numberAt_19 : decode cX7_numberAt 19 = .ok (.ldc 41, 2) := by decide +kernel
theorem dX7_numberAt_21 : decode cX7_numberAt 21 = .ok (.ireturn, 1) := by decide +kernel
theorem dX7_numberAt_22 : decode cX7_numberAt 22 = .ok (.iload_n 3, 1) := by decide +kernel
theorem dX7_numberAt_23 : decode cX7_numberAt 23 = .ok (.ifCond .ge 6, 3) := by decide +kernel
theorem dX7_numberAt_26 : decode cX7_numberAt 26 = .ok (.ldc 85, 2) := by decide +kernel
theorem dX7_numberAt_28 : decode cX7_numberAt 28 = .ok (.ireturn, 1) := by decide +kernel
theorem dX7_numberAt_29 : decode cX7_numberAt 29 = .ok (.iload_n 3, 1) := by decide +kernel
theorem dX7_numberAt_30 : decode cX7_numberAt 30 = .ok (.aload_n 0, 1) := by decide +kernel
theorem dX7_numberAt_31 : decode cX7_numberAt 31 = .ok (.iload 4, 2) := by decide +kernel
theorem dX7_numberAt_33 : decode cX7_numberAt 33 = .ok (.iload_n 2, 1) := by decide +kernel
theorem dX7_numberAt_34 : decode cX7_numberAt 34 = .ok (.invokevirtual 221, 3) := by decide +kernel
theorem dX7_numberAt_37 : decode cX7_numberAt 37 = .ok (.if_icmp .ge 12, 3) := by decide +kernel
theorem dX7_numberAt_40 : decode cX7_numberAt 40 = .ok (.aload_n 0, 1) := by decide +kernel
theorem dX7_numberAt_41 : decode cX7_numberAt 41 = .ok (.getfield 25, 3) := by decide +kernel
theorem dX7_numberAt_44 : decode cX7_numberAt 44 = .ok (.iload_n 3, 1) := by decide +kernel
theorem dX7_numberAt_45 : decode cX7_numberAt 45 = .ok (.iaload, 1) := by decide +kernel
theorem dX7_numberAt_46 : decode cX7_numberAt 46 = .ok (.goto 5, 3) := by decide +kernel
theorem dX7_numberAt_49 : decode cX7_numberAt 49 = .ok (.ldc 176, 2) := by decide +kernel
theorem dX7_numberAt_51 : decode cX7_numberAt 51 = .ok (.ireturn, 1) := by decide +kernel
theorem dX7_laysEntries_0 : decode cX7_laysEntries 0 = .ok (.iconst 0, 1) := by decide +kernel
theorem dX7_laysEntries_1 : decode cX7_laysEntries 1 = .ok (.istore_n 2, 1) := by decide +kernel
theorem dX7_laysEntries_2 : decode cX7_laysEntries 2 = .ok (.iconst 0, 1) := by decide +kernel
theorem dX7_laysEntries_3 : decode cX7_laysEntries 3 = .ok (.istore_n 3, 1) := by decide +kernel
theorem dX7_laysEntries_4 : decode cX7_laysEntries 4 = .ok (.iload_n 3, 1) := by decide +kernel
theorem dX7_laysEntries_5 : decode cX7_laysEntries 5 = .ok (.aload_n 0, 1) := by decide +kernel
theorem dX7_laysEntries_6 : decode cX7_laysEntries 6 = .ok (.getfield 7, 3) := by decide +kernel
theorem dX7_laysEntries_9 : decode cX7_laysEntries 9 = .ok (.iconst 0, 1) := by decide +kernel
theorem dX7_laysEntries_10 : decode cX7_laysEntries 10 = .ok (.iaload, 1) := by decide +kernel
theorem dX7_laysEntries_11 : decode cX7_laysEntries 11 = .ok (.if_icmp .ge 69, 3) := by decide +kernel
theorem dX7_laysEntries_14 : decode cX7_laysEntries 14 = .ok (.aload_n 0, 1) := by decide +kernel
theorem dX7_laysEntries_15 : decode cX7_laysEntries 15 = .ok (.iload_n 3, 1) := by decide +kernel
theorem dX7_laysEntries_16 : decode cX7_laysEntries 16 = .ok (.iload_n 1, 1) := by decide +kernel
theorem dX7_laysEntries_17 : decode cX7_laysEntries 17 = .ok (.invokevirtual 221, 3) := by decide +kernel
theorem dX7_laysEntries_20 : decode cX7_laysEntries 20 = .ok (.istore 4, 2) := by decide +kernel
theorem dX7_laysEntries_22 : decode cX7_laysEntries 22 = .ok (.iconst 0, 1) := by decide +kernel
theorem dX7_laysEntries_23 : decode cX7_laysEntries 23 = .ok (.istore 5, 2) := by decide +kernel
theorem dX7_laysEntries_25 : decode cX7_laysEntries 25 = .ok (.iload 5, 2) := by decide +kernel
theorem dX7_laysEntries_27 : decode cX7_laysEntries 27 = .ok (.iload 4, 2) := by decide +kernel
theorem dX7_laysEntries_29 : decode cX7_laysEntries 29 = .ok (.if_icmp .ge 45, 3) := by decide +kernel
theorem dX7_laysEntries_32 : decode cX7_laysEntries 32 = .ok (.aload_n 0, 1) := by decide +kernel
theorem dX7_laysEntries_33 : decode cX7_laysEntries 33 = .ok (.getfield 28, 3) := by decide +kernel
theorem dX7_laysEntries_36 : decode cX7_laysEntries 36 = .ok (.iload_n 2, 1) := by decide +kernel
theorem dX7_laysEntries_37 : decode cX7_laysEntries 37 = .ok (.aload_n 0, 1) := by decide +kernel
theorem dX7_laysEntries_38 : decode cX7_laysEntries 38 = .ok (.getfield 25, 3) := by decide +kernel
theorem dX7_laysEntries_41 : decode cX7_laysEntries 41 = .ok (.iload 5, 2) := by decide +kernel
theorem dX7_laysEntries_43 : decode cX7_laysEntries 43 = .ok (.iaload, 1) := by decide +kernel
theorem dX7_laysEntries_44 : decode cX7_laysEntries 44 = .ok (.iastore, 1) := by decide +kernel
theorem dX7_laysEntries_45 : decode cX7_laysEntries 45 = .ok (.aload_n 0, 1) := by decide +kernel
theorem dX7_laysEntries_46 : decode cX7_laysEntries 46 = .ok (.getfield 31, 3) := by decide +kernel
theorem dX7_laysEntries_49 : decode cX7_laysEntries 49 = .ok (.iload_n 2, 1) := by decide +kernel
theorem dX7_laysEntries_50 : decode cX7_laysEntries 50 = .ok (.aload_n 0, 1) := by decide +kernel
theorem dX7_laysEntries_51 : decode cX7_laysEntries 51 = .ok (.iload_n 3, 1) := by decide +kernel
theorem dX7_laysEntries_52 : decode cX7_laysEntries 52 = .ok (.iconst 0, 1) := by decide +kernel
theorem dX7_laysEntries_53 : decode cX7_laysEntries 53 = .ok (.invokevirtual 46, 3) := by decide +kernel
theorem dX7_laysEntries_56 : decode cX7_laysEntries 56 = .ok (.iastore, 1) := by decide +kernel
theorem dX7_laysEntries_57 : decode cX7_laysEntries 57 = .ok (.aload_n 0, 1) := by decide +kernel
theorem dX7_laysEntries_58 : decode cX7_laysEntries 58 = .ok (.getfield 34, 3) := by decide +kernel
theorem dX7_laysEntries_61 : decode cX7_laysEntries 61 = .ok (.iload_n 2, 1) := by decide +kernel
theorem dX7_laysEntries_62 : decode cX7_laysEntries 62 = .ok (.iload 5, 2) := by decide +kernel
theorem dX7_laysEntries_64 : decode cX7_laysEntries 64 = .ok (.iastore, 1) := by decide +kernel
theorem dX7_laysEntries_65 : decode cX7_laysEntries 65 = .ok (.iinc 2 1, 3) := by decide +kernel
theorem dX7_laysEntries_68 : decode cX7_laysEntries 68 = .ok (.iinc 5 1, 3) := by decide +kernel
theorem dX7_laysEntries_71 : decode cX7_laysEntries 71 = .ok (.goto (-46), 3) := by decide +kernel
theorem dX7_laysEntries_74 : decode cX7_laysEntries 74 = .ok (.iinc 3 1, 3) := by decide +kernel
theorem dX7_laysEntries_77 : decode cX7_laysEntries 77 = .ok (.goto (-73), 3) := by decide +kernel
theorem dX7_laysEntries_80 : decode cX7_laysEntries 80 = .ok (.iload_n 2, 1) := by decide +kernel
theorem dX7_laysEntries_81 : decode cX7_laysEntries 81 = .ok (.ireturn, 1) := by decide +kernel
theorem dX7_exploded_0 : decode cX7_exploded 0 = .ok (.iload_n 1, 1) := by decide +kernel
theorem dX7_exploded_1 : decode cX7_exploded 1 = .ok (.invokestatic 215, 3) := by decide +kernel
theorem dX7_exploded_4 : decode cX7_exploded 4 = .ok (.ifCond .eq 11, 3) := by decide +kernel
theorem dX7_exploded_7 : decode cX7_exploded 7 = .ok (.aload_n 0, 1) := by decide +kernel
theorem dX7_exploded_8 : decode cX7_exploded 8 = .ok (.iload_n 1, 1) := by decide +kernel
theorem dX7_exploded_9 : decode cX7_exploded 9 = .ok (.invokevirtual 260, 3) := by decide +kernel
theorem dX7_exploded_12 : decode cX7_exploded 12 = .ok (.goto 5, 3) := by decide +kernel
theorem dX7_exploded_15 : decode cX7_exploded 15 = .ok (.ldc 41, 2) := by decide +kernel
theorem dX7_exploded_17 : decode cX7_exploded 17 = .ok (.ireturn, 1) := by decide +kernel
theorem dX7_isAhead_0 : decode cX7_isAhead 0 = .ok (.iload_n 3, 1) := by decide +kernel
theorem dX7_isAhead_1 : decode cX7_isAhead 1 = .ok (.ifCond .eq 26, 3) := by decide +kernel
theorem dX7_isAhead_4 : decode cX7_isAhead 4 = .ok (.aload_n 0, 1) := by decide +kernel
theorem dX7_isAhead_5 : decode cX7_isAhead 5 = .ok (.getfield 28, 3) := by decide +kernel
theorem dX7_isAhead_8 : decode cX7_isAhead 8 = .ok (.iload_n 1, 1) := by decide +kernel
theorem dX7_isAhead_9 : decode cX7_isAhead 9 = .ok (.iaload, 1) := by decide +kernel
theorem dX7_isAhead_10 : decode cX7_isAhead 10 = .ok (.aload_n 0, 1) := by decide +kernel
theorem dX7_isAhead_11 : decode cX7_isAhead 11 = .ok (.getfield 28, 3) := by decide +kernel
theorem dX7_isAhead_14 : decode cX7_isAhead 14 = .ok (.iload_n 2, 1) := by decide +kernel
theorem dX7_isAhead_15 : decode cX7_isAhead 15 = .ok (.iaload, 1) := by decide +kernel
theorem dX7_isAhead_16 : decode cX7_isAhead 16 = .ok (.if_icmp .le 7, 3) := by decide +kernel
theorem dX7_isAhead_19 : decode cX7_isAhead 19 = .ok (.iconst 1, 1) := by decide +kernel
theorem dX7_isAhead_20 : decode cX7_isAhead 20 = .ok (.goto 27, 3) := by decide +kernel
theorem dX7_isAhead_23 : decode cX7_isAhead 23 = .ok (.iconst 0, 1) := by decide +kernel
theorem dX7_isAhead_24 : decode cX7_isAhead 24 = .ok (.goto 23, 3) := by decide +kernel
theorem dX7_isAhead_27 : decode cX7_isAhead 27 = .ok (.aload_n 0, 1) := by decide +kernel
theorem dX7_isAhead_28 : decode cX7_isAhead 28 = .ok (.getfield 28, 3) := by decide +kernel
theorem dX7_isAhead_31 : decode cX7_isAhead 31 = .ok (.iload_n 1, 1) := by decide +kernel
theorem dX7_isAhead_32 : decode cX7_isAhead 32 = .ok (.iaload, 1) := by decide +kernel
theorem dX7_isAhead_33 : decode cX7_isAhead 33 = .ok (.aload_n 0, 1) := by decide +kernel
theorem dX7_isAhead_34 : decode cX7_isAhead 34 = .ok (.getfield 28, 3) := by decide +kernel
theorem dX7_isAhead_37 : decode cX7_isAhead 37 = .ok (.iload_n 2, 1) := by decide +kernel
theorem dX7_isAhead_38 : decode cX7_isAhead 38 = .ok (.iaload, 1) := by decide +kernel
theorem dX7_isAhead_39 : decode cX7_isAhead 39 = .ok (.if_icmp .ge 7, 3) := by decide +kernel
theorem dX7_isAhead_42 : decode cX7_isAhead 42 = .ok (.iconst 1, 1) := by decide +kernel
