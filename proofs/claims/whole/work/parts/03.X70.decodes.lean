theorem dX7_init_0 : decode cX7_init 0 = .ok (.aload_n 0, 1) := by decide +kernel
theorem dX7_init_1 : decode cX7_init 1 = .ok (.invokespecial 1, 3) := by decide +kernel
theorem dX7_init_4 : decode cX7_init 4 = .ok (.aload_n 0, 1) := by decide +kernel
theorem dX7_init_5 : decode cX7_init 5 = .ok (.sipush 1115, 3) := by decide +kernel
theorem dX7_init_8 : decode cX7_init 8 = .ok (.newarray .int, 2) := by decide +kernel
theorem dX7_init_10 : decode cX7_init 10 = .ok (.putfield 7, 3) := by decide +kernel
theorem dX7_init_13 : decode cX7_init 13 = .ok (.aload_n 0, 1) := by decide +kernel
theorem dX7_init_14 : decode cX7_init 14 = .ok (.sipush 1115, 3) := by decide +kernel
theorem dX7_init_17 : decode cX7_init 17 = .ok (.newarray .int, 2) := by decide +kernel
theorem dX7_init_19 : decode cX7_init 19 = .ok (.putfield 13, 3) := by decide +kernel
theorem dX7_init_22 : decode cX7_init 22 = .ok (.aload_n 0, 1) := by decide +kernel
theorem dX7_init_23 : decode cX7_init 23 = .ok (.sipush 4460, 3) := by decide +kernel
theorem dX7_init_26 : decode cX7_init 26 = .ok (.newarray .int, 2) := by decide +kernel
theorem dX7_init_28 : decode cX7_init 28 = .ok (.putfield 16, 3) := by decide +kernel
theorem dX7_init_31 : decode cX7_init 31 = .ok (.aload_n 0, 1) := by decide +kernel
theorem dX7_init_32 : decode cX7_init 32 = .ok (.bipush 90, 2) := by decide +kernel
theorem dX7_init_34 : decode cX7_init 34 = .ok (.newarray .int, 2) := by decide +kernel
theorem dX7_init_36 : decode cX7_init 36 = .ok (.putfield 19, 3) := by decide +kernel
theorem dX7_init_39 : decode cX7_init 39 = .ok (.aload_n 0, 1) := by decide +kernel
theorem dX7_init_40 : decode cX7_init 40 = .ok (.sipush 500, 3) := by decide +kernel
theorem dX7_init_43 : decode cX7_init 43 = .ok (.newarray .int, 2) := by decide +kernel
theorem dX7_init_45 : decode cX7_init 45 = .ok (.putfield 22, 3) := by decide +kernel
theorem dX7_init_48 : decode cX7_init 48 = .ok (.aload_n 0, 1) := by decide +kernel
theorem dX7_init_49 : decode cX7_init 49 = .ok (.bipush 20, 2) := by decide +kernel
theorem dX7_init_51 : decode cX7_init 51 = .ok (.newarray .int, 2) := by decide +kernel
theorem dX7_init_53 : decode cX7_init 53 = .ok (.putfield 25, 3) := by decide +kernel
theorem dX7_init_56 : decode cX7_init 56 = .ok (.aload_n 0, 1) := by decide +kernel
theorem dX7_init_57 : decode cX7_init 57 = .ok (.sipush 200, 3) := by decide +kernel
theorem dX7_init_60 : decode cX7_init 60 = .ok (.newarray .int, 2) := by decide +kernel
theorem dX7_init_62 : decode cX7_init 62 = .ok (.putfield 28, 3) := by decide +kernel
theorem dX7_init_65 : decode cX7_init 65 = .ok (.aload_n 0, 1) := by decide +kernel
theorem dX7_init_66 : decode cX7_init 66 = .ok (.sipush 200, 3) := by decide +kernel
theorem dX7_init_69 : decode cX7_init 69 = .ok (.newarray .int, 2) := by decide +kernel
theorem dX7_init_71 : decode cX7_init 71 = .ok (.putfield 31, 3) := by decide +kernel
theorem dX7_init_74 : decode cX7_init 74 = .ok (.aload_n 0, 1) := by decide +kernel
theorem dX7_init_75 : decode cX7_init 75 = .ok (.sipush 200, 3) := by decide +kernel
theorem dX7_init_78 : decode cX7_init 78 = .ok (.newarray .int, 2) := by decide +kernel
theorem dX7_init_80 : decode cX7_init 80 = .ok (.putfield 34, 3) := by decide +kernel
theorem dX7_init_83 : decode cX7_init 83 = .ok (.aload_n 0, 1) := by decide +kernel
theorem dX7_init_84 : decode cX7_init 84 = .ok (.getfield 7, 3) := by decide +kernel
theorem dX7_init_87 : decode cX7_init 87 = .ok (.iconst 2, 1) := by decide +kernel
theorem dX7_init_88 : decode cX7_init 88 = .ok (.iconst 1, 1) := by decide +kernel
theorem dX7_init_89 : decode cX7_init 89 = .ok (.iastore, 1) := by decide +kernel
theorem dX7_init_90 : decode cX7_init 90 = .ok (.aload_n 0, 1) := by decide +kernel
theorem dX7_init_91 : decode cX7_init 91 = .ok (.getfield 7, 3) := by decide +kernel
theorem dX7_init_94 : decode cX7_init 94 = .ok (.iconst 3, 1) := by decide +kernel
theorem dX7_init_95 : decode cX7_init 95 = .ok (.iconst 1, 1) := by decide +kernel
theorem dX7_init_96 : decode cX7_init 96 = .ok (.iastore, 1) := by decide +kernel
theorem dX7_init_97 : decode cX7_init 97 = .ok (.iconst 0, 1) := by decide +kernel
theorem dX7_init_98 : decode cX7_init 98 = .ok (.istore_n 1, 1) := by decide +kernel
theorem dX7_init_99 : decode cX7_init 99 = .ok (.iload_n 1, 1) := by decide +kernel
theorem dX7_init_100 : decode cX7_init 100 = .ok (.iconst 4, 1) := by decide +kernel
theorem dX7_init_101 : decode cX7_init 101 = .ok (.if_icmp .ge 22, 3) := by decide +kernel
theorem dX7_init_104 : decode cX7_init 104 = .ok (.aload_n 0, 1) := by decide +kernel
theorem dX7_init_105 : decode cX7_init 105 = .ok (.getfield 7, 3) := by decide +kernel
theorem dX7_init_108 : decode cX7_init 108 = .ok (.iconst 5, 1) := by decide +kernel
theorem dX7_init_109 : decode cX7_init 109 = .ok (.iconst 3, 1) := by decide +kernel
theorem dX7_init_110 : decode cX7_init 110 = .ok (.iload_n 1, 1) := by decide +kernel
theorem dX7_init_111 : decode cX7_init 111 = .ok (.imul, 1) := by decide +kernel
theorem dX7_init_112 : decode cX7_init 112 = .ok (.iadd, 1) := by decide +kernel
theorem dX7_init_113 : decode cX7_init 113 = .ok (.iconst 1, 1) := by decide +kernel
theorem dX7_init_114 : decode cX7_init 114 = .ok (.iadd, 1) := by decide +kernel
theorem dX7_init_115 : decode cX7_init 115 = .ok (.iload_n 1, 1) := by decide +kernel
theorem dX7_init_116 : decode cX7_init 116 = .ok (.iastore, 1) := by decide +kernel
theorem dX7_init_117 : decode cX7_init 117 = .ok (.iinc 1 1, 3) := by decide +kernel
theorem dX7_init_120 : decode cX7_init 120 = .ok (.goto (-21), 3) := by decide +kernel
theorem dX7_init_123 : decode cX7_init 123 = .ok (.aload_n 0, 1) := by decide +kernel
theorem dX7_init_124 : decode cX7_init 124 = .ok (.getfield 7, 3) := by decide +kernel
theorem dX7_init_127 : decode cX7_init 127 = .ok (.bipush 17, 2) := by decide +kernel
theorem dX7_init_129 : decode cX7_init 129 = .ok (.iconst 1, 1) := by decide +kernel
theorem dX7_init_130 : decode cX7_init 130 = .ok (.iastore, 1) := by decide +kernel
theorem dX7_init_131 : decode cX7_init 131 = .ok (.aload_n 0, 1) := by decide +kernel
theorem dX7_init_132 : decode cX7_init 132 = .ok (.getfield 7, 3) := by decide +kernel
theorem dX7_init_135 : decode cX7_init 135 = .ok (.bipush 20, 2) := by decide +kernel
theorem dX7_init_137 : decode cX7_init 137 = .ok (.iconst 4, 1) := by decide +kernel
theorem dX7_init_138 : decode cX7_init 138 = .ok (.iastore, 1) := by decide +kernel
theorem dX7_init_139 : decode cX7_init 139 = .ok (.aload_n 0, 1) := by decide +kernel
theorem dX7_init_140 : decode cX7_init 140 = .ok (.getfield 7, 3) := by decide +kernel
theorem dX7_init_143 : decode cX7_init 143 = .ok (.bipush 21, 2) := by decide +kernel
theorem dX7_init_145 : decode cX7_init 145 = .ok (.iconst 1, 1) := by decide +kernel
theorem dX7_init_146 : decode cX7_init 146 = .ok (.iastore, 1) := by decide +kernel
theorem dX7_init_147 : decode cX7_init 147 = .ok (.aload_n 0, 1) := by decide +kernel
theorem dX7_init_148 : decode cX7_init 148 = .ok (.getfield 7, 3) := by decide +kernel
theorem dX7_init_151 : decode cX7_init 151 = .ok (.bipush 22, 2) := by decide +kernel
theorem dX7_init_153 : decode cX7_init 153 = .ok (.iconst 2, 1) := by decide +kernel
theorem dX7_init_154 : decode cX7_init 154 = .ok (.iastore, 1) := by decide +kernel
theorem dX7_init_155 : decode cX7_init 155 = .ok (.return_, 1) := by decide +kernel
theorem dX7_in_0 : decode cX7_in 0 = .ok (.iload_n 0, 1) := by decide +kernel
theorem dX7_in_1 : decode cX7_in 1 = .ok (.iload_n 1, 1) := by decide +kernel
theorem dX7_in_2 : decode cX7_in 2 = .ok (.if_icmp .lt 12, 3) := by decide +kernel
theorem dX7_in_5 : decode cX7_in 5 = .ok (.iload_n 0, 1) := by decide +kernel
theorem dX7_in_6 : decode cX7_in 6 = .ok (.iload_n 2, 1) := by decide +kernel
theorem dX7_in_7 : decode cX7_in 7 = .ok (.if_icmp .gt 7, 3) := by decide +kernel
theorem dX7_in_10 : decode cX7_in 10 = .ok (.iconst 1, 1) := by decide +kernel
theorem dX7_in_11 : decode cX7_in 11 = .ok (.goto 4, 3) := by decide +kernel
theorem dX7_in_14 : decode cX7_in 14 = .ok (.iconst 0, 1) := by decide +kernel
theorem dX7_in_15 : decode cX7_in 15 = .ok (.ireturn, 1) := by decide +kernel
theorem dX7_copies_0 : decode cX7_copies 0 = .ok (.iconst 0, 1) := by decide +kernel
theorem dX7_copies_1 : decode cX7_copies 1 = .ok (.istore 4, 2) := by decide +kernel
theorem dX7_copies_3 : decode cX7_copies 3 = .ok (.iload 4, 2) := by decide +kernel
theorem dX7_copies_5 : decode cX7_copies 5 = .ok (.sipush 1115, 3) := by decide +kernel
theorem dX7_copies_8 : decode cX7_copies 8 = .ok (.if_icmp .ge 21, 3) := by decide +kernel
theorem dX7_copies_11 : decode cX7_copies 11 = .ok (.aload_n 2, 1) := by decide +kernel
theorem dX7_copies_12 : decode cX7_copies 12 = .ok (.iload_n 3, 1) := by decide +kernel
theorem dX7_copies_13 : decode cX7_copies 13 = .ok (.iload 4, 2) := by decide +kernel
theorem dX7_copies_15 : decode cX7_copies 15 = .ok (.iadd, 1) := by decide +kernel
theorem dX7_copies_16 : decode cX7_copies 16 = .ok (.aload_n 0, 1) := by decide +kernel
theorem dX7_copies_17 : decode cX7_copies 17 = .ok (.iload_n 1, 1) := by decide +kernel
theorem dX7_copies_18 : decode cX7_copies 18 = .ok (.iload 4, 2) := by decide +kernel
theorem dX7_copies_20 : decode cX7_copies 20 = .ok (.iadd, 1) := by decide +kernel
theorem dX7_copies_21 : decode cX7_copies 21 = .ok (.iaload, 1) := by decide +kernel
theorem dX7_copies_22 : decode cX7_copies 22 = .ok (.iastore, 1) := by decide +kernel
theorem dX7_copies_23 : decode cX7_copies 23 = .ok (.iinc 4 1, 3) := by decide +kernel
theorem dX7_copies_26 : decode cX7_copies 26 = .ok (.goto (-23), 3) := by decide +kernel
theorem dX7_copies_29 : decode cX7_copies 29 = .ok (.return_, 1) := by decide +kernel
theorem dX7_begins_0 : decode cX7_begins 0 = .ok (.aload_n 0, 1) := by decide +kernel
theorem dX7_begins_1 : decode cX7_begins 1 = .ok (.getfield 7, 3) := by decide +kernel
theorem dX7_begins_4 : decode cX7_begins 4 = .ok (.iconst 0, 1) := by decide +kernel
theorem dX7_begins_5 : decode cX7_begins 5 = .ok (.aload_n 0, 1) := by decide +kernel
theorem dX7_begins_6 : decode cX7_begins 6 = .ok (.getfield 13, 3) := by decide +kernel
theorem dX7_begins_9 : decode cX7_begins 9 = .ok (.iconst 0, 1) := by decide +kernel
theorem dX7_begins_10 : decode cX7_begins 10 = .ok (.invokestatic 37, 3) := by decide +kernel
theorem dX7_begins_13 : decode cX7_begins 13 = .ok (.return_, 1) := by decide +kernel
theorem dX7_keeps_0 : decode cX7_keeps 0 = .ok (.iload_n 1, 1) := by decide +kernel
theorem dX7_keeps_1 : decode cX7_keeps 1 = .ok (.ldc 41, 2) := by decide +kernel
theorem dX7_keeps_3 : decode cX7_keeps 3 = .ok (.if_icmp .gt 5, 3) := by decide +kernel
theorem dX7_keeps_6 : decode cX7_keeps 6 = .ok (.iload_n 1, 1) := by decide +kernel
theorem dX7_keeps_7 : decode cX7_keeps 7 = .ok (.ireturn, 1) := by decide +kernel
theorem dX7_keeps_8 : decode cX7_keeps 8 = .ok (.aload_n 0, 1) := by decide +kernel
theorem dX7_keeps_9 : decode cX7_keeps 9 = .ok (.getfield 42, 3) := by decide +kernel
theorem dX7_keeps_12 : decode cX7_keeps 12 = .ok (.iconst 4, 1) := by decide +kernel
theorem dX7_keeps_13 : decode cX7_keeps 13 = .ok (.if_icmp .ne 44, 3) := by decide +kernel
theorem dX7_keeps_16 : decode cX7_keeps 16 = .ok (.iconst 0, 1) := by decide +kernel
theorem dX7_keeps_17 : decode cX7_keeps 17 = .ok (.istore_n 2, 1) := by decide +kernel
theorem dX7_keeps_18 : decode cX7_keeps 18 = .ok (.iload_n 2, 1) := by decide +kernel
theorem dX7_keeps_19 : decode cX7_keeps 19 = .ok (.sipush 3345, 3) := by decide +kernel
theorem dX7_keeps_22 : decode cX7_keeps 22 = .ok (.if_icmp .ge 25, 3) := by decide +kernel
theorem dX7_keeps_25 : decode cX7_keeps 25 = .ok (.aload_n 0, 1) := by decide +kernel
theorem dX7_keeps_26 : decode cX7_keeps 26 = .ok (.getfield 16, 3) := by decide +kernel
theorem dX7_keeps_29 : decode cX7_keeps 29 = .ok (.iload_n 2, 1) := by decide +kernel
theorem dX7_keeps_30 : decode cX7_keeps 30 = .ok (.aload_n 0, 1) := by decide +kernel
theorem dX7_keeps_31 : decode cX7_keeps 31 = .ok (.getfield 16, 3) := by decide +kernel
theorem dX7_keeps_34 : decode cX7_keeps 34 = .ok (.iload_n 2, 1) := by decide +kernel
theorem dX7_keeps_35 : decode cX7_keeps 35 = .ok (.sipush 1115, 3) := by decide +kernel
theorem dX7_keeps_38 : decode cX7_keeps 38 = .ok (.iadd, 1) := by decide +kernel
theorem dX7_keeps_39 : decode cX7_keeps 39 = .ok (.iaload, 1) := by decide +kernel
theorem dX7_keeps_40 : decode cX7_keeps 40 = .ok (.iastore, 1) := by decide +kernel
theorem dX7_keeps_41 : decode cX7_keeps 41 = .ok (.iinc 2 1, 3) := by decide +kernel
theorem dX7_keeps_44 : decode cX7_keeps 44 = .ok (.goto (-26), 3) := by decide +kernel
theorem dX7_keeps_47 : decode cX7_keeps 47 = .ok (.aload_n 0, 1) := by decide +kernel
theorem dX7_keeps_48 : decode cX7_keeps 48 = .ok (.dup, 1) := by decide +kernel
theorem dX7_keeps_49 : decode cX7_keeps 49 = .ok (.getfield 42, 3) := by decide +kernel
theorem dX7_keeps_52 : decode cX7_keeps 52 = .ok (.iconst 1, 1) := by decide +kernel
theorem dX7_keeps_53 : decode cX7_keeps 53 = .ok (.isub, 1) := by decide +kernel
theorem dX7_keeps_54 : decode cX7_keeps 54 = .ok (.putfield 42, 3) := by decide +kernel
theorem dX7_keeps_57 : decode cX7_keeps 57 = .ok (.aload_n 0, 1) := by decide +kernel
theorem dX7_keeps_58 : decode cX7_keeps 58 = .ok (.getfield 13, 3) := by decide +kernel
theorem dX7_keeps_61 : decode cX7_keeps 61 = .ok (.iconst 0, 1) := by decide +kernel
theorem dX7_keeps_62 : decode cX7_keeps 62 = .ok (.aload_n 0, 1) := by decide +kernel
theorem dX7_keeps_63 : decode cX7_keeps 63 = .ok (.getfield 16, 3) := by decide +kernel
theorem dX7_keeps_66 : decode cX7_keeps 66 = .ok (.sipush 1115, 3) := by decide +kernel
theorem dX7_keeps_69 : decode cX7_keeps 69 = .ok (.aload_n 0, 1) := by decide +kernel
theorem dX7_keeps_70 : decode cX7_keeps 70 = .ok (.getfield 42, 3) := by decide +kernel
theorem dX7_keeps_73 : decode cX7_keeps 73 = .ok (.imul, 1) := by decide +kernel
theorem dX7_keeps_74 : decode cX7_keeps 74 = .ok (.invokestatic 37, 3) := by decide +kernel
theorem dX7_keeps_77 : decode cX7_keeps 77 = .ok (.aload_n 0, 1) := by decide +kernel
theorem dX7_keeps_78 : decode cX7_keeps 78 = .ok (.dup, 1) := by decide +kernel
theorem dX7_keeps_79 : decode cX7_keeps 79 = .ok (.getfield 42, 3) := by decide +kernel
theorem dX7_keeps_82 : decode cX7_keeps 82 = .ok (.iconst 1, 1) := by decide +kernel
theorem dX7_keeps_83 : decode cX7_keeps 83 = .ok (.iadd, 1) := by decide +kernel
theorem dX7_keeps_84 : decode cX7_keeps 84 = .ok (.putfield 42, 3) := by decide +kernel
theorem dX7_keeps_87 : decode cX7_keeps 87 = .ok (.iload_n 1, 1) := by decide +kernel
theorem dX7_keeps_88 : decode cX7_keeps 88 = .ok (.ireturn, 1) := by decide +kernel
theorem dX7_of_0 : decode cX7_of 0 = .ok (.aload_n 0, 1) := by decide +kernel
theorem dX7_of_1 : decode cX7_of 1 = .ok (.getfield 7, 3) := by decide +kernel
theorem dX7_of_4 : decode cX7_of 4 = .ok (.bipush 55, 2) := by decide +kernel
theorem dX7_of_6 : decode cX7_of 6 = .ok (.bipush 106, 2) := by decide +kernel
theorem dX7_of_8 : decode cX7_of 8 = .ok (.iload_n 1, 1) := by decide +kernel
theorem dX7_of_9 : decode cX7_of 9 = .ok (.imul, 1) := by decide +kernel
theorem dX7_of_10 : decode cX7_of 10 = .ok (.iadd, 1) := by decide +kernel
theorem dX7_of_11 : decode cX7_of 11 = .ok (.iload_n 2, 1) := by decide +kernel
theorem dX7_of_12 : decode cX7_of 12 = .ok (.iadd, 1) := by decide +kernel
theorem dX7_of_13 : decode cX7_of 13 = .ok (.iaload, 1) := by decide +kernel
theorem dX7_of_14 : decode cX7_of 14 = .ok (.ireturn, 1) := by decide +kernel
theorem dX7_lays_0 : decode cX7_lays 0 = .ok (.aload_n 0, 1) := by decide +kernel
theorem dX7_lays_1 : decode cX7_lays 1 = .ok (.getfield 7, 3) := by decide +kernel
theorem dX7_lays_4 : decode cX7_lays 4 = .ok (.bipush 55, 2) := by decide +kernel
theorem dX7_lays_6 : decode cX7_lays 6 = .ok (.bipush 106, 2) := by decide +kernel
theorem dX7_lays_8 : decode cX7_lays 8 = .ok (.iload_n 1, 1) := by decide +kernel
theorem dX7_lays_9 : decode cX7_lays 9 = .ok (.imul, 1) := by decide +kernel
theorem dX7_lays_10 : decode cX7_lays 10 = .ok (.iadd, 1) := by decide +kernel
theorem dX7_lays_11 : decode cX7_lays 11 = .ok (.iload_n 2, 1) := by decide +kernel
theorem dX7_lays_12 : decode cX7_lays 12 = .ok (.iadd, 1) := by decide +kernel
theorem dX7_lays_13 : decode cX7_lays 13 = .ok (.iload_n 3, 1) := by decide +kernel
theorem dX7_lays_14 : decode cX7_lays 14 = .ok (.iastore, 1) := by decide +kernel
theorem dX7_lays_15 : decode cX7_lays 15 = .ok (.return_, 1) := by decide +kernel
theorem dX7_placeOf_0 : decode cX7_placeOf 0 = .ok (.ldc 41, 2) := by decide +kernel
theorem dX7_placeOf_2 : decode cX7_placeOf 2 = .ok (.istore_n 2, 1) := by decide +kernel
theorem dX7_placeOf_3 : decode cX7_placeOf 3 = .ok (.iconst 0, 1) := by decide +kernel
theorem dX7_placeOf_4 : decode cX7_placeOf 4 = .ok (.istore_n 3, 1) := by decide +kernel
theorem dX7_placeOf_5 : decode cX7_placeOf 5 = .ok (.iload_n 3, 1) := by decide +kernel
theorem dX7_placeOf_6 : decode cX7_placeOf 6 = .ok (.aload_n 0, 1) := by decide +kernel
theorem dX7_placeOf_7 : decode cX7_placeOf 7 = .ok (.getfield 7, 3) := by decide +kernel
theorem dX7_placeOf_10 : decode cX7_placeOf 10 = .ok (.iconst 0, 1) := by decide +kernel
theorem dX7_placeOf_11 : decode cX7_placeOf 11 = .ok (.iaload, 1) := by decide +kernel
theorem dX7_placeOf_12 : decode cX7_placeOf 12 = .ok (.if_icmp .ge 25, 3) := by decide +kernel
theorem dX7_placeOf_15 : decode cX7_placeOf 15 = .ok (.aload_n 0, 1) := by decide +kernel
theorem dX7_placeOf_16 : decode cX7_placeOf 16 = .ok (.iload_n 3, 1) := by decide +kernel
theorem dX7_placeOf_17 : decode cX7_placeOf 17 = .ok (.iconst 0, 1) := by decide +kernel
theorem dX7_placeOf_18 : decode cX7_placeOf 18 = .ok (.invokevirtual 46, 3) := by decide +kernel
theorem dX7_placeOf_21 : decode cX7_placeOf 21 = .ok (.iload_n 1, 1) := by decide +kernel
theorem dX7_placeOf_22 : decode cX7_placeOf 22 = .ok (.if_icmp .ne 7, 3) := by decide +kernel
theorem dX7_placeOf_25 : decode cX7_placeOf 25 = .ok (.iload_n 3, 1) := by decide +kernel
theorem dX7_placeOf_26 : decode cX7_placeOf 26 = .ok (.goto 4, 3) := by decide +kernel
theorem dX7_placeOf_29 : decode cX7_placeOf 29 = .ok (.iload_n 2, 1) := by decide +kernel
theorem dX7_placeOf_30 : decode cX7_placeOf 30 = .ok (.istore_n 2, 1) := by decide +kernel
theorem dX7_placeOf_31 : decode cX7_placeOf 31 = .ok (.iinc 3 1, 3) := by decide +kernel
theorem dX7_placeOf_34 : decode cX7_placeOf 34 = .ok (.goto (-29), 3) := by decide +kernel
theorem dX7_placeOf_37 : decode cX7_placeOf 37 = .ok (.iload_n 2, 1) := by decide +kernel
theorem dX7_placeOf_38 : decode cX7_placeOf 38 = .ok (.ireturn, 1) := by decide +kernel
theorem dX7_isUser_0 : decode cX7_isUser 0 = .ok (.iload_n 0, 1) := by decide +kernel
theorem dX7_isUser_1 : decode cX7_isUser 1 = .ok (.iconst 0, 1) := by decide +kernel
theorem dX7_isUser_2 : decode cX7_isUser 2 = .ok (.iconst 3, 1) := by decide +kernel
theorem dX7_isUser_3 : decode cX7_isUser 3 = .ok (.invokestatic 50, 3) := by decide +kernel
theorem dX7_isUser_6 : decode cX7_isUser 6 = .ok (.ireturn, 1) := by decide +kernel
theorem dX7_isField_0 : decode cX7_isField 0 = .ok (.iload_n 0, 1) := by decide +kernel
theorem dX7_isField_1 : decode cX7_isField 1 = .ok (.iconst 0, 1) := by decide +kernel
theorem dX7_isField_2 : decode cX7_isField 2 = .ok (.iconst 3, 1) := by decide +kernel
theorem dX7_isField_3 : decode cX7_isField 3 = .ok (.invokestatic 50, 3) := by decide +kernel
theorem dX7_isField_6 : decode cX7_isField 6 = .ok (.ireturn, 1) := by decide +kernel
theorem dX7_isNumber_0 : decode cX7_isNumber 0 = .ok (.iload_n 0, 1) := by decide +kernel
theorem dX7_isNumber_1 : decode cX7_isNumber 1 = .ok (.sipush (-999), 3) := by decide +kernel
theorem dX7_isNumber_4 : decode cX7_isNumber 4 = .ok (.sipush 999, 3) := by decide +kernel
theorem dX7_isNumber_7 : decode cX7_isNumber 7 = .ok (.invokestatic 50, 3) := by decide +kernel
theorem dX7_isNumber_10 : decode cX7_isNumber 10 = .ok (.ireturn, 1) := by decide +kernel
theorem dX7_isBarred_0 : decode cX7_isBarred 0 = .ok (.aload_n 0, 1) := by decide +kernel
theorem dX7_isBarred_1 : decode cX7_isBarred 1 = .ok (.iload_n 1, 1) := by decide +kernel
theorem dX7_isBarred_2 : decode cX7_isBarred 2 = .ok (.iconst 1, 1) := by decide +kernel
theorem dX7_isBarred_3 : decode cX7_isBarred 3 = .ok (.invokevirtual 46, 3) := by decide +kernel
theorem dX7_isBarred_6 : decode cX7_isBarred 6 = .ok (.ifCond .le 19, 3) := by decide +kernel
theorem dX7_isBarred_9 : decode cX7_isBarred 9 = .ok (.aload_n 0, 1) := by decide +kernel
theorem dX7_isBarred_10 : decode cX7_isBarred 10 = .ok (.iload_n 1, 1) := by decide +kernel
theorem dX7_isBarred_11 : decode cX7_isBarred 11 = .ok (.iconst 1, 1) := by decide +kernel
theorem dX7_isBarred_12 : decode cX7_isBarred 12 = .ok (.invokevirtual 46, 3) := by decide +kernel
theorem dX7_isBarred_15 : decode cX7_isBarred 15 = .ok (.iload_n 2, 1) := by decide +kernel
theorem dX7_isBarred_16 : decode cX7_isBarred 16 = .ok (.iconst 1, 1) := by decide +kernel
theorem dX7_isBarred_17 : decode cX7_isBarred 17 = .ok (.iadd, 1) := by decide +kernel
theorem dX7_isBarred_18 : decode cX7_isBarred 18 = .ok (.if_icmp .eq 7, 3) := by decide +kernel
theorem dX7_isBarred_21 : decode cX7_isBarred 21 = .ok (.iconst 1, 1) := by decide +kernel
theorem dX7_isBarred_22 : decode cX7_isBarred 22 = .ok (.goto 4, 3) := by decide +kernel
theorem dX7_isBarred_25 : decode cX7_isBarred 25 = .ok (.iconst 0, 1) := by decide +kernel
theorem dX7_isBarred_26 : decode cX7_isBarred 26 = .ok (.ireturn, 1) := by decide +kernel
theorem dX7_valuesOf_0 : decode cX7_valuesOf 0 = .ok (.aload_n 0, 1) := by decide +kernel
theorem dX7_valuesOf_1 : decode cX7_valuesOf 1 = .ok (.iload_n 1, 1) := by decide +kernel
theorem dX7_valuesOf_2 : decode cX7_valuesOf 2 = .ok (.iconst 2, 1) := by decide +kernel
theorem dX7_valuesOf_3 : decode cX7_valuesOf 3 = .ok (.iload_n 2, 1) := by decide +kernel
theorem dX7_valuesOf_4 : decode cX7_valuesOf 4 = .ok (.iadd, 1) := by decide +kernel
theorem dX7_valuesOf_5 : decode cX7_valuesOf 5 = .ok (.invokevirtual 46, 3) := by decide +kernel
theorem dX7_valuesOf_8 : decode cX7_valuesOf 8 = .ok (.ireturn, 1) := by decide +kernel
theorem dX7_subsAt_0 : decode cX7_subsAt 0 = .ok (.bipush 6, 2) := by decide +kernel
theorem dX7_subsAt_2 : decode cX7_subsAt 2 = .ok (.iconst 5, 1) := by decide +kernel
theorem dX7_subsAt_3 : decode cX7_subsAt 3 = .ok (.iload_n 0, 1) := by decide +kernel
theorem dX7_subsAt_4 : decode cX7_subsAt 4 = .ok (.imul, 1) := by decide +kernel
theorem dX7_subsAt_5 : decode cX7_subsAt 5 = .ok (.iadd, 1) := by decide +kernel
theorem dX7_subsAt_6 : decode cX7_subsAt 6 = .ok (.iload_n 1, 1) := by decide +kernel
theorem dX7_subsAt_7 : decode cX7_subsAt 7 = .ok (.iadd, 1) := by decide +kernel
theorem dX7_subsAt_8 : decode cX7_subsAt 8 = .ok (.ireturn, 1) := by decide +kernel
theorem dX7_numberAtCell_0 : decode cX7_numberAtCell 0 = .ok (.bipush 26, 2) := by decide +kernel
theorem dX7_numberAtCell_2 : decode cX7_numberAtCell 2 = .ok (.bipush 20, 2) := by decide +kernel
theorem dX7_numberAtCell_4 : decode cX7_numberAtCell 4 = .ok (.iload_n 0, 1) := by decide +kernel
theorem dX7_numberAtCell_5 : decode cX7_numberAtCell 5 = .ok (.imul, 1) := by decide +kernel
theorem dX7_numberAtCell_6 : decode cX7_numberAtCell 6 = .ok (.iadd, 1) := by decide +kernel
theorem dX7_numberAtCell_7 : decode cX7_numberAtCell 7 = .ok (.iconst 4, 1) := by decide +kernel
theorem dX7_numberAtCell_8 : decode cX7_numberAtCell 8 = .ok (.iload_n 1, 1) := by decide +kernel
theorem dX7_numberAtCell_9 : decode cX7_numberAtCell 9 = .ok (.imul, 1) := by decide +kernel
theorem dX7_numberAtCell_10 : decode cX7_numberAtCell 10 = .ok (.iadd, 1) := by decide +kernel
theorem dX7_numberAtCell_11 : decode cX7_numberAtCell 11 = .ok (.iload_n 2, 1) := by decide +kernel
theorem dX7_numberAtCell_12 : decode cX7_numberAtCell 12 = .ok (.iadd, 1) := by decide +kernel
theorem dX7_numberAtCell_13 : decode cX7_numberAtCell 13 = .ok (.ireturn, 1) := by decide +kernel
theorem dX7_subsOf_0 : decode cX7_subsOf 0 = .ok (.aload_n 0, 1) := by decide +kernel
theorem dX7_subsOf_1 : decode cX7_subsOf 1 = .ok (.iload_n 1, 1) := by decide +kernel
theorem dX7_subsOf_2 : decode cX7_subsOf 2 = .ok (.iload_n 2, 1) := by decide +kernel
theorem dX7_subsOf_3 : decode cX7_subsOf 3 = .ok (.iload_n 3, 1) := by decide +kernel
theorem dX7_subsOf_4 : decode cX7_subsOf 4 = .ok (.invokestatic 54, 3) := by decide +kernel
theorem dX7_subsOf_7 : decode cX7_subsOf 7 = .ok (.invokevirtual 46, 3) := by decide +kernel
theorem dX7_subsOf_10 : decode cX7_subsOf 10 = .ok (.ireturn, 1) := by decide +kernel
theorem dX7_numberOf_0 : decode cX7_numberOf 0 = .ok (.aload_n 0, 1) := by decide +kernel
theorem dX7_numberOf_1 : decode cX7_numberOf 1 = .ok (.iload_n 1, 1) := by decide +kernel
theorem dX7_numberOf_2 : decode cX7_numberOf 2 = .ok (.iload_n 2, 1) := by decide +kernel
theorem dX7_numberOf_3 : decode cX7_numberOf 3 = .ok (.iload_n 3, 1) := by decide +kernel
theorem dX7_numberOf_4 : decode cX7_numberOf 4 = .ok (.iload 4, 2) := by decide +kernel
theorem dX7_numberOf_6 : decode cX7_numberOf 6 = .ok (.invokestatic 57, 3) := by decide +kernel
theorem dX7_numberOf_9 : decode cX7_numberOf 9 = .ok (.invokevirtual 46, 3) := by decide +kernel
theorem dX7_numberOf_12 : decode cX7_numberOf 12 = .ok (.ireturn, 1) := by decide +kernel
theorem dX7_hasValue_0 : decode cX7_hasValue 0 = .ok (.iload_n 3, 1) := by decide +kernel
theorem dX7_hasValue_1 : decode cX7_hasValue 1 = .ok (.iconst 0, 1) := by decide +kernel
theorem dX7_hasValue_2 : decode cX7_hasValue 2 = .ok (.aload_n 0, 1) := by decide +kernel
theorem dX7_hasValue_3 : decode cX7_hasValue 3 = .ok (.iload_n 1, 1) := by decide +kernel
theorem dX7_hasValue_4 : decode cX7_hasValue 4 = .ok (.iload_n 2, 1) := by decide +kernel
theorem dX7_hasValue_5 : decode cX7_hasValue 5 = .ok (.invokevirtual 61, 3) := by decide +kernel
theorem dX7_hasValue_8 : decode cX7_hasValue 8 = .ok (.iconst 1, 1) := by decide +kernel
theorem dX7_hasValue_9 : decode cX7_hasValue 9 = .ok (.isub, 1) := by decide +kernel
theorem dX7_hasValue_10 : decode cX7_hasValue 10 = .ok (.invokestatic 50, 3) := by decide +kernel
theorem dX7_hasValue_13 : decode cX7_hasValue 13 = .ok (.ireturn, 1) := by decide +kernel
theorem dX7_hasSub_0 : decode cX7_hasSub 0 = .ok (.aload_n 0, 1) := by decide +kernel
theorem dX7_hasSub_1 : decode cX7_hasSub 1 = .ok (.iload_n 1, 1) := by decide +kernel
theorem dX7_hasSub_2 : decode cX7_hasSub 2 = .ok (.iload_n 2, 1) := by decide +kernel
theorem dX7_hasSub_3 : decode cX7_hasSub 3 = .ok (.iload_n 3, 1) := by decide +kernel
theorem dX7_hasSub_4 : decode cX7_hasSub 4 = .ok (.invokevirtual 64, 3) := by decide +kernel
theorem dX7_hasSub_7 : decode cX7_hasSub 7 = .ok (.ifCond .eq 25, 3) := by decide +kernel
theorem dX7_hasSub_10 : decode cX7_hasSub 10 = .ok (.iload 4, 2) := by decide +kernel
theorem dX7_hasSub_12 : decode cX7_hasSub 12 = .ok (.iconst 0, 1) := by decide +kernel
theorem dX7_hasSub_13 : decode cX7_hasSub 13 = .ok (.aload_n 0, 1) := by decide +kernel
theorem dX7_hasSub_14 : decode cX7_hasSub 14 = .ok (.iload_n 1, 1) := by decide +kernel
theorem dX7_hasSub_15 : decode cX7_hasSub 15 = .ok (.iload_n 2, 1) := by decide +kernel
theorem dX7_hasSub_16 : decode cX7_hasSub 16 = .ok (.iload_n 3, 1) := by decide +kernel
theorem dX7_hasSub_17 : decode cX7_hasSub 17 = .ok (.invokevirtual 67, 3) := by decide +kernel
theorem dX7_hasSub_20 : decode cX7_hasSub 20 = .ok (.iconst 1, 1) := by decide +kernel
theorem dX7_hasSub_21 : decode cX7_hasSub 21 = .ok (.isub, 1) := by decide +kernel
theorem dX7_hasSub_22 : decode cX7_hasSub 22 = .ok (.invokestatic 50, 3) := by decide +kernel
theorem dX7_hasSub_25 : decode cX7_hasSub 25 = .ok (.ifCond .eq 7, 3) := by decide +kernel
theorem dX7_hasSub_28 : decode cX7_hasSub 28 = .ok (.iconst 1, 1) := by decide +kernel
theorem dX7_hasSub_29 : decode cX7_hasSub 29 = .ok (.goto 4, 3) := by decide +kernel
theorem dX7_hasSub_32 : decode cX7_hasSub 32 = .ok (.iconst 0, 1) := by decide +kernel
theorem dX7_hasSub_33 : decode cX7_hasSub 33 = .ok (.ireturn, 1) := by decide +kernel
theorem dX7_copiesValue_0 : decode cX7_copiesValue 0 = .ok (.aload_n 0, 1) := by decide +kernel
theorem dX7_copiesValue_1 : decode cX7_copiesValue 1 = .ok (.iload_n 1, 1) := by decide +kernel
theorem dX7_copiesValue_2 : decode cX7_copiesValue 2 = .ok (.iload_n 2, 1) := by decide +kernel
theorem dX7_copiesValue_3 : decode cX7_copiesValue 3 = .ok (.iload 4, 2) := by decide +kernel
theorem dX7_copiesValue_5 : decode cX7_copiesValue 5 = .ok (.invokestatic 54, 3) := by decide +kernel
theorem dX7_copiesValue_8 : decode cX7_copiesValue 8 = .ok (.aload_n 0, 1) := by decide +kernel
theorem dX7_copiesValue_9 : decode cX7_copiesValue 9 = .ok (.iload_n 1, 1) := by decide +kernel
theorem dX7_copiesValue_10 : decode cX7_copiesValue 10 = .ok (.iload_n 2, 1) := by decide +kernel
theorem dX7_copiesValue_11 : decode cX7_copiesValue 11 = .ok (.iload_n 3, 1) := by decide +kernel
theorem dX7_copiesValue_12 : decode cX7_copiesValue 12 = .ok (.invokevirtual 67, 3) := by decide +kernel
theorem dX7_copiesValue_15 : decode cX7_copiesValue 15 = .ok (.invokevirtual 70, 3) := by decide +kernel
theorem dX7_copiesValue_18 : decode cX7_copiesValue 18 = .ok (.iconst 0, 1) := by decide +kernel
theorem dX7_copiesValue_19 : decode cX7_copiesValue 19 = .ok (.istore 5, 2) := by decide +kernel
theorem dX7_copiesValue_21 : decode cX7_copiesValue 21 = .ok (.iload 5, 2) := by decide +kernel
theorem dX7_copiesValue_23 : decode cX7_copiesValue 23 = .ok (.iconst 4, 1) := by decide +kernel
theorem dX7_copiesValue_24 : decode cX7_copiesValue 24 = .ok (.if_icmp .ge 31, 3) := by decide +kernel
theorem dX7_copiesValue_27 : decode cX7_copiesValue 27 = .ok (.aload_n 0, 1) := by decide +kernel
theorem dX7_copiesValue_28 : decode cX7_copiesValue 28 = .ok (.iload_n 1, 1) := by decide +kernel
theorem dX7_copiesValue_29 : decode cX7_copiesValue 29 = .ok (.iload_n 2, 1) := by decide +kernel
theorem dX7_copiesValue_30 : decode cX7_copiesValue 30 = .ok (.iload 4, 2) := by decide +kernel
theorem dX7_copiesValue_32 : decode cX7_copiesValue 32 = .ok (.iload 5, 2) := by decide +kernel
theorem dX7_copiesValue_34 : decode cX7_copiesValue 34 = .ok (.invokestatic 57, 3) := by decide +kernel
theorem dX7_copiesValue_37 : decode cX7_copiesValue 37 = .ok (.aload_n 0, 1) := by decide +kernel
theorem dX7_copiesValue_38 : decode cX7_copiesValue 38 = .ok (.iload_n 1, 1) := by decide +kernel
theorem dX7_copiesValue_39 : decode cX7_copiesValue 39 = .ok (.iload_n 2, 1) := by decide +kernel
theorem dX7_copiesValue_40 : decode cX7_copiesValue 40 = .ok (.iload_n 3, 1) := by decide +kernel
theorem dX7_copiesValue_41 : decode cX7_copiesValue 41 = .ok (.iload 5, 2) := by decide +kernel
theorem dX7_copiesValue_43 : decode cX7_copiesValue 43 = .ok (.invokevirtual 74, 3) := by decide +kernel
theorem dX7_copiesValue_46 : decode cX7_copiesValue 46 = .ok (.invokevirtual 70, 3) := by decide +kernel
theorem dX7_copiesValue_49 : decode cX7_copiesValue 49 = .ok (.iinc 5 1, 3) := by decide +kernel
theorem dX7_copiesValue_52 : decode cX7_copiesValue 52 = .ok (.goto (-31), 3) := by decide +kernel
theorem dX7_copiesValue_55 : decode cX7_copiesValue 55 = .ok (.return_, 1) := by decide +kernel
theorem dX7_empties_0 : decode cX7_empties 0 = .ok (.aload_n 0, 1) := by decide +kernel
theorem dX7_empties_1 : decode cX7_empties 1 = .ok (.iload_n 1, 1) := by decide +kernel
theorem dX7_empties_2 : decode cX7_empties 2 = .ok (.iload_n 2, 1) := by decide +kernel
theorem dX7_empties_3 : decode cX7_empties 3 = .ok (.iload_n 3, 1) := by decide +kernel
theorem dX7_empties_4 : decode cX7_empties 4 = .ok (.invokestatic 54, 3) := by decide +kernel
theorem dX7_empties_7 : decode cX7_empties 7 = .ok (.iconst 0, 1) := by decide +kernel
theorem dX7_empties_8 : decode cX7_empties 8 = .ok (.invokevirtual 70, 3) := by decide +kernel
theorem dX7_empties_11 : decode cX7_empties 11 = .ok (.iconst 0, 1) := by decide +kernel
theorem dX7_empties_12 : decode cX7_empties 12 = .ok (.istore 4, 2) := by decide +kernel
theorem dX7_empties_14 : decode cX7_empties 14 = .ok (.iload 4, 2) := by decide +kernel
theorem dX7_empties_16 : decode cX7_empties 16 = .ok (.iconst 4, 1) := by decide +kernel
theorem dX7_empties_17 : decode cX7_empties 17 = .ok (.if_icmp .ge 22, 3) := by decide +kernel
theorem dX7_empties_20 : decode cX7_empties 20 = .ok (.aload_n 0, 1) := by decide +kernel
theorem dX7_empties_21 : decode cX7_empties 21 = .ok (.iload_n 1, 1) := by decide +kernel
theorem dX7_empties_22 : decode cX7_empties 22 = .ok (.iload_n 2, 1) := by decide +kernel
theorem dX7_empties_23 : decode cX7_empties 23 = .ok (.iload_n 3, 1) := by decide +kernel
theorem dX7_empties_24 : decode cX7_empties 24 = .ok (.iload 4, 2) := by decide +kernel
theorem dX7_empties_26 : decode cX7_empties 26 = .ok (.invokestatic 57, 3) := by decide +kernel
theorem dX7_empties_29 : decode cX7_empties 29 = .ok (.iconst 0, 1) := by decide +kernel
theorem dX7_empties_30 : decode cX7_empties 30 = .ok (.invokevirtual 70, 3) := by decide +kernel
theorem dX7_empties_33 : decode cX7_empties 33 = .ok (.iinc 4 1, 3) := by decide +kernel
theorem dX7_empties_36 : decode cX7_empties 36 = .ok (.goto (-22), 3) := by decide +kernel
theorem dX7_empties_39 : decode cX7_empties 39 = .ok (.return_, 1) := by decide +kernel
theorem dX7_dropsValue_0 : decode cX7_dropsValue 0 = .ok (.aload_n 0, 1) := by decide +kernel
theorem dX7_dropsValue_1 : decode cX7_dropsValue 1 = .ok (.iload_n 1, 1) := by decide +kernel
theorem dX7_dropsValue_2 : decode cX7_dropsValue 2 = .ok (.iload_n 2, 1) := by decide +kernel
theorem dX7_dropsValue_3 : decode cX7_dropsValue 3 = .ok (.invokevirtual 61, 3) := by decide +kernel
theorem dX7_dropsValue_6 : decode cX7_dropsValue 6 = .ok (.istore 4, 2) := by decide +kernel
theorem dX7_dropsValue_8 : decode cX7_dropsValue 8 = .ok (.iload_n 3, 1) := by decide +kernel
theorem dX7_dropsValue_9 : decode cX7_dropsValue 9 = .ok (.istore 5, 2) := by decide +kernel
theorem dX7_dropsValue_11 : decode cX7_dropsValue 11 = .ok (.iload 5, 2) := by decide +kernel
theorem dX7_dropsValue_13 : decode cX7_dropsValue 13 = .ok (.iconst 1, 1) := by decide +kernel
theorem dX7_dropsValue_14 : decode cX7_dropsValue 14 = .ok (.iadd, 1) := by decide +kernel
theorem dX7_dropsValue_15 : decode cX7_dropsValue 15 = .ok (.iload 4, 2) := by decide +kernel
theorem dX7_dropsValue_17 : decode cX7_dropsValue 17 = .ok (.if_icmp .ge 21, 3) := by decide +kernel
theorem dX7_dropsValue_20 : decode cX7_dropsValue 20 = .ok (.aload_n 0, 1) := by decide +kernel
theorem dX7_dropsValue_21 : decode cX7_dropsValue 21 = .ok (.iload_n 1, 1) := by decide +kernel
theorem dX7_dropsValue_22 : decode cX7_dropsValue 22 = .ok (.iload_n 2, 1) := by decide +kernel
theorem dX7_dropsValue_23 : decode cX7_dropsValue 23 = .ok (.iload 5, 2) := by decide +kernel
theorem dX7_dropsValue_25 : decode cX7_dropsValue 25 = .ok (.iconst 1, 1) := by decide +kernel
theorem dX7_dropsValue_26 : decode cX7_dropsValue 26 = .ok (.iadd, 1) := by decide +kernel
theorem dX7_dropsValue_27 : decode cX7_dropsValue 27 = .ok (.iload 5, 2) := by decide +kernel
theorem dX7_dropsValue_29 : decode cX7_dropsValue 29 = .ok (.invokevirtual 78, 3) := by decide +kernel
theorem dX7_dropsValue_32 : decode cX7_dropsValue 32 = .ok (.iinc 5 1, 3) := by decide +kernel
theorem dX7_dropsValue_35 : decode cX7_dropsValue 35 = .ok (.goto (-24), 3) := by decide +kernel
theorem dX7_dropsValue_38 : decode cX7_dropsValue 38 = .ok (.aload_n 0, 1) := by decide +kernel
theorem dX7_dropsValue_39 : decode cX7_dropsValue 39 = .ok (.iload_n 1, 1) := by decide +kernel
theorem dX7_dropsValue_40 : decode cX7_dropsValue 40 = .ok (.iload_n 2, 1) := by decide +kernel
theorem dX7_dropsValue_41 : decode cX7_dropsValue 41 = .ok (.iload 4, 2) := by decide +kernel
theorem dX7_dropsValue_43 : decode cX7_dropsValue 43 = .ok (.iconst 1, 1) := by decide +kernel
theorem dX7_dropsValue_44 : decode cX7_dropsValue 44 = .ok (.isub, 1) := by decide +kernel
theorem dX7_dropsValue_45 : decode cX7_dropsValue 45 = .ok (.invokevirtual 82, 3) := by decide +kernel
theorem dX7_dropsValue_48 : decode cX7_dropsValue 48 = .ok (.aload_n 0, 1) := by decide +kernel
theorem dX7_dropsValue_49 : decode cX7_dropsValue 49 = .ok (.iload_n 1, 1) := by decide +kernel
theorem dX7_dropsValue_50 : decode cX7_dropsValue 50 = .ok (.iconst 2, 1) := by decide +kernel
theorem dX7_dropsValue_51 : decode cX7_dropsValue 51 = .ok (.iload_n 2, 1) := by decide +kernel
theorem dX7_dropsValue_52 : decode cX7_dropsValue 52 = .ok (.iadd, 1) := by decide +kernel
theorem dX7_dropsValue_53 : decode cX7_dropsValue 53 = .ok (.iload 4, 2) := by decide +kernel
theorem dX7_dropsValue_55 : decode cX7_dropsValue 55 = .ok (.iconst 1, 1) := by decide +kernel
theorem dX7_dropsValue_56 : decode cX7_dropsValue 56 = .ok (.isub, 1) := by decide +kernel
theorem dX7_dropsValue_57 : decode cX7_dropsValue 57 = .ok (.invokevirtual 70, 3) := by decide +kernel
theorem dX7_dropsValue_60 : decode cX7_dropsValue 60 = .ok (.return_, 1) := by decide +kernel
theorem dX7_lockedBy_0 : decode cX7_lockedBy 0 = .ok (.iconst 0, 1) := by decide +kernel
theorem dX7_lockedBy_1 : decode cX7_lockedBy 1 = .ok (.istore_n 2, 1) := by decide +kernel
theorem dX7_lockedBy_2 : decode cX7_lockedBy 2 = .ok (.iconst 0, 1) := by decide +kernel
theorem dX7_lockedBy_3 : decode cX7_lockedBy 3 = .ok (.istore_n 3, 1) := by decide +kernel
theorem dX7_lockedBy_4 : decode cX7_lockedBy 4 = .ok (.iload_n 3, 1) := by decide +kernel
theorem dX7_lockedBy_5 : decode cX7_lockedBy 5 = .ok (.aload_n 0, 1) := by decide +kernel
theorem dX7_lockedBy_6 : decode cX7_lockedBy 6 = .ok (.getfield 7, 3) := by decide +kernel
theorem dX7_lockedBy_9 : decode cX7_lockedBy 9 = .ok (.iconst 0, 1) := by decide +kernel
theorem dX7_lockedBy_10 : decode cX7_lockedBy 10 = .ok (.iaload, 1) := by decide +kernel
theorem dX7_lockedBy_11 : decode cX7_lockedBy 11 = .ok (.if_icmp .ge 29, 3) := by decide +kernel
theorem dX7_lockedBy_14 : decode cX7_lockedBy 14 = .ok (.iload_n 2, 1) := by decide +kernel
theorem dX7_lockedBy_15 : decode cX7_lockedBy 15 = .ok (.aload_n 0, 1) := by decide +kernel
theorem dX7_lockedBy_16 : decode cX7_lockedBy 16 = .ok (.iload_n 3, 1) := by decide +kernel
theorem dX7_lockedBy_17 : decode cX7_lockedBy 17 = .ok (.iconst 1, 1) := by decide +kernel
theorem dX7_lockedBy_18 : decode cX7_lockedBy 18 = .ok (.invokevirtual 46, 3) := by decide +kernel
theorem dX7_lockedBy_21 : decode cX7_lockedBy 21 = .ok (.iload_n 1, 1) := by decide +kernel
theorem dX7_lockedBy_22 : decode cX7_lockedBy 22 = .ok (.iconst 1, 1) := by decide +kernel
theorem dX7_lockedBy_23 : decode cX7_lockedBy 23 = .ok (.iadd, 1) := by decide +kernel
theorem dX7_lockedBy_24 : decode cX7_lockedBy 24 = .ok (.if_icmp .ne 7, 3) := by decide +kernel
theorem dX7_lockedBy_27 : decode cX7_lockedBy 27 = .ok (.iconst 1, 1) := by decide +kernel
theorem dX7_lockedBy_28 : decode cX7_lockedBy 28 = .ok (.goto 4, 3) := by decide +kernel
theorem dX7_lockedBy_31 : decode cX7_lockedBy 31 = .ok (.iconst 0, 1) := by decide +kernel
theorem dX7_lockedBy_32 : decode cX7_lockedBy 32 = .ok (.iadd, 1) := by decide +kernel
theorem dX7_lockedBy_33 : decode cX7_lockedBy 33 = .ok (.istore_n 2, 1) := by decide +kernel
theorem dX7_lockedBy_34 : decode cX7_lockedBy 34 = .ok (.iinc 3 1, 3) := by decide +kernel
theorem dX7_lockedBy_37 : decode cX7_lockedBy 37 = .ok (.goto (-33), 3) := by decide +kernel
theorem dX7_lockedBy_40 : decode cX7_lockedBy 40 = .ok (.iload_n 2, 1) := by decide +kernel
theorem dX7_lockedBy_41 : decode cX7_lockedBy 41 = .ok (.ireturn, 1) := by decide +kernel
theorem dX7_goCreate_0 : decode cX7_goCreate 0 = .ok (.iload_n 1, 1) := by decide +kernel
theorem dX7_goCreate_1 : decode cX7_goCreate 1 = .ok (.iconst 0, 1) := by decide +kernel
theorem dX7_goCreate_2 : decode cX7_goCreate 2 = .ok (.bipush 99, 2) := by decide +kernel
theorem dX7_goCreate_4 : decode cX7_goCreate 4 = .ok (.invokestatic 50, 3) := by decide +kernel
theorem dX7_goCreate_7 : decode cX7_goCreate 7 = .ok (.ifCond .ne 6, 3) := by decide +kernel
theorem dX7_goCreate_10 : decode cX7_goCreate 10 = .ok (.ldc 85, 2) := by decide +kernel
theorem dX7_goCreate_12 : decode cX7_goCreate 12 = .ok (.ireturn, 1) := by decide +kernel
theorem dX7_goCreate_13 : decode cX7_goCreate 13 = .ok (.aload_n 0, 1) := by decide +kernel
theorem dX7_goCreate_14 : decode cX7_goCreate 14 = .ok (.iload_n 1, 1) := by decide +kernel
theorem dX7_goCreate_15 : decode cX7_goCreate 15 = .ok (.invokevirtual 86, 3) := by decide +kernel
theorem dX7_goCreate_18 : decode cX7_goCreate 18 = .ok (.ifCond .lt 6, 3) := by decide +kernel
theorem dX7_goCreate_21 : decode cX7_goCreate 21 = .ok (.ldc 90, 2) := by decide +kernel
theorem dX7_goCreate_23 : decode cX7_goCreate 23 = .ok (.ireturn, 1) := by decide +kernel
theorem dX7_goCreate_24 : decode cX7_goCreate 24 = .ok (.aload_n 0, 1) := by decide +kernel
theorem dX7_goCreate_25 : decode cX7_goCreate 25 = .ok (.getfield 7, 3) := by decide +kernel
theorem dX7_goCreate_28 : decode cX7_goCreate 28 = .ok (.iconst 0, 1) := by decide +kernel
theorem dX7_goCreate_29 : decode cX7_goCreate 29 = .ok (.iaload, 1) := by decide +kernel
theorem dX7_goCreate_30 : decode cX7_goCreate 30 = .ok (.bipush 10, 2) := by decide +kernel
theorem dX7_goCreate_32 : decode cX7_goCreate 32 = .ok (.if_icmp .ne 6, 3) := by decide +kernel
theorem dX7_goCreate_35 : decode cX7_goCreate 35 = .ok (.ldc 91, 2) := by decide +kernel
theorem dX7_goCreate_37 : decode cX7_goCreate 37 = .ok (.ireturn, 1) := by decide +kernel
theorem dX7_goCreate_38 : decode cX7_goCreate 38 = .ok (.iconst 0, 1) := by decide +kernel
theorem dX7_goCreate_39 : decode cX7_goCreate 39 = .ok (.istore_n 2, 1) := by decide +kernel
theorem dX7_goCreate_40 : decode cX7_goCreate 40 = .ok (.iload_n 2, 1) := by decide +kernel
theorem dX7_goCreate_41 : decode cX7_goCreate 41 = .ok (.bipush 106, 2) := by decide +kernel
theorem dX7_goCreate_43 : decode cX7_goCreate 43 = .ok (.if_icmp .ge 21, 3) := by decide +kernel
theorem dX7_goCreate_46 : decode cX7_goCreate 46 = .ok (.aload_n 0, 1) := by decide +kernel
theorem dX7_goCreate_47 : decode cX7_goCreate 47 = .ok (.aload_n 0, 1) := by decide +kernel
theorem dX7_goCreate_48 : decode cX7_goCreate 48 = .ok (.getfield 7, 3) := by decide +kernel
theorem dX7_goCreate_51 : decode cX7_goCreate 51 = .ok (.iconst 0, 1) := by decide +kernel
theorem dX7_goCreate_52 : decode cX7_goCreate 52 = .ok (.iaload, 1) := by decide +kernel
theorem dX7_goCreate_53 : decode cX7_goCreate 53 = .ok (.iload_n 2, 1) := by decide +kernel
theorem dX7_goCreate_54 : decode cX7_goCreate 54 = .ok (.iconst 0, 1) := by decide +kernel
theorem dX7_goCreate_55 : decode cX7_goCreate 55 = .ok (.invokevirtual 70, 3) := by decide +kernel
theorem dX7_goCreate_58 : decode cX7_goCreate 58 = .ok (.iinc 2 1, 3) := by decide +kernel
theorem dX7_goCreate_61 : decode cX7_goCreate 61 = .ok (.goto (-21), 3) := by decide +kernel
theorem dX7_goCreate_64 : decode cX7_goCreate 64 = .ok (.aload_n 0, 1) := by decide +kernel
theorem dX7_goCreate_65 : decode cX7_goCreate 65 = .ok (.aload_n 0, 1) := by decide +kernel
theorem dX7_goCreate_66 : decode cX7_goCreate 66 = .ok (.getfield 7, 3) := by decide +kernel
theorem dX7_goCreate_69 : decode cX7_goCreate 69 = .ok (.iconst 0, 1) := by decide +kernel
theorem dX7_goCreate_70 : decode cX7_goCreate 70 = .ok (.iaload, 1) := by decide +kernel
theorem dX7_goCreate_71 : decode cX7_goCreate 71 = .ok (.iconst 0, 1) := by decide +kernel
theorem dX7_goCreate_72 : decode cX7_goCreate 72 = .ok (.iload_n 1, 1) := by decide +kernel
theorem dX7_goCreate_73 : decode cX7_goCreate 73 = .ok (.invokevirtual 70, 3) := by decide +kernel
theorem dX7_goCreate_76 : decode cX7_goCreate 76 = .ok (.aload_n 0, 1) := by decide +kernel
theorem dX7_goCreate_77 : decode cX7_goCreate 77 = .ok (.getfield 7, 3) := by decide +kernel
theorem dX7_goCreate_80 : decode cX7_goCreate 80 = .ok (.iconst 0, 1) := by decide +kernel
theorem dX7_goCreate_81 : decode cX7_goCreate 81 = .ok (.dup2, 1) := by decide +kernel
theorem dX7_goCreate_82 : decode cX7_goCreate 82 = .ok (.iaload, 1) := by decide +kernel
theorem dX7_goCreate_83 : decode cX7_goCreate 83 = .ok (.iconst 1, 1) := by decide +kernel
theorem dX7_goCreate_84 : decode cX7_goCreate 84 = .ok (.iadd, 1) := by decide +kernel
theorem dX7_goCreate_85 : decode cX7_goCreate 85 = .ok (.iastore, 1) := by decide +kernel
theorem dX7_goCreate_86 : decode cX7_goCreate 86 = .ok (.aload_n 0, 1) := by decide +kernel
theorem dX7_goCreate_87 : decode cX7_goCreate 87 = .ok (.getfield 7, 3) := by decide +kernel
theorem dX7_goCreate_90 : decode cX7_goCreate 90 = .ok (.iconst 0, 1) := by decide +kernel
theorem dX7_goCreate_91 : decode cX7_goCreate 91 = .ok (.iaload, 1) := by decide +kernel
theorem dX7_goCreate_92 : decode cX7_goCreate 92 = .ok (.ireturn, 1) := by decide +kernel
theorem dX7_errorOf_0 : decode cX7_errorOf 0 = .ok (.iload_n 1, 1) := by decide +kernel
theorem dX7_errorOf_1 : decode cX7_errorOf 1 = .ok (.invokestatic 92, 3) := by decide +kernel
theorem dX7_errorOf_4 : decode cX7_errorOf 4 = .ok (.ifCond .eq 11, 3) := by decide +kernel
theorem dX7_errorOf_7 : decode cX7_errorOf 7 = .ok (.aload_n 0, 1) := by decide +kernel
theorem dX7_errorOf_8 : decode cX7_errorOf 8 = .ok (.iload_n 2, 1) := by decide +kernel
theorem dX7_errorOf_9 : decode cX7_errorOf 9 = .ok (.invokevirtual 86, 3) := by decide +kernel
theorem dX7_errorOf_12 : decode cX7_errorOf 12 = .ok (.ifCond .ge 8, 3) := by decide +kernel
theorem dX7_errorOf_15 : decode cX7_errorOf 15 = .ok (.ldc 41, 2) := by decide +kernel
theorem dX7_errorOf_17 : decode cX7_errorOf 17 = .ok (.goto 4, 3) := by decide +kernel
theorem dX7_errorOf_20 : decode cX7_errorOf 20 = .ok (.iconst 0, 1) := by decide +kernel
theorem dX7_errorOf_21 : decode cX7_errorOf 21 = .ok (.ireturn, 1) := by decide +kernel
theorem dX7_goDelete_0 : decode cX7_goDelete 0 = .ok (.aload_n 0, 1) := by decide +kernel
theorem dX7_goDelete_1 : decode cX7_goDelete 1 = .ok (.iload_n 2, 1) := by decide +kernel
theorem dX7_goDelete_2 : decode cX7_goDelete 2 = .ok (.invokevirtual 86, 3) := by decide +kernel
theorem dX7_goDelete_5 : decode cX7_goDelete 5 = .ok (.istore_n 3, 1) := by decide +kernel
theorem dX7_goDelete_6 : decode cX7_goDelete 6 = .ok (.aload_n 0, 1) := by decide +kernel
theorem dX7_goDelete_7 : decode cX7_goDelete 7 = .ok (.iload_n 1, 1) := by decide +kernel
theorem dX7_goDelete_8 : decode cX7_goDelete 8 = .ok (.iload_n 2, 1) := by decide +kernel
theorem dX7_goDelete_9 : decode cX7_goDelete 9 = .ok (.invokevirtual 96, 3) := by decide +kernel
theorem dX7_goDelete_12 : decode cX7_goDelete 12 = .ok (.ifCond .lt 12, 3) := by decide +kernel
theorem dX7_goDelete_15 : decode cX7_goDelete 15 = .ok (.aload_n 0, 1) := by decide +kernel
theorem dX7_goDelete_16 : decode cX7_goDelete 16 = .ok (.iload_n 3, 1) := by decide +kernel
theorem dX7_goDelete_17 : decode cX7_goDelete 17 = .ok (.iload_n 1, 1) := by decide +kernel
theorem dX7_goDelete_18 : decode cX7_goDelete 18 = .ok (.invokevirtual 99, 3) := by decide +kernel
theorem dX7_goDelete_21 : decode cX7_goDelete 21 = .ok (.ifCond .eq 20, 3) := by decide +kernel
theorem dX7_goDelete_24 : decode cX7_goDelete 24 = .ok (.aload_n 0, 1) := by decide +kernel
theorem dX7_goDelete_25 : decode cX7_goDelete 25 = .ok (.iload_n 1, 1) := by decide +kernel
theorem dX7_goDelete_26 : decode cX7_goDelete 26 = .ok (.iload_n 2, 1) := by decide +kernel
theorem dX7_goDelete_27 : decode cX7_goDelete 27 = .ok (.invokevirtual 96, 3) := by decide +kernel
theorem dX7_goDelete_30 : decode cX7_goDelete 30 = .ok (.ifCond .ge 8, 3) := by decide +kernel
theorem dX7_goDelete_33 : decode cX7_goDelete 33 = .ok (.ldc 41, 2) := by decide +kernel
theorem dX7_goDelete_35 : decode cX7_goDelete 35 = .ok (.goto 5, 3) := by decide +kernel
theorem dX7_goDelete_38 : decode cX7_goDelete 38 = .ok (.ldc 103, 2) := by decide +kernel
theorem dX7_goDelete_40 : decode cX7_goDelete 40 = .ok (.ireturn, 1) := by decide +kernel
theorem dX7_goDelete_41 : decode cX7_goDelete 41 = .ok (.aload_n 0, 1) := by decide +kernel
theorem dX7_goDelete_42 : decode cX7_goDelete 42 = .ok (.getfield 7, 3) := by decide +kernel
theorem dX7_goDelete_45 : decode cX7_goDelete 45 = .ok (.iconst 0, 1) := by decide +kernel
theorem dX7_goDelete_46 : decode cX7_goDelete 46 = .ok (.dup2, 1) := by decide +kernel
theorem dX7_goDelete_47 : decode cX7_goDelete 47 = .ok (.iaload, 1) := by decide +kernel
theorem dX7_goDelete_48 : decode cX7_goDelete 48 = .ok (.iconst 1, 1) := by decide +kernel
theorem dX7_goDelete_49 : decode cX7_goDelete 49 = .ok (.isub, 1) := by decide +kernel
theorem dX7_goDelete_50 : decode cX7_goDelete 50 = .ok (.iastore, 1) := by decide +kernel
theorem dX7_goDelete_51 : decode cX7_goDelete 51 = .ok (.bipush 55, 2) := by decide +kernel
theorem dX7_goDelete_53 : decode cX7_goDelete 53 = .ok (.bipush 106, 2) := by decide +kernel
theorem dX7_goDelete_55 : decode cX7_goDelete 55 = .ok (.iload_n 3, 1) := by decide +kernel
theorem dX7_goDelete_56 : decode cX7_goDelete 56 = .ok (.imul, 1) := by decide +kernel
theorem dX7_goDelete_57 : decode cX7_goDelete 57 = .ok (.iadd, 1) := by decide +kernel
theorem dX7_goDelete_58 : decode cX7_goDelete 58 = .ok (.istore 4, 2) := by decide +kernel
theorem dX7_goDelete_60 : decode cX7_goDelete 60 = .ok (.iload 4, 2) := by decide +kernel
theorem dX7_goDelete_62 : decode cX7_goDelete 62 = .ok (.sipush 1115, 3) := by decide +kernel
theorem dX7_goDelete_65 : decode cX7_goDelete 65 = .ok (.if_icmp .ge 41, 3) := by decide +kernel
theorem dX7_goDelete_68 : decode cX7_goDelete 68 = .ok (.aload_n 0, 1) := by decide +kernel
theorem dX7_goDelete_69 : decode cX7_goDelete 69 = .ok (.getfield 7, 3) := by decide +kernel
theorem dX7_goDelete_72 : decode cX7_goDelete 72 = .ok (.iload 4, 2) := by decide +kernel
theorem dX7_goDelete_74 : decode cX7_goDelete 74 = .ok (.iload 4, 2) := by decide +kernel
theorem dX7_goDelete_76 : decode cX7_goDelete 76 = .ok (.bipush 106, 2) := by decide +kernel
theorem dX7_goDelete_78 : decode cX7_goDelete 78 = .ok (.iadd, 1) := by decide +kernel
theorem dX7_goDelete_79 : decode cX7_goDelete 79 = .ok (.sipush 1115, 3) := by decide +kernel
theorem dX7_goDelete_82 : decode cX7_goDelete 82 = .ok (.if_icmp .ge 16, 3) := by decide +kernel
theorem dX7_goDelete_85 : decode cX7_goDelete 85 = .ok (.aload_n 0, 1) := by decide +kernel
theorem dX7_goDelete_86 : decode cX7_goDelete 86 = .ok (.getfield 7, 3) := by decide +kernel
theorem dX7_goDelete_89 : decode cX7_goDelete 89 = .ok (.iload 4, 2) := by decide +kernel
theorem dX7_goDelete_91 : decode cX7_goDelete 91 = .ok (.bipush 106, 2) := by decide +kernel
theorem dX7_goDelete_93 : decode cX7_goDelete 93 = .ok (.iadd, 1) := by decide +kernel
theorem dX7_goDelete_94 : decode cX7_goDelete 94 = .ok (.iaload, 1) := by decide +kernel
theorem dX7_goDelete_95 : decode cX7_goDelete 95 = .ok (.goto 4, 3) := by decide +kernel
theorem dX7_goDelete_98 : decode cX7_goDelete 98 = .ok (.iconst 0, 1) := by decide +kernel
theorem dX7_goDelete_99 : decode cX7_goDelete 99 = .ok (.iastore, 1) := by decide +kernel
theorem dX7_goDelete_100 : decode cX7_goDelete 100 = .ok (.iinc 4 1, 3) := by decide +kernel
theorem dX7_goDelete_103 : decode cX7_goDelete 103 = .ok (.goto (-43), 3) := by decide +kernel
theorem dX7_goDelete_106 : decode cX7_goDelete 106 = .ok (.aload_n 0, 1) := by decide +kernel
theorem dX7_goDelete_107 : decode cX7_goDelete 107 = .ok (.getfield 7, 3) := by decide +kernel
theorem dX7_goDelete_110 : decode cX7_goDelete 110 = .ok (.iconst 0, 1) := by decide +kernel
theorem dX7_goDelete_111 : decode cX7_goDelete 111 = .ok (.iaload, 1) := by decide +kernel
theorem dX7_goDelete_112 : decode cX7_goDelete 112 = .ok (.ireturn, 1) := by decide +kernel
theorem dX7_goLock_0 : decode cX7_goLock 0 = .ok (.aload_n 0, 1) := by decide +kernel
theorem dX7_goLock_1 : decode cX7_goLock 1 = .ok (.iload_n 2, 1) := by decide +kernel
theorem dX7_goLock_2 : decode cX7_goLock 2 = .ok (.invokevirtual 86, 3) := by decide +kernel
theorem dX7_goLock_5 : decode cX7_goLock 5 = .ok (.istore_n 3, 1) := by decide +kernel
theorem dX7_goLock_6 : decode cX7_goLock 6 = .ok (.aload_n 0, 1) := by decide +kernel
theorem dX7_goLock_7 : decode cX7_goLock 7 = .ok (.iload_n 1, 1) := by decide +kernel
theorem dX7_goLock_8 : decode cX7_goLock 8 = .ok (.iload_n 2, 1) := by decide +kernel
theorem dX7_goLock_9 : decode cX7_goLock 9 = .ok (.invokevirtual 96, 3) := by decide +kernel
theorem dX7_goLock_12 : decode cX7_goLock 12 = .ok (.ifCond .lt 12, 3) := by decide +kernel
theorem dX7_goLock_15 : decode cX7_goLock 15 = .ok (.aload_n 0, 1) := by decide +kernel
theorem dX7_goLock_16 : decode cX7_goLock 16 = .ok (.iload_n 3, 1) := by decide +kernel
theorem dX7_goLock_17 : decode cX7_goLock 17 = .ok (.iload_n 1, 1) := by decide +kernel
theorem dX7_goLock_18 : decode cX7_goLock 18 = .ok (.invokevirtual 99, 3) := by decide +kernel
theorem dX7_goLock_21 : decode cX7_goLock 21 = .ok (.ifCond .eq 20, 3) := by decide +kernel
theorem dX7_goLock_24 : decode cX7_goLock 24 = .ok (.aload_n 0, 1) := by decide +kernel
theorem dX7_goLock_25 : decode cX7_goLock 25 = .ok (.iload_n 1, 1) := by decide +kernel
theorem dX7_goLock_26 : decode cX7_goLock 26 = .ok (.iload_n 2, 1) := by decide +kernel
theorem dX7_goLock_27 : decode cX7_goLock 27 = .ok (.invokevirtual 96, 3) := by decide +kernel
theorem dX7_goLock_30 : decode cX7_goLock 30 = .ok (.ifCond .ge 8, 3) := by decide +kernel
theorem dX7_goLock_33 : decode cX7_goLock 33 = .ok (.ldc 41, 2) := by decide +kernel
theorem dX7_goLock_35 : decode cX7_goLock 35 = .ok (.goto 5, 3) := by decide +kernel
theorem dX7_goLock_38 : decode cX7_goLock 38 = .ok (.ldc 103, 2) := by decide +kernel
theorem dX7_goLock_40 : decode cX7_goLock 40 = .ok (.ireturn, 1) := by decide +kernel
theorem dX7_goLock_41 : decode cX7_goLock 41 = .ok (.aload_n 0, 1) := by decide +kernel
theorem dX7_goLock_42 : decode cX7_goLock 42 = .ok (.iload_n 3, 1) := by decide +kernel
theorem dX7_goLock_43 : decode cX7_goLock 43 = .ok (.iconst 1, 1) := by decide +kernel
theorem dX7_goLock_44 : decode cX7_goLock 44 = .ok (.iload_n 1, 1) := by decide +kernel
theorem dX7_goLock_45 : decode cX7_goLock 45 = .ok (.iconst 1, 1) := by decide +kernel
theorem dX7_goLock_46 : decode cX7_goLock 46 = .ok (.iadd, 1) := by decide +kernel
theorem dX7_goLock_47 : decode cX7_goLock 47 = .ok (.invokevirtual 70, 3) := by decide +kernel
theorem dX7_goLock_50 : decode cX7_goLock 50 = .ok (.aload_n 0, 1) := by decide +kernel
theorem dX7_goLock_51 : decode cX7_goLock 51 = .ok (.iload_n 1, 1) := by decide +kernel
theorem dX7_goLock_52 : decode cX7_goLock 52 = .ok (.invokevirtual 104, 3) := by decide +kernel
theorem dX7_goLock_55 : decode cX7_goLock 55 = .ok (.ireturn, 1) := by decide +kernel
theorem dX7_goUnlock_0 : decode cX7_goUnlock 0 = .ok (.aload_n 0, 1) := by decide +kernel
theorem dX7_goUnlock_1 : decode cX7_goUnlock 1 = .ok (.iload_n 2, 1) := by decide +kernel
theorem dX7_goUnlock_2 : decode cX7_goUnlock 2 = .ok (.invokevirtual 86, 3) := by decide +kernel
theorem dX7_goUnlock_5 : decode cX7_goUnlock 5 = .ok (.istore_n 3, 1) := by decide +kernel
theorem dX7_goUnlock_6 : decode cX7_goUnlock 6 = .ok (.aload_n 0, 1) := by decide +kernel
theorem dX7_goUnlock_7 : decode cX7_goUnlock 7 = .ok (.iload_n 1, 1) := by decide +kernel
theorem dX7_goUnlock_8 : decode cX7_goUnlock 8 = .ok (.iload_n 2, 1) := by decide +kernel
theorem dX7_goUnlock_9 : decode cX7_goUnlock 9 = .ok (.invokevirtual 96, 3) := by decide +kernel
theorem dX7_goUnlock_12 : decode cX7_goUnlock 12 = .ok (.ifCond .lt 12, 3) := by decide +kernel
theorem dX7_goUnlock_15 : decode cX7_goUnlock 15 = .ok (.aload_n 0, 1) := by decide +kernel
theorem dX7_goUnlock_16 : decode cX7_goUnlock 16 = .ok (.iload_n 3, 1) := by decide +kernel
theorem dX7_goUnlock_17 : decode cX7_goUnlock 17 = .ok (.iload_n 1, 1) := by decide +kernel
theorem dX7_goUnlock_18 : decode cX7_goUnlock 18 = .ok (.invokevirtual 99, 3) := by decide +kernel
theorem dX7_goUnlock_21 : decode cX7_goUnlock 21 = .ok (.ifCond .eq 20, 3) := by decide +kernel
theorem dX7_goUnlock_24 : decode cX7_goUnlock 24 = .ok (.aload_n 0, 1) := by decide +kernel
theorem dX7_goUnlock_25 : decode cX7_goUnlock 25 = .ok (.iload_n 1, 1) := by decide +kernel
theorem dX7_goUnlock_26 : decode cX7_goUnlock 26 = .ok (.iload_n 2, 1) := by decide +kernel
theorem dX7_goUnlock_27 : decode cX7_goUnlock 27 = .ok (.invokevirtual 96, 3) := by decide +kernel
theorem dX7_goUnlock_30 : decode cX7_goUnlock 30 = .ok (.ifCond .ge 8, 3) := by decide +kernel
theorem dX7_goUnlock_33 : decode cX7_goUnlock 33 = .ok (.ldc 41, 2) := by decide +kernel
theorem dX7_goUnlock_35 : decode cX7_goUnlock 35 = .ok (.goto 5, 3) := by decide +kernel
theorem dX7_goUnlock_38 : decode cX7_goUnlock 38 = .ok (.ldc 103, 2) := by decide +kernel
theorem dX7_goUnlock_40 : decode cX7_goUnlock 40 = .ok (.ireturn, 1) := by decide +kernel
theorem dX7_goUnlock_41 : decode cX7_goUnlock 41 = .ok (.aload_n 0, 1) := by decide +kernel
theorem dX7_goUnlock_42 : decode cX7_goUnlock 42 = .ok (.iload_n 3, 1) := by decide +kernel
theorem dX7_goUnlock_43 : decode cX7_goUnlock 43 = .ok (.iconst 1, 1) := by decide +kernel
theorem dX7_goUnlock_44 : decode cX7_goUnlock 44 = .ok (.invokevirtual 46, 3) := by decide +kernel
theorem dX7_goUnlock_47 : decode cX7_goUnlock 47 = .ok (.ifCond .ne 6, 3) := by decide +kernel
theorem dX7_goUnlock_50 : decode cX7_goUnlock 50 = .ok (.ldc 90, 2) := by decide +kernel
theorem dX7_goUnlock_52 : decode cX7_goUnlock 52 = .ok (.ireturn, 1) := by decide +kernel
theorem dX7_goUnlock_53 : decode cX7_goUnlock 53 = .ok (.aload_n 0, 1) := by decide +kernel
theorem dX7_goUnlock_54 : decode cX7_goUnlock 54 = .ok (.iload_n 3, 1) := by decide +kernel
theorem dX7_goUnlock_55 : decode cX7_goUnlock 55 = .ok (.iconst 1, 1) := by decide +kernel
theorem dX7_goUnlock_56 : decode cX7_goUnlock 56 = .ok (.iconst 0, 1) := by decide +kernel
theorem dX7_goUnlock_57 : decode cX7_goUnlock 57 = .ok (.invokevirtual 70, 3) := by decide +kernel
theorem dX7_goUnlock_60 : decode cX7_goUnlock 60 = .ok (.aload_n 0, 1) := by decide +kernel
theorem dX7_goUnlock_61 : decode cX7_goUnlock 61 = .ok (.iload_n 1, 1) := by decide +kernel
theorem dX7_goUnlock_62 : decode cX7_goUnlock 62 = .ok (.invokevirtual 104, 3) := by decide +kernel
theorem dX7_goUnlock_65 : decode cX7_goUnlock 65 = .ok (.ireturn, 1) := by decide +kernel
theorem dX7_goInsert_0 : decode cX7_goInsert 0 = .ok (.aload_n 0, 1) := by decide +kernel
theorem dX7_goInsert_1 : decode cX7_goInsert 1 = .ok (.iload_n 1, 1) := by decide +kernel
theorem dX7_goInsert_2 : decode cX7_goInsert 2 = .ok (.iload_n 2, 1) := by decide +kernel
theorem dX7_goInsert_3 : decode cX7_goInsert 3 = .ok (.invokevirtual 61, 3) := by decide +kernel
theorem dX7_goInsert_6 : decode cX7_goInsert 6 = .ok (.istore 6, 2) := by decide +kernel
theorem dX7_goInsert_8 : decode cX7_goInsert 8 = .ok (.iload 4, 2) := by decide +kernel
theorem dX7_goInsert_10 : decode cX7_goInsert 10 = .ok (.ifCond .ge 88, 3) := by decide +kernel
theorem dX7_goInsert_13 : decode cX7_goInsert 13 = .ok (.iload 6, 2) := by decide +kernel
theorem dX7_goInsert_15 : decode cX7_goInsert 15 = .ok (.iconst 5, 1) := by decide +kernel
theorem dX7_goInsert_16 : decode cX7_goInsert 16 = .ok (.if_icmp .ne 6, 3) := by decide +kernel
theorem dX7_goInsert_19 : decode cX7_goInsert 19 = .ok (.ldc 91, 2) := by decide +kernel
theorem dX7_goInsert_21 : decode cX7_goInsert 21 = .ok (.ireturn, 1) := by decide +kernel
theorem dX7_goInsert_22 : decode cX7_goInsert 22 = .ok (.iload 6, 2) := by decide +kernel
theorem dX7_goInsert_24 : decode cX7_goInsert 24 = .ok (.istore 7, 2) := by decide +kernel
theorem dX7_goInsert_26 : decode cX7_goInsert 26 = .ok (.iload 7, 2) := by decide +kernel
theorem dX7_goInsert_28 : decode cX7_goInsert 28 = .ok (.iload_n 3, 1) := by decide +kernel
theorem dX7_goInsert_29 : decode cX7_goInsert 29 = .ok (.if_icmp .le 21, 3) := by decide +kernel
theorem dX7_goInsert_32 : decode cX7_goInsert 32 = .ok (.aload_n 0, 1) := by decide +kernel
theorem dX7_goInsert_33 : decode cX7_goInsert 33 = .ok (.iload_n 1, 1) := by decide +kernel
theorem dX7_goInsert_34 : decode cX7_goInsert 34 = .ok (.iload_n 2, 1) := by decide +kernel
theorem dX7_goInsert_35 : decode cX7_goInsert 35 = .ok (.iload 7, 2) := by decide +kernel
theorem dX7_goInsert_37 : decode cX7_goInsert 37 = .ok (.iconst 1, 1) := by decide +kernel
theorem dX7_goInsert_38 : decode cX7_goInsert 38 = .ok (.isub, 1) := by decide +kernel
theorem dX7_goInsert_39 : decode cX7_goInsert 39 = .ok (.iload 7, 2) := by decide +kernel
theorem dX7_goInsert_41 : decode cX7_goInsert 41 = .ok (.invokevirtual 78, 3) := by decide +kernel
theorem dX7_goInsert_44 : decode cX7_goInsert 44 = .ok (.iinc 7 (-1), 3) := by decide +kernel
theorem dX7_goInsert_47 : decode cX7_goInsert 47 = .ok (.goto (-21), 3) := by decide +kernel
theorem dX7_goInsert_50 : decode cX7_goInsert 50 = .ok (.aload_n 0, 1) := by decide +kernel
theorem dX7_goInsert_51 : decode cX7_goInsert 51 = .ok (.iload_n 1, 1) := by decide +kernel
theorem dX7_goInsert_52 : decode cX7_goInsert 52 = .ok (.iload_n 2, 1) := by decide +kernel
theorem dX7_goInsert_53 : decode cX7_goInsert 53 = .ok (.iload_n 3, 1) := by decide +kernel
theorem dX7_goInsert_54 : decode cX7_goInsert 54 = .ok (.invokevirtual 82, 3) := by decide +kernel
theorem dX7_goInsert_57 : decode cX7_goInsert 57 = .ok (.aload_n 0, 1) := by decide +kernel
theorem dX7_goInsert_58 : decode cX7_goInsert 58 = .ok (.iload_n 1, 1) := by decide +kernel
theorem dX7_goInsert_59 : decode cX7_goInsert 59 = .ok (.iload_n 2, 1) := by decide +kernel
theorem dX7_goInsert_60 : decode cX7_goInsert 60 = .ok (.iload_n 3, 1) := by decide +kernel
theorem dX7_goInsert_61 : decode cX7_goInsert 61 = .ok (.invokestatic 54, 3) := by decide +kernel
theorem dX7_goInsert_64 : decode cX7_goInsert 64 = .ok (.iconst 1, 1) := by decide +kernel
theorem dX7_goInsert_65 : decode cX7_goInsert 65 = .ok (.invokevirtual 70, 3) := by decide +kernel
theorem dX7_goInsert_68 : decode cX7_goInsert 68 = .ok (.aload_n 0, 1) := by decide +kernel
theorem dX7_goInsert_69 : decode cX7_goInsert 69 = .ok (.iload_n 1, 1) := by decide +kernel
theorem dX7_goInsert_70 : decode cX7_goInsert 70 = .ok (.iload_n 2, 1) := by decide +kernel
theorem dX7_goInsert_71 : decode cX7_goInsert 71 = .ok (.iload_n 3, 1) := by decide +kernel
theorem dX7_goInsert_72 : decode cX7_goInsert 72 = .ok (.iconst 0, 1) := by decide +kernel
theorem dX7_goInsert_73 : decode cX7_goInsert 73 = .ok (.invokestatic 57, 3) := by decide +kernel
theorem dX7_goInsert_76 : decode cX7_goInsert 76 = .ok (.iload 5, 2) := by decide +kernel
theorem dX7_goInsert_78 : decode cX7_goInsert 78 = .ok (.invokevirtual 70, 3) := by decide +kernel
theorem dX7_goInsert_81 : decode cX7_goInsert 81 = .ok (.aload_n 0, 1) := by decide +kernel
