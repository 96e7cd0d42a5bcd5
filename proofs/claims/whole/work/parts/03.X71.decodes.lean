theorem dX7_goInsert_82 : decode cX7_goInsert 82 = .ok (.iload_n 1, 1) := by decide +kernel
theorem dX7_goInsert_83 : decode cX7_goInsert 83 = .ok (.iconst 2, 1) := by decide +kernel
theorem dX7_goInsert_84 : decode cX7_goInsert 84 = .ok (.iload_n 2, 1) := by decide +kernel
theorem dX7_goInsert_85 : decode cX7_goInsert 85 = .ok (.iadd, 1) := by decide +kernel
theorem dX7_goInsert_86 : decode cX7_goInsert 86 = .ok (.iload 6, 2) := by decide +kernel
theorem dX7_goInsert_88 : decode cX7_goInsert 88 = .ok (.iconst 1, 1) := by decide +kernel
theorem dX7_goInsert_89 : decode cX7_goInsert 89 = .ok (.iadd, 1) := by decide +kernel
theorem dX7_goInsert_90 : decode cX7_goInsert 90 = .ok (.invokevirtual 70, 3) := by decide +kernel
theorem dX7_goInsert_93 : decode cX7_goInsert 93 = .ok (.iload 6, 2) := by decide +kernel
theorem dX7_goInsert_95 : decode cX7_goInsert 95 = .ok (.iconst 1, 1) := by decide +kernel
theorem dX7_goInsert_96 : decode cX7_goInsert 96 = .ok (.iadd, 1) := by decide +kernel
theorem dX7_goInsert_97 : decode cX7_goInsert 97 = .ok (.ireturn, 1) := by decide +kernel
theorem dX7_goInsert_98 : decode cX7_goInsert 98 = .ok (.aload_n 0, 1) := by decide +kernel
theorem dX7_goInsert_99 : decode cX7_goInsert 99 = .ok (.iload_n 1, 1) := by decide +kernel
theorem dX7_goInsert_100 : decode cX7_goInsert 100 = .ok (.iload_n 2, 1) := by decide +kernel
theorem dX7_goInsert_101 : decode cX7_goInsert 101 = .ok (.iload_n 3, 1) := by decide +kernel
theorem dX7_goInsert_102 : decode cX7_goInsert 102 = .ok (.invokevirtual 67, 3) := by decide +kernel
theorem dX7_goInsert_105 : decode cX7_goInsert 105 = .ok (.istore 7, 2) := by decide +kernel
theorem dX7_goInsert_107 : decode cX7_goInsert 107 = .ok (.iload 7, 2) := by decide +kernel
theorem dX7_goInsert_109 : decode cX7_goInsert 109 = .ok (.iconst 4, 1) := by decide +kernel
theorem dX7_goInsert_110 : decode cX7_goInsert 110 = .ok (.if_icmp .ne 6, 3) := by decide +kernel
theorem dX7_goInsert_113 : decode cX7_goInsert 113 = .ok (.ldc 91, 2) := by decide +kernel
theorem dX7_goInsert_115 : decode cX7_goInsert 115 = .ok (.ireturn, 1) := by decide +kernel
theorem dX7_goInsert_116 : decode cX7_goInsert 116 = .ok (.iload 7, 2) := by decide +kernel
theorem dX7_goInsert_118 : decode cX7_goInsert 118 = .ok (.istore 8, 2) := by decide +kernel
theorem dX7_goInsert_120 : decode cX7_goInsert 120 = .ok (.iload 8, 2) := by decide +kernel
theorem dX7_goInsert_122 : decode cX7_goInsert 122 = .ok (.iload 4, 2) := by decide +kernel
theorem dX7_goInsert_124 : decode cX7_goInsert 124 = .ok (.if_icmp .le 32, 3) := by decide +kernel
theorem dX7_goInsert_127 : decode cX7_goInsert 127 = .ok (.aload_n 0, 1) := by decide +kernel
theorem dX7_goInsert_128 : decode cX7_goInsert 128 = .ok (.iload_n 1, 1) := by decide +kernel
theorem dX7_goInsert_129 : decode cX7_goInsert 129 = .ok (.iload_n 2, 1) := by decide +kernel
theorem dX7_goInsert_130 : decode cX7_goInsert 130 = .ok (.iload_n 3, 1) := by decide +kernel
theorem dX7_goInsert_131 : decode cX7_goInsert 131 = .ok (.iload 8, 2) := by decide +kernel
theorem dX7_goInsert_133 : decode cX7_goInsert 133 = .ok (.invokestatic 57, 3) := by decide +kernel
theorem dX7_goInsert_136 : decode cX7_goInsert 136 = .ok (.aload_n 0, 1) := by decide +kernel
theorem dX7_goInsert_137 : decode cX7_goInsert 137 = .ok (.iload_n 1, 1) := by decide +kernel
theorem dX7_goInsert_138 : decode cX7_goInsert 138 = .ok (.iload_n 2, 1) := by decide +kernel
theorem dX7_goInsert_139 : decode cX7_goInsert 139 = .ok (.iload_n 3, 1) := by decide +kernel
theorem dX7_goInsert_140 : decode cX7_goInsert 140 = .ok (.iload 8, 2) := by decide +kernel
theorem dX7_goInsert_142 : decode cX7_goInsert 142 = .ok (.iconst 1, 1) := by decide +kernel
theorem dX7_goInsert_143 : decode cX7_goInsert 143 = .ok (.isub, 1) := by decide +kernel
theorem dX7_goInsert_144 : decode cX7_goInsert 144 = .ok (.invokevirtual 74, 3) := by decide +kernel
theorem dX7_goInsert_147 : decode cX7_goInsert 147 = .ok (.invokevirtual 70, 3) := by decide +kernel
theorem dX7_goInsert_150 : decode cX7_goInsert 150 = .ok (.iinc 8 (-1), 3) := by decide +kernel
theorem dX7_goInsert_153 : decode cX7_goInsert 153 = .ok (.goto (-33), 3) := by decide +kernel
theorem dX7_goInsert_156 : decode cX7_goInsert 156 = .ok (.aload_n 0, 1) := by decide +kernel
theorem dX7_goInsert_157 : decode cX7_goInsert 157 = .ok (.iload_n 1, 1) := by decide +kernel
theorem dX7_goInsert_158 : decode cX7_goInsert 158 = .ok (.iload_n 2, 1) := by decide +kernel
theorem dX7_goInsert_159 : decode cX7_goInsert 159 = .ok (.iload_n 3, 1) := by decide +kernel
theorem dX7_goInsert_160 : decode cX7_goInsert 160 = .ok (.iload 4, 2) := by decide +kernel
theorem dX7_goInsert_162 : decode cX7_goInsert 162 = .ok (.invokestatic 57, 3) := by decide +kernel
theorem dX7_goInsert_165 : decode cX7_goInsert 165 = .ok (.iload 5, 2) := by decide +kernel
theorem dX7_goInsert_167 : decode cX7_goInsert 167 = .ok (.invokevirtual 70, 3) := by decide +kernel
theorem dX7_goInsert_170 : decode cX7_goInsert 170 = .ok (.aload_n 0, 1) := by decide +kernel
theorem dX7_goInsert_171 : decode cX7_goInsert 171 = .ok (.iload_n 1, 1) := by decide +kernel
theorem dX7_goInsert_172 : decode cX7_goInsert 172 = .ok (.iload_n 2, 1) := by decide +kernel
theorem dX7_goInsert_173 : decode cX7_goInsert 173 = .ok (.iload_n 3, 1) := by decide +kernel
theorem dX7_goInsert_174 : decode cX7_goInsert 174 = .ok (.invokestatic 54, 3) := by decide +kernel
theorem dX7_goInsert_177 : decode cX7_goInsert 177 = .ok (.iload 7, 2) := by decide +kernel
theorem dX7_goInsert_179 : decode cX7_goInsert 179 = .ok (.iconst 1, 1) := by decide +kernel
theorem dX7_goInsert_180 : decode cX7_goInsert 180 = .ok (.iadd, 1) := by decide +kernel
theorem dX7_goInsert_181 : decode cX7_goInsert 181 = .ok (.invokevirtual 70, 3) := by decide +kernel
theorem dX7_goInsert_184 : decode cX7_goInsert 184 = .ok (.iload 7, 2) := by decide +kernel
theorem dX7_goInsert_186 : decode cX7_goInsert 186 = .ok (.iconst 1, 1) := by decide +kernel
theorem dX7_goInsert_187 : decode cX7_goInsert 187 = .ok (.iadd, 1) := by decide +kernel
theorem dX7_goInsert_188 : decode cX7_goInsert 188 = .ok (.ireturn, 1) := by decide +kernel
theorem dX7_goRemove_0 : decode cX7_goRemove 0 = .ok (.aload_n 0, 1) := by decide +kernel
theorem dX7_goRemove_1 : decode cX7_goRemove 1 = .ok (.iload_n 1, 1) := by decide +kernel
theorem dX7_goRemove_2 : decode cX7_goRemove 2 = .ok (.iload_n 2, 1) := by decide +kernel
theorem dX7_goRemove_3 : decode cX7_goRemove 3 = .ok (.iload_n 3, 1) := by decide +kernel
theorem dX7_goRemove_4 : decode cX7_goRemove 4 = .ok (.invokevirtual 67, 3) := by decide +kernel
theorem dX7_goRemove_7 : decode cX7_goRemove 7 = .ok (.istore 5, 2) := by decide +kernel
theorem dX7_goRemove_9 : decode cX7_goRemove 9 = .ok (.iload 4, 2) := by decide +kernel
theorem dX7_goRemove_11 : decode cX7_goRemove 11 = .ok (.ifCond .lt 9, 3) := by decide +kernel
theorem dX7_goRemove_14 : decode cX7_goRemove 14 = .ok (.iload 5, 2) := by decide +kernel
theorem dX7_goRemove_16 : decode cX7_goRemove 16 = .ok (.iconst 1, 1) := by decide +kernel
theorem dX7_goRemove_17 : decode cX7_goRemove 17 = .ok (.if_icmp .ne 17, 3) := by decide +kernel
theorem dX7_goRemove_20 : decode cX7_goRemove 20 = .ok (.aload_n 0, 1) := by decide +kernel
theorem dX7_goRemove_21 : decode cX7_goRemove 21 = .ok (.iload_n 1, 1) := by decide +kernel
theorem dX7_goRemove_22 : decode cX7_goRemove 22 = .ok (.iload_n 2, 1) := by decide +kernel
theorem dX7_goRemove_23 : decode cX7_goRemove 23 = .ok (.iload_n 3, 1) := by decide +kernel
theorem dX7_goRemove_24 : decode cX7_goRemove 24 = .ok (.invokevirtual 107, 3) := by decide +kernel
theorem dX7_goRemove_27 : decode cX7_goRemove 27 = .ok (.aload_n 0, 1) := by decide +kernel
theorem dX7_goRemove_28 : decode cX7_goRemove 28 = .ok (.iload_n 1, 1) := by decide +kernel
theorem dX7_goRemove_29 : decode cX7_goRemove 29 = .ok (.iload_n 2, 1) := by decide +kernel
theorem dX7_goRemove_30 : decode cX7_goRemove 30 = .ok (.invokevirtual 61, 3) := by decide +kernel
theorem dX7_goRemove_33 : decode cX7_goRemove 33 = .ok (.ireturn, 1) := by decide +kernel
theorem dX7_goRemove_34 : decode cX7_goRemove 34 = .ok (.iload 4, 2) := by decide +kernel
theorem dX7_goRemove_36 : decode cX7_goRemove 36 = .ok (.istore 6, 2) := by decide +kernel
theorem dX7_goRemove_38 : decode cX7_goRemove 38 = .ok (.iload 6, 2) := by decide +kernel
theorem dX7_goRemove_40 : decode cX7_goRemove 40 = .ok (.iconst 4, 1) := by decide +kernel
theorem dX7_goRemove_41 : decode cX7_goRemove 41 = .ok (.if_icmp .ge 45, 3) := by decide +kernel
theorem dX7_goRemove_44 : decode cX7_goRemove 44 = .ok (.aload_n 0, 1) := by decide +kernel
theorem dX7_goRemove_45 : decode cX7_goRemove 45 = .ok (.iload_n 1, 1) := by decide +kernel
theorem dX7_goRemove_46 : decode cX7_goRemove 46 = .ok (.iload_n 2, 1) := by decide +kernel
theorem dX7_goRemove_47 : decode cX7_goRemove 47 = .ok (.iload_n 3, 1) := by decide +kernel
theorem dX7_goRemove_48 : decode cX7_goRemove 48 = .ok (.iload 6, 2) := by decide +kernel
theorem dX7_goRemove_50 : decode cX7_goRemove 50 = .ok (.invokestatic 57, 3) := by decide +kernel
theorem dX7_goRemove_53 : decode cX7_goRemove 53 = .ok (.iload 6, 2) := by decide +kernel
theorem dX7_goRemove_55 : decode cX7_goRemove 55 = .ok (.iconst 1, 1) := by decide +kernel
theorem dX7_goRemove_56 : decode cX7_goRemove 56 = .ok (.iadd, 1) := by decide +kernel
theorem dX7_goRemove_57 : decode cX7_goRemove 57 = .ok (.iload 5, 2) := by decide +kernel
theorem dX7_goRemove_59 : decode cX7_goRemove 59 = .ok (.if_icmp .ge 17, 3) := by decide +kernel
theorem dX7_goRemove_62 : decode cX7_goRemove 62 = .ok (.aload_n 0, 1) := by decide +kernel
theorem dX7_goRemove_63 : decode cX7_goRemove 63 = .ok (.iload_n 1, 1) := by decide +kernel
theorem dX7_goRemove_64 : decode cX7_goRemove 64 = .ok (.iload_n 2, 1) := by decide +kernel
theorem dX7_goRemove_65 : decode cX7_goRemove 65 = .ok (.iload_n 3, 1) := by decide +kernel
theorem dX7_goRemove_66 : decode cX7_goRemove 66 = .ok (.iload 6, 2) := by decide +kernel
theorem dX7_goRemove_68 : decode cX7_goRemove 68 = .ok (.iconst 1, 1) := by decide +kernel
theorem dX7_goRemove_69 : decode cX7_goRemove 69 = .ok (.iadd, 1) := by decide +kernel
theorem dX7_goRemove_70 : decode cX7_goRemove 70 = .ok (.invokevirtual 74, 3) := by decide +kernel
theorem dX7_goRemove_73 : decode cX7_goRemove 73 = .ok (.goto 4, 3) := by decide +kernel
theorem dX7_goRemove_76 : decode cX7_goRemove 76 = .ok (.iconst 0, 1) := by decide +kernel
theorem dX7_goRemove_77 : decode cX7_goRemove 77 = .ok (.invokevirtual 70, 3) := by decide +kernel
theorem dX7_goRemove_80 : decode cX7_goRemove 80 = .ok (.iinc 6 1, 3) := by decide +kernel
theorem dX7_goRemove_83 : decode cX7_goRemove 83 = .ok (.goto (-45), 3) := by decide +kernel
theorem dX7_goRemove_86 : decode cX7_goRemove 86 = .ok (.aload_n 0, 1) := by decide +kernel
theorem dX7_goRemove_87 : decode cX7_goRemove 87 = .ok (.iload_n 1, 1) := by decide +kernel
theorem dX7_goRemove_88 : decode cX7_goRemove 88 = .ok (.iload_n 2, 1) := by decide +kernel
theorem dX7_goRemove_89 : decode cX7_goRemove 89 = .ok (.iload_n 3, 1) := by decide +kernel
theorem dX7_goRemove_90 : decode cX7_goRemove 90 = .ok (.invokestatic 54, 3) := by decide +kernel
theorem dX7_goRemove_93 : decode cX7_goRemove 93 = .ok (.iload 5, 2) := by decide +kernel
theorem dX7_goRemove_95 : decode cX7_goRemove 95 = .ok (.iconst 1, 1) := by decide +kernel
theorem dX7_goRemove_96 : decode cX7_goRemove 96 = .ok (.isub, 1) := by decide +kernel
theorem dX7_goRemove_97 : decode cX7_goRemove 97 = .ok (.invokevirtual 70, 3) := by decide +kernel
theorem dX7_goRemove_100 : decode cX7_goRemove 100 = .ok (.aload_n 0, 1) := by decide +kernel
theorem dX7_goRemove_101 : decode cX7_goRemove 101 = .ok (.iload_n 1, 1) := by decide +kernel
theorem dX7_goRemove_102 : decode cX7_goRemove 102 = .ok (.iload_n 2, 1) := by decide +kernel
theorem dX7_goRemove_103 : decode cX7_goRemove 103 = .ok (.invokevirtual 61, 3) := by decide +kernel
theorem dX7_goRemove_106 : decode cX7_goRemove 106 = .ok (.ireturn, 1) := by decide +kernel
theorem dX7_inLine_0 : decode cX7_inLine 0 = .ok (.iconst 0, 1) := by decide +kernel
theorem dX7_inLine_1 : decode cX7_inLine 1 = .ok (.istore_n 3, 1) := by decide +kernel
theorem dX7_inLine_2 : decode cX7_inLine 2 = .ok (.iconst 0, 1) := by decide +kernel
theorem dX7_inLine_3 : decode cX7_inLine 3 = .ok (.istore 4, 2) := by decide +kernel
theorem dX7_inLine_5 : decode cX7_inLine 5 = .ok (.iload 4, 2) := by decide +kernel
theorem dX7_inLine_7 : decode cX7_inLine 7 = .ok (.iconst 4, 1) := by decide +kernel
theorem dX7_inLine_8 : decode cX7_inLine 8 = .ok (.if_icmp .ge 41, 3) := by decide +kernel
theorem dX7_inLine_11 : decode cX7_inLine 11 = .ok (.iload_n 3, 1) := by decide +kernel
theorem dX7_inLine_12 : decode cX7_inLine 12 = .ok (.aload_n 0, 1) := by decide +kernel
theorem dX7_inLine_13 : decode cX7_inLine 13 = .ok (.getfield 7, 3) := by decide +kernel
theorem dX7_inLine_16 : decode cX7_inLine 16 = .ok (.iconst 1, 1) := by decide +kernel
theorem dX7_inLine_17 : decode cX7_inLine 17 = .ok (.iload 4, 2) := by decide +kernel
theorem dX7_inLine_19 : decode cX7_inLine 19 = .ok (.iadd, 1) := by decide +kernel
theorem dX7_inLine_20 : decode cX7_inLine 20 = .ok (.iaload, 1) := by decide +kernel
theorem dX7_inLine_21 : decode cX7_inLine 21 = .ok (.iconst 1, 1) := by decide +kernel
theorem dX7_inLine_22 : decode cX7_inLine 22 = .ok (.if_icmp .ne 18, 3) := by decide +kernel
theorem dX7_inLine_25 : decode cX7_inLine 25 = .ok (.aload_n 0, 1) := by decide +kernel
theorem dX7_inLine_26 : decode cX7_inLine 26 = .ok (.iload_n 1, 1) := by decide +kernel
theorem dX7_inLine_27 : decode cX7_inLine 27 = .ok (.iload 4, 2) := by decide +kernel
theorem dX7_inLine_29 : decode cX7_inLine 29 = .ok (.iload_n 2, 1) := by decide +kernel
theorem dX7_inLine_30 : decode cX7_inLine 30 = .ok (.invokevirtual 64, 3) := by decide +kernel
theorem dX7_inLine_33 : decode cX7_inLine 33 = .ok (.ifCond .eq 7, 3) := by decide +kernel
theorem dX7_inLine_36 : decode cX7_inLine 36 = .ok (.iconst 1, 1) := by decide +kernel
theorem dX7_inLine_37 : decode cX7_inLine 37 = .ok (.goto 4, 3) := by decide +kernel
theorem dX7_inLine_40 : decode cX7_inLine 40 = .ok (.iconst 0, 1) := by decide +kernel
theorem dX7_inLine_41 : decode cX7_inLine 41 = .ok (.iadd, 1) := by decide +kernel
theorem dX7_inLine_42 : decode cX7_inLine 42 = .ok (.istore_n 3, 1) := by decide +kernel
theorem dX7_inLine_43 : decode cX7_inLine 43 = .ok (.iinc 4 1, 3) := by decide +kernel
theorem dX7_inLine_46 : decode cX7_inLine 46 = .ok (.goto (-41), 3) := by decide +kernel
theorem dX7_inLine_49 : decode cX7_inLine 49 = .ok (.iload_n 3, 1) := by decide +kernel
theorem dX7_inLine_50 : decode cX7_inLine 50 = .ok (.ireturn, 1) := by decide +kernel
theorem dX7_create_0 : decode cX7_create 0 = .ok (.aload_n 0, 1) := by decide +kernel
theorem dX7_create_1 : decode cX7_create 1 = .ok (.invokevirtual 110, 3) := by decide +kernel
theorem dX7_create_4 : decode cX7_create 4 = .ok (.aload_n 0, 1) := by decide +kernel
theorem dX7_create_5 : decode cX7_create 5 = .ok (.aload_n 0, 1) := by decide +kernel
theorem dX7_create_6 : decode cX7_create 6 = .ok (.iload_n 1, 1) := by decide +kernel
theorem dX7_create_7 : decode cX7_create 7 = .ok (.invokevirtual 113, 3) := by decide +kernel
theorem dX7_create_10 : decode cX7_create 10 = .ok (.invokevirtual 116, 3) := by decide +kernel
theorem dX7_create_13 : decode cX7_create 13 = .ok (.ireturn, 1) := by decide +kernel
theorem dX7_delete_0 : decode cX7_delete 0 = .ok (.aload_n 0, 1) := by decide +kernel
theorem dX7_delete_1 : decode cX7_delete 1 = .ok (.invokevirtual 110, 3) := by decide +kernel
theorem dX7_delete_4 : decode cX7_delete 4 = .ok (.aload_n 0, 1) := by decide +kernel
theorem dX7_delete_5 : decode cX7_delete 5 = .ok (.aload_n 0, 1) := by decide +kernel
theorem dX7_delete_6 : decode cX7_delete 6 = .ok (.iload_n 1, 1) := by decide +kernel
theorem dX7_delete_7 : decode cX7_delete 7 = .ok (.iload_n 2, 1) := by decide +kernel
theorem dX7_delete_8 : decode cX7_delete 8 = .ok (.invokevirtual 119, 3) := by decide +kernel
theorem dX7_delete_11 : decode cX7_delete 11 = .ok (.invokevirtual 116, 3) := by decide +kernel
theorem dX7_delete_14 : decode cX7_delete 14 = .ok (.ireturn, 1) := by decide +kernel
theorem dX7_lock_0 : decode cX7_lock 0 = .ok (.aload_n 0, 1) := by decide +kernel
theorem dX7_lock_1 : decode cX7_lock 1 = .ok (.invokevirtual 110, 3) := by decide +kernel
theorem dX7_lock_4 : decode cX7_lock 4 = .ok (.aload_n 0, 1) := by decide +kernel
theorem dX7_lock_5 : decode cX7_lock 5 = .ok (.aload_n 0, 1) := by decide +kernel
theorem dX7_lock_6 : decode cX7_lock 6 = .ok (.iload_n 1, 1) := by decide +kernel
theorem dX7_lock_7 : decode cX7_lock 7 = .ok (.iload_n 2, 1) := by decide +kernel
theorem dX7_lock_8 : decode cX7_lock 8 = .ok (.invokevirtual 122, 3) := by decide +kernel
theorem dX7_lock_11 : decode cX7_lock 11 = .ok (.invokevirtual 116, 3) := by decide +kernel
theorem dX7_lock_14 : decode cX7_lock 14 = .ok (.ireturn, 1) := by decide +kernel
theorem dX7_unlock_0 : decode cX7_unlock 0 = .ok (.aload_n 0, 1) := by decide +kernel
theorem dX7_unlock_1 : decode cX7_unlock 1 = .ok (.invokevirtual 110, 3) := by decide +kernel
theorem dX7_unlock_4 : decode cX7_unlock 4 = .ok (.aload_n 0, 1) := by decide +kernel
theorem dX7_unlock_5 : decode cX7_unlock 5 = .ok (.aload_n 0, 1) := by decide +kernel
theorem dX7_unlock_6 : decode cX7_unlock 6 = .ok (.iload_n 1, 1) := by decide +kernel
theorem dX7_unlock_7 : decode cX7_unlock 7 = .ok (.iload_n 2, 1) := by decide +kernel
theorem dX7_unlock_8 : decode cX7_unlock 8 = .ok (.invokevirtual 125, 3) := by decide +kernel
theorem dX7_unlock_11 : decode cX7_unlock 11 = .ok (.invokevirtual 116, 3) := by decide +kernel
theorem dX7_unlock_14 : decode cX7_unlock 14 = .ok (.ireturn, 1) := by decide +kernel
theorem dX7_insert_0 : decode cX7_insert 0 = .ok (.aload_n 0, 1) := by decide +kernel
theorem dX7_insert_1 : decode cX7_insert 1 = .ok (.iload_n 2, 1) := by decide +kernel
theorem dX7_insert_2 : decode cX7_insert 2 = .ok (.invokevirtual 86, 3) := by decide +kernel
theorem dX7_insert_5 : decode cX7_insert 5 = .ok (.istore 7, 2) := by decide +kernel
theorem dX7_insert_7 : decode cX7_insert 7 = .ok (.aload_n 0, 1) := by decide +kernel
theorem dX7_insert_8 : decode cX7_insert 8 = .ok (.iload_n 1, 1) := by decide +kernel
theorem dX7_insert_9 : decode cX7_insert 9 = .ok (.iload_n 2, 1) := by decide +kernel
theorem dX7_insert_10 : decode cX7_insert 10 = .ok (.invokevirtual 96, 3) := by decide +kernel
theorem dX7_insert_13 : decode cX7_insert 13 = .ok (.ifCond .lt 10, 3) := by decide +kernel
theorem dX7_insert_16 : decode cX7_insert 16 = .ok (.iload_n 3, 1) := by decide +kernel
theorem dX7_insert_17 : decode cX7_insert 17 = .ok (.invokestatic 128, 3) := by decide +kernel
theorem dX7_insert_20 : decode cX7_insert 20 = .ok (.ifCond .ne 6, 3) := by decide +kernel
theorem dX7_insert_23 : decode cX7_insert 23 = .ok (.ldc 41, 2) := by decide +kernel
theorem dX7_insert_25 : decode cX7_insert 25 = .ok (.ireturn, 1) := by decide +kernel
theorem dX7_insert_26 : decode cX7_insert 26 = .ok (.iload 5, 2) := by decide +kernel
theorem dX7_insert_28 : decode cX7_insert 28 = .ok (.iconst (-1), 1) := by decide +kernel
theorem dX7_insert_29 : decode cX7_insert 29 = .ok (.if_icmp .ne 19, 3) := by decide +kernel
theorem dX7_insert_32 : decode cX7_insert 32 = .ok (.iload 4, 2) := by decide +kernel
theorem dX7_insert_34 : decode cX7_insert 34 = .ok (.iconst 0, 1) := by decide +kernel
theorem dX7_insert_35 : decode cX7_insert 35 = .ok (.aload_n 0, 1) := by decide +kernel
theorem dX7_insert_36 : decode cX7_insert 36 = .ok (.iload 7, 2) := by decide +kernel
theorem dX7_insert_38 : decode cX7_insert 38 = .ok (.iload_n 3, 1) := by decide +kernel
theorem dX7_insert_39 : decode cX7_insert 39 = .ok (.invokevirtual 61, 3) := by decide +kernel
theorem dX7_insert_42 : decode cX7_insert 42 = .ok (.invokestatic 50, 3) := by decide +kernel
theorem dX7_insert_45 : decode cX7_insert 45 = .ok (.goto 38, 3) := by decide +kernel
theorem dX7_insert_48 : decode cX7_insert 48 = .ok (.aload_n 0, 1) := by decide +kernel
theorem dX7_insert_49 : decode cX7_insert 49 = .ok (.iload 7, 2) := by decide +kernel
theorem dX7_insert_51 : decode cX7_insert 51 = .ok (.iload_n 3, 1) := by decide +kernel
theorem dX7_insert_52 : decode cX7_insert 52 = .ok (.iload 4, 2) := by decide +kernel
theorem dX7_insert_54 : decode cX7_insert 54 = .ok (.invokevirtual 64, 3) := by decide +kernel
theorem dX7_insert_57 : decode cX7_insert 57 = .ok (.ifCond .eq 25, 3) := by decide +kernel
theorem dX7_insert_60 : decode cX7_insert 60 = .ok (.iload 5, 2) := by decide +kernel
theorem dX7_insert_62 : decode cX7_insert 62 = .ok (.iconst 0, 1) := by decide +kernel
theorem dX7_insert_63 : decode cX7_insert 63 = .ok (.aload_n 0, 1) := by decide +kernel
theorem dX7_insert_64 : decode cX7_insert 64 = .ok (.iload 7, 2) := by decide +kernel
theorem dX7_insert_66 : decode cX7_insert 66 = .ok (.iload_n 3, 1) := by decide +kernel
theorem dX7_insert_67 : decode cX7_insert 67 = .ok (.iload 4, 2) := by decide +kernel
theorem dX7_insert_69 : decode cX7_insert 69 = .ok (.invokevirtual 67, 3) := by decide +kernel
theorem dX7_insert_72 : decode cX7_insert 72 = .ok (.invokestatic 50, 3) := by decide +kernel
theorem dX7_insert_75 : decode cX7_insert 75 = .ok (.ifCond .eq 7, 3) := by decide +kernel
theorem dX7_insert_78 : decode cX7_insert 78 = .ok (.iconst 1, 1) := by decide +kernel
theorem dX7_insert_79 : decode cX7_insert 79 = .ok (.goto 4, 3) := by decide +kernel
theorem dX7_insert_82 : decode cX7_insert 82 = .ok (.iconst 0, 1) := by decide +kernel
theorem dX7_insert_83 : decode cX7_insert 83 = .ok (.istore 8, 2) := by decide +kernel
theorem dX7_insert_85 : decode cX7_insert 85 = .ok (.iload 8, 2) := by decide +kernel
theorem dX7_insert_87 : decode cX7_insert 87 = .ok (.ifCond .ne 6, 3) := by decide +kernel
theorem dX7_insert_90 : decode cX7_insert 90 = .ok (.ldc 41, 2) := by decide +kernel
theorem dX7_insert_92 : decode cX7_insert 92 = .ok (.ireturn, 1) := by decide +kernel
theorem dX7_insert_93 : decode cX7_insert 93 = .ok (.iload 6, 2) := by decide +kernel
theorem dX7_insert_95 : decode cX7_insert 95 = .ok (.invokestatic 131, 3) := by decide +kernel
theorem dX7_insert_98 : decode cX7_insert 98 = .ok (.ifCond .ne 6, 3) := by decide +kernel
theorem dX7_insert_101 : decode cX7_insert 101 = .ok (.ldc 85, 2) := by decide +kernel
theorem dX7_insert_103 : decode cX7_insert 103 = .ok (.ireturn, 1) := by decide +kernel
theorem dX7_insert_104 : decode cX7_insert 104 = .ok (.aload_n 0, 1) := by decide +kernel
theorem dX7_insert_105 : decode cX7_insert 105 = .ok (.iload 7, 2) := by decide +kernel
theorem dX7_insert_107 : decode cX7_insert 107 = .ok (.iload_n 1, 1) := by decide +kernel
theorem dX7_insert_108 : decode cX7_insert 108 = .ok (.invokevirtual 99, 3) := by decide +kernel
theorem dX7_insert_111 : decode cX7_insert 111 = .ok (.ifCond .eq 6, 3) := by decide +kernel
theorem dX7_insert_114 : decode cX7_insert 114 = .ok (.ldc 103, 2) := by decide +kernel
theorem dX7_insert_116 : decode cX7_insert 116 = .ok (.ireturn, 1) := by decide +kernel
theorem dX7_insert_117 : decode cX7_insert 117 = .ok (.aload_n 0, 1) := by decide +kernel
theorem dX7_insert_118 : decode cX7_insert 118 = .ok (.invokevirtual 110, 3) := by decide +kernel
theorem dX7_insert_121 : decode cX7_insert 121 = .ok (.aload_n 0, 1) := by decide +kernel
theorem dX7_insert_122 : decode cX7_insert 122 = .ok (.aload_n 0, 1) := by decide +kernel
theorem dX7_insert_123 : decode cX7_insert 123 = .ok (.iload 7, 2) := by decide +kernel
theorem dX7_insert_125 : decode cX7_insert 125 = .ok (.iload_n 3, 1) := by decide +kernel
theorem dX7_insert_126 : decode cX7_insert 126 = .ok (.iload 4, 2) := by decide +kernel
theorem dX7_insert_128 : decode cX7_insert 128 = .ok (.iload 5, 2) := by decide +kernel
theorem dX7_insert_130 : decode cX7_insert 130 = .ok (.iload 6, 2) := by decide +kernel
theorem dX7_insert_132 : decode cX7_insert 132 = .ok (.invokevirtual 134, 3) := by decide +kernel
theorem dX7_insert_135 : decode cX7_insert 135 = .ok (.invokevirtual 116, 3) := by decide +kernel
theorem dX7_insert_138 : decode cX7_insert 138 = .ok (.ireturn, 1) := by decide +kernel
theorem dX7_change_0 : decode cX7_change 0 = .ok (.aload_n 0, 1) := by decide +kernel
theorem dX7_change_1 : decode cX7_change 1 = .ok (.iload_n 2, 1) := by decide +kernel
theorem dX7_change_2 : decode cX7_change 2 = .ok (.invokevirtual 86, 3) := by decide +kernel
theorem dX7_change_5 : decode cX7_change 5 = .ok (.istore 7, 2) := by decide +kernel
theorem dX7_change_7 : decode cX7_change 7 = .ok (.aload_n 0, 1) := by decide +kernel
theorem dX7_change_8 : decode cX7_change 8 = .ok (.iload_n 1, 1) := by decide +kernel
theorem dX7_change_9 : decode cX7_change 9 = .ok (.iload_n 2, 1) := by decide +kernel
theorem dX7_change_10 : decode cX7_change 10 = .ok (.invokevirtual 96, 3) := by decide +kernel
theorem dX7_change_13 : decode cX7_change 13 = .ok (.ifCond .lt 24, 3) := by decide +kernel
theorem dX7_change_16 : decode cX7_change 16 = .ok (.iload_n 3, 1) := by decide +kernel
theorem dX7_change_17 : decode cX7_change 17 = .ok (.invokestatic 128, 3) := by decide +kernel
theorem dX7_change_20 : decode cX7_change 20 = .ok (.ifCond .eq 17, 3) := by decide +kernel
theorem dX7_change_23 : decode cX7_change 23 = .ok (.aload_n 0, 1) := by decide +kernel
theorem dX7_change_24 : decode cX7_change 24 = .ok (.iload 7, 2) := by decide +kernel
theorem dX7_change_26 : decode cX7_change 26 = .ok (.iload_n 3, 1) := by decide +kernel
theorem dX7_change_27 : decode cX7_change 27 = .ok (.iload 4, 2) := by decide +kernel
theorem dX7_change_29 : decode cX7_change 29 = .ok (.iload 5, 2) := by decide +kernel
theorem dX7_change_31 : decode cX7_change 31 = .ok (.invokevirtual 138, 3) := by decide +kernel
theorem dX7_change_34 : decode cX7_change 34 = .ok (.ifCond .ne 6, 3) := by decide +kernel
theorem dX7_change_37 : decode cX7_change 37 = .ok (.ldc 41, 2) := by decide +kernel
theorem dX7_change_39 : decode cX7_change 39 = .ok (.ireturn, 1) := by decide +kernel
theorem dX7_change_40 : decode cX7_change 40 = .ok (.iload 6, 2) := by decide +kernel
theorem dX7_change_42 : decode cX7_change 42 = .ok (.invokestatic 131, 3) := by decide +kernel
theorem dX7_change_45 : decode cX7_change 45 = .ok (.ifCond .ne 6, 3) := by decide +kernel
theorem dX7_change_48 : decode cX7_change 48 = .ok (.ldc 85, 2) := by decide +kernel
theorem dX7_change_50 : decode cX7_change 50 = .ok (.ireturn, 1) := by decide +kernel
theorem dX7_change_51 : decode cX7_change 51 = .ok (.aload_n 0, 1) := by decide +kernel
theorem dX7_change_52 : decode cX7_change 52 = .ok (.iload 7, 2) := by decide +kernel
theorem dX7_change_54 : decode cX7_change 54 = .ok (.iload_n 1, 1) := by decide +kernel
theorem dX7_change_55 : decode cX7_change 55 = .ok (.invokevirtual 99, 3) := by decide +kernel
theorem dX7_change_58 : decode cX7_change 58 = .ok (.ifCond .eq 6, 3) := by decide +kernel
theorem dX7_change_61 : decode cX7_change 61 = .ok (.ldc 103, 2) := by decide +kernel
theorem dX7_change_63 : decode cX7_change 63 = .ok (.ireturn, 1) := by decide +kernel
theorem dX7_change_64 : decode cX7_change 64 = .ok (.aload_n 0, 1) := by decide +kernel
theorem dX7_change_65 : decode cX7_change 65 = .ok (.invokevirtual 110, 3) := by decide +kernel
theorem dX7_change_68 : decode cX7_change 68 = .ok (.aload_n 0, 1) := by decide +kernel
theorem dX7_change_69 : decode cX7_change 69 = .ok (.iload 7, 2) := by decide +kernel
theorem dX7_change_71 : decode cX7_change 71 = .ok (.iload_n 3, 1) := by decide +kernel
theorem dX7_change_72 : decode cX7_change 72 = .ok (.iload 4, 2) := by decide +kernel
theorem dX7_change_74 : decode cX7_change 74 = .ok (.iload 5, 2) := by decide +kernel
theorem dX7_change_76 : decode cX7_change 76 = .ok (.invokevirtual 74, 3) := by decide +kernel
theorem dX7_change_79 : decode cX7_change 79 = .ok (.istore 8, 2) := by decide +kernel
theorem dX7_change_81 : decode cX7_change 81 = .ok (.aload_n 0, 1) := by decide +kernel
theorem dX7_change_82 : decode cX7_change 82 = .ok (.iload 7, 2) := by decide +kernel
theorem dX7_change_84 : decode cX7_change 84 = .ok (.iload_n 3, 1) := by decide +kernel
theorem dX7_change_85 : decode cX7_change 85 = .ok (.iload 4, 2) := by decide +kernel
theorem dX7_change_87 : decode cX7_change 87 = .ok (.iload 5, 2) := by decide +kernel
theorem dX7_change_89 : decode cX7_change 89 = .ok (.invokestatic 57, 3) := by decide +kernel
theorem dX7_change_92 : decode cX7_change 92 = .ok (.iload 6, 2) := by decide +kernel
theorem dX7_change_94 : decode cX7_change 94 = .ok (.invokevirtual 70, 3) := by decide +kernel
theorem dX7_change_97 : decode cX7_change 97 = .ok (.aload_n 0, 1) := by decide +kernel
theorem dX7_change_98 : decode cX7_change 98 = .ok (.iload 8, 2) := by decide +kernel
theorem dX7_change_100 : decode cX7_change 100 = .ok (.invokevirtual 116, 3) := by decide +kernel
theorem dX7_change_103 : decode cX7_change 103 = .ok (.ireturn, 1) := by decide +kernel
theorem dX7_remove_0 : decode cX7_remove 0 = .ok (.aload_n 0, 1) := by decide +kernel
theorem dX7_remove_1 : decode cX7_remove 1 = .ok (.iload_n 2, 1) := by decide +kernel
theorem dX7_remove_2 : decode cX7_remove 2 = .ok (.invokevirtual 86, 3) := by decide +kernel
theorem dX7_remove_5 : decode cX7_remove 5 = .ok (.istore 6, 2) := by decide +kernel
theorem dX7_remove_7 : decode cX7_remove 7 = .ok (.aload_n 0, 1) := by decide +kernel
theorem dX7_remove_8 : decode cX7_remove 8 = .ok (.iload_n 1, 1) := by decide +kernel
theorem dX7_remove_9 : decode cX7_remove 9 = .ok (.iload_n 2, 1) := by decide +kernel
theorem dX7_remove_10 : decode cX7_remove 10 = .ok (.invokevirtual 96, 3) := by decide +kernel
theorem dX7_remove_13 : decode cX7_remove 13 = .ok (.ifCond .lt 42, 3) := by decide +kernel
theorem dX7_remove_16 : decode cX7_remove 16 = .ok (.iload_n 3, 1) := by decide +kernel
theorem dX7_remove_17 : decode cX7_remove 17 = .ok (.invokestatic 128, 3) := by decide +kernel
theorem dX7_remove_20 : decode cX7_remove 20 = .ok (.ifCond .eq 35, 3) := by decide +kernel
theorem dX7_remove_23 : decode cX7_remove 23 = .ok (.aload_n 0, 1) := by decide +kernel
theorem dX7_remove_24 : decode cX7_remove 24 = .ok (.iload 6, 2) := by decide +kernel
theorem dX7_remove_26 : decode cX7_remove 26 = .ok (.iload_n 3, 1) := by decide +kernel
theorem dX7_remove_27 : decode cX7_remove 27 = .ok (.iload 4, 2) := by decide +kernel
theorem dX7_remove_29 : decode cX7_remove 29 = .ok (.invokevirtual 64, 3) := by decide +kernel
theorem dX7_remove_32 : decode cX7_remove 32 = .ok (.ifCond .eq 23, 3) := by decide +kernel
theorem dX7_remove_35 : decode cX7_remove 35 = .ok (.iload 5, 2) := by decide +kernel
theorem dX7_remove_37 : decode cX7_remove 37 = .ok (.iconst (-1), 1) := by decide +kernel
theorem dX7_remove_38 : decode cX7_remove 38 = .ok (.if_icmp .eq 20, 3) := by decide +kernel
theorem dX7_remove_41 : decode cX7_remove 41 = .ok (.aload_n 0, 1) := by decide +kernel
theorem dX7_remove_42 : decode cX7_remove 42 = .ok (.iload 6, 2) := by decide +kernel
theorem dX7_remove_44 : decode cX7_remove 44 = .ok (.iload_n 3, 1) := by decide +kernel
theorem dX7_remove_45 : decode cX7_remove 45 = .ok (.iload 4, 2) := by decide +kernel
theorem dX7_remove_47 : decode cX7_remove 47 = .ok (.iload 5, 2) := by decide +kernel
theorem dX7_remove_49 : decode cX7_remove 49 = .ok (.invokevirtual 138, 3) := by decide +kernel
theorem dX7_remove_52 : decode cX7_remove 52 = .ok (.ifCond .ne 6, 3) := by decide +kernel
theorem dX7_remove_55 : decode cX7_remove 55 = .ok (.ldc 41, 2) := by decide +kernel
theorem dX7_remove_57 : decode cX7_remove 57 = .ok (.ireturn, 1) := by decide +kernel
theorem dX7_remove_58 : decode cX7_remove 58 = .ok (.aload_n 0, 1) := by decide +kernel
theorem dX7_remove_59 : decode cX7_remove 59 = .ok (.iload 6, 2) := by decide +kernel
theorem dX7_remove_61 : decode cX7_remove 61 = .ok (.iload_n 1, 1) := by decide +kernel
theorem dX7_remove_62 : decode cX7_remove 62 = .ok (.invokevirtual 99, 3) := by decide +kernel
theorem dX7_remove_65 : decode cX7_remove 65 = .ok (.ifCond .eq 6, 3) := by decide +kernel
theorem dX7_remove_68 : decode cX7_remove 68 = .ok (.ldc 103, 2) := by decide +kernel
theorem dX7_remove_70 : decode cX7_remove 70 = .ok (.ireturn, 1) := by decide +kernel
theorem dX7_remove_71 : decode cX7_remove 71 = .ok (.aload_n 0, 1) := by decide +kernel
theorem dX7_remove_72 : decode cX7_remove 72 = .ok (.invokevirtual 110, 3) := by decide +kernel
theorem dX7_remove_75 : decode cX7_remove 75 = .ok (.aload_n 0, 1) := by decide +kernel
theorem dX7_remove_76 : decode cX7_remove 76 = .ok (.aload_n 0, 1) := by decide +kernel
theorem dX7_remove_77 : decode cX7_remove 77 = .ok (.iload 6, 2) := by decide +kernel
theorem dX7_remove_79 : decode cX7_remove 79 = .ok (.iload_n 3, 1) := by decide +kernel
theorem dX7_remove_80 : decode cX7_remove 80 = .ok (.iload 4, 2) := by decide +kernel
theorem dX7_remove_82 : decode cX7_remove 82 = .ok (.iload 5, 2) := by decide +kernel
theorem dX7_remove_84 : decode cX7_remove 84 = .ok (.invokevirtual 142, 3) := by decide +kernel
theorem dX7_remove_87 : decode cX7_remove 87 = .ok (.invokevirtual 116, 3) := by decide +kernel
theorem dX7_remove_90 : decode cX7_remove 90 = .ok (.ireturn, 1) := by decide +kernel
theorem dX7_removeLine_0 : decode cX7_removeLine 0 = .ok (.aload_n 0, 1) := by decide +kernel
theorem dX7_removeLine_1 : decode cX7_removeLine 1 = .ok (.iload_n 2, 1) := by decide +kernel
theorem dX7_removeLine_2 : decode cX7_removeLine 2 = .ok (.invokevirtual 86, 3) := by decide +kernel
theorem dX7_removeLine_5 : decode cX7_removeLine 5 = .ok (.istore 4, 2) := by decide +kernel
theorem dX7_removeLine_7 : decode cX7_removeLine 7 = .ok (.aload_n 0, 1) := by decide +kernel
theorem dX7_removeLine_8 : decode cX7_removeLine 8 = .ok (.iload_n 1, 1) := by decide +kernel
theorem dX7_removeLine_9 : decode cX7_removeLine 9 = .ok (.iload_n 2, 1) := by decide +kernel
theorem dX7_removeLine_10 : decode cX7_removeLine 10 = .ok (.invokevirtual 96, 3) := by decide +kernel
theorem dX7_removeLine_13 : decode cX7_removeLine 13 = .ok (.ifCond .lt 13, 3) := by decide +kernel
theorem dX7_removeLine_16 : decode cX7_removeLine 16 = .ok (.aload_n 0, 1) := by decide +kernel
theorem dX7_removeLine_17 : decode cX7_removeLine 17 = .ok (.iload 4, 2) := by decide +kernel
theorem dX7_removeLine_19 : decode cX7_removeLine 19 = .ok (.iload_n 3, 1) := by decide +kernel
theorem dX7_removeLine_20 : decode cX7_removeLine 20 = .ok (.invokevirtual 145, 3) := by decide +kernel
theorem dX7_removeLine_23 : decode cX7_removeLine 23 = .ok (.ifCond .ne 6, 3) := by decide +kernel
theorem dX7_removeLine_26 : decode cX7_removeLine 26 = .ok (.ldc 41, 2) := by decide +kernel
theorem dX7_removeLine_28 : decode cX7_removeLine 28 = .ok (.ireturn, 1) := by decide +kernel
theorem dX7_removeLine_29 : decode cX7_removeLine 29 = .ok (.aload_n 0, 1) := by decide +kernel
theorem dX7_removeLine_30 : decode cX7_removeLine 30 = .ok (.iload 4, 2) := by decide +kernel
theorem dX7_removeLine_32 : decode cX7_removeLine 32 = .ok (.iload_n 1, 1) := by decide +kernel
theorem dX7_removeLine_33 : decode cX7_removeLine 33 = .ok (.invokevirtual 99, 3) := by decide +kernel
theorem dX7_removeLine_36 : decode cX7_removeLine 36 = .ok (.ifCond .eq 6, 3) := by decide +kernel
theorem dX7_removeLine_39 : decode cX7_removeLine 39 = .ok (.ldc 103, 2) := by decide +kernel
theorem dX7_removeLine_41 : decode cX7_removeLine 41 = .ok (.ireturn, 1) := by decide +kernel
theorem dX7_removeLine_42 : decode cX7_removeLine 42 = .ok (.aload_n 0, 1) := by decide +kernel
theorem dX7_removeLine_43 : decode cX7_removeLine 43 = .ok (.invokevirtual 110, 3) := by decide +kernel
theorem dX7_removeLine_46 : decode cX7_removeLine 46 = .ok (.aload_n 0, 1) := by decide +kernel
theorem dX7_removeLine_47 : decode cX7_removeLine 47 = .ok (.iload 4, 2) := by decide +kernel
theorem dX7_removeLine_49 : decode cX7_removeLine 49 = .ok (.iload_n 3, 1) := by decide +kernel
theorem dX7_removeLine_50 : decode cX7_removeLine 50 = .ok (.invokevirtual 145, 3) := by decide +kernel
theorem dX7_removeLine_53 : decode cX7_removeLine 53 = .ok (.istore 5, 2) := by decide +kernel
theorem dX7_removeLine_55 : decode cX7_removeLine 55 = .ok (.iconst 0, 1) := by decide +kernel
theorem dX7_removeLine_56 : decode cX7_removeLine 56 = .ok (.istore 6, 2) := by decide +kernel
theorem dX7_removeLine_58 : decode cX7_removeLine 58 = .ok (.iload 6, 2) := by decide +kernel
theorem dX7_removeLine_60 : decode cX7_removeLine 60 = .ok (.iconst 4, 1) := by decide +kernel
theorem dX7_removeLine_61 : decode cX7_removeLine 61 = .ok (.if_icmp .ge 43, 3) := by decide +kernel
theorem dX7_removeLine_64 : decode cX7_removeLine 64 = .ok (.aload_n 0, 1) := by decide +kernel
theorem dX7_removeLine_65 : decode cX7_removeLine 65 = .ok (.getfield 7, 3) := by decide +kernel
theorem dX7_removeLine_68 : decode cX7_removeLine 68 = .ok (.iconst 1, 1) := by decide +kernel
theorem dX7_removeLine_69 : decode cX7_removeLine 69 = .ok (.iload 6, 2) := by decide +kernel
theorem dX7_removeLine_71 : decode cX7_removeLine 71 = .ok (.iadd, 1) := by decide +kernel
theorem dX7_removeLine_72 : decode cX7_removeLine 72 = .ok (.iaload, 1) := by decide +kernel
theorem dX7_removeLine_73 : decode cX7_removeLine 73 = .ok (.iconst 1, 1) := by decide +kernel
theorem dX7_removeLine_74 : decode cX7_removeLine 74 = .ok (.if_icmp .ne 24, 3) := by decide +kernel
theorem dX7_removeLine_77 : decode cX7_removeLine 77 = .ok (.aload_n 0, 1) := by decide +kernel
theorem dX7_removeLine_78 : decode cX7_removeLine 78 = .ok (.iload 4, 2) := by decide +kernel
theorem dX7_removeLine_80 : decode cX7_removeLine 80 = .ok (.iload 6, 2) := by decide +kernel
theorem dX7_removeLine_82 : decode cX7_removeLine 82 = .ok (.iload_n 3, 1) := by decide +kernel
theorem dX7_removeLine_83 : decode cX7_removeLine 83 = .ok (.invokevirtual 64, 3) := by decide +kernel
theorem dX7_removeLine_86 : decode cX7_removeLine 86 = .ok (.ifCond .eq 12, 3) := by decide +kernel
theorem dX7_removeLine_89 : decode cX7_removeLine 89 = .ok (.aload_n 0, 1) := by decide +kernel
theorem dX7_removeLine_90 : decode cX7_removeLine 90 = .ok (.iload 4, 2) := by decide +kernel
theorem dX7_removeLine_92 : decode cX7_removeLine 92 = .ok (.iload 6, 2) := by decide +kernel
theorem dX7_removeLine_94 : decode cX7_removeLine 94 = .ok (.iload_n 3, 1) := by decide +kernel
theorem dX7_removeLine_95 : decode cX7_removeLine 95 = .ok (.invokevirtual 107, 3) := by decide +kernel
theorem dX7_removeLine_98 : decode cX7_removeLine 98 = .ok (.iinc 6 1, 3) := by decide +kernel
theorem dX7_removeLine_101 : decode cX7_removeLine 101 = .ok (.goto (-43), 3) := by decide +kernel
theorem dX7_removeLine_104 : decode cX7_removeLine 104 = .ok (.aload_n 0, 1) := by decide +kernel
theorem dX7_removeLine_105 : decode cX7_removeLine 105 = .ok (.iload 5, 2) := by decide +kernel
theorem dX7_removeLine_107 : decode cX7_removeLine 107 = .ok (.invokevirtual 116, 3) := by decide +kernel
theorem dX7_removeLine_110 : decode cX7_removeLine 110 = .ok (.ireturn, 1) := by decide +kernel
theorem dX7_append_0 : decode cX7_append 0 = .ok (.iload_n 1, 1) := by decide +kernel
theorem dX7_append_1 : decode cX7_append 1 = .ok (.bipush 32, 2) := by decide +kernel
theorem dX7_append_3 : decode cX7_append 3 = .ok (.bipush 126, 2) := by decide +kernel
theorem dX7_append_5 : decode cX7_append 5 = .ok (.invokestatic 50, 3) := by decide +kernel
theorem dX7_append_8 : decode cX7_append 8 = .ok (.ifCond .ne 6, 3) := by decide +kernel
theorem dX7_append_11 : decode cX7_append 11 = .ok (.ldc 85, 2) := by decide +kernel
theorem dX7_append_13 : decode cX7_append 13 = .ok (.ireturn, 1) := by decide +kernel
theorem dX7_append_14 : decode cX7_append 14 = .ok (.aload_n 0, 1) := by decide +kernel
theorem dX7_append_15 : decode cX7_append 15 = .ok (.getfield 148, 3) := by decide +kernel
theorem dX7_append_18 : decode cX7_append 18 = .ok (.bipush 90, 2) := by decide +kernel
theorem dX7_append_20 : decode cX7_append 20 = .ok (.if_icmp .ne 6, 3) := by decide +kernel
theorem dX7_append_23 : decode cX7_append 23 = .ok (.ldc 91, 2) := by decide +kernel
theorem dX7_append_25 : decode cX7_append 25 = .ok (.ireturn, 1) := by decide +kernel
theorem dX7_append_26 : decode cX7_append 26 = .ok (.aload_n 0, 1) := by decide +kernel
theorem dX7_append_27 : decode cX7_append 27 = .ok (.getfield 19, 3) := by decide +kernel
theorem dX7_append_30 : decode cX7_append 30 = .ok (.aload_n 0, 1) := by decide +kernel
theorem dX7_append_31 : decode cX7_append 31 = .ok (.getfield 148, 3) := by decide +kernel
theorem dX7_append_34 : decode cX7_append 34 = .ok (.iload_n 1, 1) := by decide +kernel
theorem dX7_append_35 : decode cX7_append 35 = .ok (.iastore, 1) := by decide +kernel
theorem dX7_append_36 : decode cX7_append 36 = .ok (.aload_n 0, 1) := by decide +kernel
theorem dX7_append_37 : decode cX7_append 37 = .ok (.dup, 1) := by decide +kernel
theorem dX7_append_38 : decode cX7_append 38 = .ok (.getfield 148, 3) := by decide +kernel
theorem dX7_append_41 : decode cX7_append 41 = .ok (.iconst 1, 1) := by decide +kernel
theorem dX7_append_42 : decode cX7_append 42 = .ok (.iadd, 1) := by decide +kernel
theorem dX7_append_43 : decode cX7_append 43 = .ok (.putfield 148, 3) := by decide +kernel
theorem dX7_append_46 : decode cX7_append 46 = .ok (.aload_n 0, 1) := by decide +kernel
theorem dX7_append_47 : decode cX7_append 47 = .ok (.getfield 148, 3) := by decide +kernel
theorem dX7_append_50 : decode cX7_append 50 = .ok (.ireturn, 1) := by decide +kernel
theorem dX7_clearText_0 : decode cX7_clearText 0 = .ok (.aload_n 0, 1) := by decide +kernel
theorem dX7_clearText_1 : decode cX7_clearText 1 = .ok (.getfield 148, 3) := by decide +kernel
theorem dX7_clearText_4 : decode cX7_clearText 4 = .ok (.istore_n 1, 1) := by decide +kernel
theorem dX7_clearText_5 : decode cX7_clearText 5 = .ok (.aload_n 0, 1) := by decide +kernel
theorem dX7_clearText_6 : decode cX7_clearText 6 = .ok (.iconst 0, 1) := by decide +kernel
theorem dX7_clearText_7 : decode cX7_clearText 7 = .ok (.putfield 148, 3) := by decide +kernel
theorem dX7_clearText_10 : decode cX7_clearText 10 = .ok (.iload_n 1, 1) := by decide +kernel
theorem dX7_clearText_11 : decode cX7_clearText 11 = .ok (.ireturn, 1) := by decide +kernel
theorem dX7_here_0 : decode cX7_here 0 = .ok (.aload_n 0, 1) := by decide +kernel
theorem dX7_here_1 : decode cX7_here 1 = .ok (.getfield 151, 3) := by decide +kernel
theorem dX7_here_4 : decode cX7_here 4 = .ok (.aload_n 0, 1) := by decide +kernel
theorem dX7_here_5 : decode cX7_here 5 = .ok (.getfield 148, 3) := by decide +kernel
theorem dX7_here_8 : decode cX7_here 8 = .ok (.if_icmp .ge 15, 3) := by decide +kernel
theorem dX7_here_11 : decode cX7_here 11 = .ok (.aload_n 0, 1) := by decide +kernel
theorem dX7_here_12 : decode cX7_here 12 = .ok (.getfield 19, 3) := by decide +kernel
theorem dX7_here_15 : decode cX7_here 15 = .ok (.aload_n 0, 1) := by decide +kernel
theorem dX7_here_16 : decode cX7_here 16 = .ok (.getfield 151, 3) := by decide +kernel
theorem dX7_here_19 : decode cX7_here 19 = .ok (.iaload, 1) := by decide +kernel
theorem dX7_here_20 : decode cX7_here 20 = .ok (.goto 4, 3) := by decide +kernel
theorem dX7_here_23 : decode cX7_here 23 = .ok (.iconst 0, 1) := by decide +kernel
theorem dX7_here_24 : decode cX7_here 24 = .ok (.ireturn, 1) := by decide +kernel
theorem dX7_takes_0 : decode cX7_takes 0 = .ok (.aload_n 0, 1) := by decide +kernel
theorem dX7_takes_1 : decode cX7_takes 1 = .ok (.aload_n 0, 1) := by decide +kernel
theorem dX7_takes_2 : decode cX7_takes 2 = .ok (.getfield 154, 3) := by decide +kernel
theorem dX7_takes_5 : decode cX7_takes 5 = .ok (.ifCond .eq 11, 3) := by decide +kernel
theorem dX7_takes_8 : decode cX7_takes 8 = .ok (.iload_n 1, 1) := by decide +kernel
theorem dX7_takes_9 : decode cX7_takes 9 = .ok (.ifCond .eq 7, 3) := by decide +kernel
theorem dX7_takes_12 : decode cX7_takes 12 = .ok (.iconst 1, 1) := by decide +kernel
theorem dX7_takes_13 : decode cX7_takes 13 = .ok (.goto 4, 3) := by decide +kernel
theorem dX7_takes_16 : decode cX7_takes 16 = .ok (.iconst 0, 1) := by decide +kernel
theorem dX7_takes_17 : decode cX7_takes 17 = .ok (.putfield 154, 3) := by decide +kernel
theorem dX7_takes_20 : decode cX7_takes 20 = .ok (.aload_n 0, 1) := by decide +kernel
theorem dX7_takes_21 : decode cX7_takes 21 = .ok (.dup, 1) := by decide +kernel
theorem dX7_takes_22 : decode cX7_takes 22 = .ok (.getfield 151, 3) := by decide +kernel
theorem dX7_takes_25 : decode cX7_takes 25 = .ok (.aload_n 0, 1) := by decide +kernel
theorem dX7_takes_26 : decode cX7_takes 26 = .ok (.getfield 154, 3) := by decide +kernel
theorem dX7_takes_29 : decode cX7_takes 29 = .ok (.ifCond .eq 7, 3) := by decide +kernel
theorem dX7_takes_32 : decode cX7_takes 32 = .ok (.iconst 1, 1) := by decide +kernel
theorem dX7_takes_33 : decode cX7_takes 33 = .ok (.goto 4, 3) := by decide +kernel
theorem dX7_takes_36 : decode cX7_takes 36 = .ok (.iconst 0, 1) := by decide +kernel
theorem dX7_takes_37 : decode cX7_takes 37 = .ok (.iadd, 1) := by decide +kernel
theorem dX7_takes_38 : decode cX7_takes 38 = .ok (.putfield 151, 3) := by decide +kernel
theorem dX7_takes_41 : decode cX7_takes 41 = .ok (.return_, 1) := by decide +kernel
theorem dX7_takesNumber_0 : decode cX7_takesNumber 0 = .ok (.aload_n 0, 1) := by decide +kernel
theorem dX7_takesNumber_1 : decode cX7_takesNumber 1 = .ok (.invokevirtual 158, 3) := by decide +kernel
theorem dX7_takesNumber_4 : decode cX7_takesNumber 4 = .ok (.bipush 45, 2) := by decide +kernel
theorem dX7_takesNumber_6 : decode cX7_takesNumber 6 = .ok (.if_icmp .ne 7, 3) := by decide +kernel
theorem dX7_takesNumber_9 : decode cX7_takesNumber 9 = .ok (.iconst 1, 1) := by decide +kernel
theorem dX7_takesNumber_10 : decode cX7_takesNumber 10 = .ok (.goto 4, 3) := by decide +kernel
theorem dX7_takesNumber_13 : decode cX7_takesNumber 13 = .ok (.iconst 0, 1) := by decide +kernel
theorem dX7_takesNumber_14 : decode cX7_takesNumber 14 = .ok (.istore_n 1, 1) := by decide +kernel
theorem dX7_takesNumber_15 : decode cX7_takesNumber 15 = .ok (.iload_n 1, 1) := by decide +kernel
theorem dX7_takesNumber_16 : decode cX7_takesNumber 16 = .ok (.ifCond .eq 13, 3) := by decide +kernel
theorem dX7_takesNumber_19 : decode cX7_takesNumber 19 = .ok (.aload_n 0, 1) := by decide +kernel
theorem dX7_takesNumber_20 : decode cX7_takesNumber 20 = .ok (.dup, 1) := by decide +kernel
theorem dX7_takesNumber_21 : decode cX7_takesNumber 21 = .ok (.getfield 151, 3) := by decide +kernel
theorem dX7_takesNumber_24 : decode cX7_takesNumber 24 = .ok (.iconst 1, 1) := by decide +kernel
theorem dX7_takesNumber_25 : decode cX7_takesNumber 25 = .ok (.iadd, 1) := by decide +kernel
theorem dX7_takesNumber_26 : decode cX7_takesNumber 26 = .ok (.putfield 151, 3) := by decide +kernel
theorem dX7_takesNumber_29 : decode cX7_takesNumber 29 = .ok (.aload_n 0, 1) := by decide +kernel
theorem dX7_takesNumber_30 : decode cX7_takesNumber 30 = .ok (.invokevirtual 158, 3) := by decide +kernel
theorem dX7_takesNumber_33 : decode cX7_takesNumber 33 = .ok (.bipush 48, 2) := by decide +kernel
theorem dX7_takesNumber_35 : decode cX7_takesNumber 35 = .ok (.isub, 1) := by decide +kernel
theorem dX7_takesNumber_36 : decode cX7_takesNumber 36 = .ok (.istore_n 2, 1) := by decide +kernel
theorem dX7_takesNumber_37 : decode cX7_takesNumber 37 = .ok (.aload_n 0, 1) := by decide +kernel
theorem dX7_takesNumber_38 : decode cX7_takesNumber 38 = .ok (.iload_n 2, 1) := by decide +kernel
theorem dX7_takesNumber_39 : decode cX7_takesNumber 39 = .ok (.iload_n 1, 1) := by decide +kernel
theorem dX7_takesNumber_40 : decode cX7_takesNumber 40 = .ok (.ifCond .eq 7, 3) := by decide +kernel
theorem dX7_takesNumber_43 : decode cX7_takesNumber 43 = .ok (.iconst 1, 1) := by decide +kernel
theorem dX7_takesNumber_44 : decode cX7_takesNumber 44 = .ok (.goto 4, 3) := by decide +kernel
theorem dX7_takesNumber_47 : decode cX7_takesNumber 47 = .ok (.iconst 0, 1) := by decide +kernel
theorem dX7_takesNumber_48 : decode cX7_takesNumber 48 = .ok (.bipush 9, 2) := by decide +kernel
theorem dX7_takesNumber_50 : decode cX7_takesNumber 50 = .ok (.invokestatic 50, 3) := by decide +kernel
theorem dX7_takesNumber_53 : decode cX7_takesNumber 53 = .ok (.invokevirtual 162, 3) := by decide +kernel
theorem dX7_takesNumber_56 : decode cX7_takesNumber 56 = .ok (.aload_n 0, 1) := by decide +kernel
theorem dX7_takesNumber_57 : decode cX7_takesNumber 57 = .ok (.getfield 154, 3) := by decide +kernel
theorem dX7_takesNumber_60 : decode cX7_takesNumber 60 = .ok (.ifCond .eq 65, 3) := by decide +kernel
theorem dX7_takesNumber_63 : decode cX7_takesNumber 63 = .ok (.iload_n 2, 1) := by decide +kernel
theorem dX7_takesNumber_64 : decode cX7_takesNumber 64 = .ok (.ifCond .le 61, 3) := by decide +kernel
theorem dX7_takesNumber_67 : decode cX7_takesNumber 67 = .ok (.aload_n 0, 1) := by decide +kernel
theorem dX7_takesNumber_68 : decode cX7_takesNumber 68 = .ok (.invokevirtual 158, 3) := by decide +kernel
theorem dX7_takesNumber_71 : decode cX7_takesNumber 71 = .ok (.bipush 48, 2) := by decide +kernel
theorem dX7_takesNumber_73 : decode cX7_takesNumber 73 = .ok (.bipush 57, 2) := by decide +kernel
theorem dX7_takesNumber_75 : decode cX7_takesNumber 75 = .ok (.invokestatic 50, 3) := by decide +kernel
theorem dX7_takesNumber_78 : decode cX7_takesNumber 78 = .ok (.ifCond .eq 47, 3) := by decide +kernel
theorem dX7_takesNumber_81 : decode cX7_takesNumber 81 = .ok (.bipush 10, 2) := by decide +kernel
theorem dX7_takesNumber_83 : decode cX7_takesNumber 83 = .ok (.iload_n 2, 1) := by decide +kernel
theorem dX7_takesNumber_84 : decode cX7_takesNumber 84 = .ok (.imul, 1) := by decide +kernel
theorem dX7_takesNumber_85 : decode cX7_takesNumber 85 = .ok (.aload_n 0, 1) := by decide +kernel
theorem dX7_takesNumber_86 : decode cX7_takesNumber 86 = .ok (.invokevirtual 158, 3) := by decide +kernel
theorem dX7_takesNumber_89 : decode cX7_takesNumber 89 = .ok (.iadd, 1) := by decide +kernel
theorem dX7_takesNumber_90 : decode cX7_takesNumber 90 = .ok (.bipush 48, 2) := by decide +kernel
theorem dX7_takesNumber_92 : decode cX7_takesNumber 92 = .ok (.isub, 1) := by decide +kernel
theorem dX7_takesNumber_93 : decode cX7_takesNumber 93 = .ok (.sipush 999, 3) := by decide +kernel
theorem dX7_takesNumber_96 : decode cX7_takesNumber 96 = .ok (.if_icmp .gt 29, 3) := by decide +kernel
theorem dX7_takesNumber_99 : decode cX7_takesNumber 99 = .ok (.bipush 10, 2) := by decide +kernel
theorem dX7_takesNumber_101 : decode cX7_takesNumber 101 = .ok (.iload_n 2, 1) := by decide +kernel
theorem dX7_takesNumber_102 : decode cX7_takesNumber 102 = .ok (.imul, 1) := by decide +kernel
theorem dX7_takesNumber_103 : decode cX7_takesNumber 103 = .ok (.aload_n 0, 1) := by decide +kernel
theorem dX7_takesNumber_104 : decode cX7_takesNumber 104 = .ok (.invokevirtual 158, 3) := by decide +kernel
theorem dX7_takesNumber_107 : decode cX7_takesNumber 107 = .ok (.iadd, 1) := by decide +kernel
theorem dX7_takesNumber_108 : decode cX7_takesNumber 108 = .ok (.bipush 48, 2) := by decide +kernel
theorem dX7_takesNumber_110 : decode cX7_takesNumber 110 = .ok (.isub, 1) := by decide +kernel
theorem dX7_takesNumber_111 : decode cX7_takesNumber 111 = .ok (.istore_n 2, 1) := by decide +kernel
theorem dX7_takesNumber_112 : decode cX7_takesNumber 112 = .ok (.aload_n 0, 1) := by decide +kernel
theorem dX7_takesNumber_113 : decode cX7_takesNumber 113 = .ok (.dup, 1) := by decide +kernel
theorem dX7_takesNumber_114 : decode cX7_takesNumber 114 = .ok (.getfield 151, 3) := by decide +kernel
theorem dX7_takesNumber_117 : decode cX7_takesNumber 117 = .ok (.iconst 1, 1) := by decide +kernel
theorem dX7_takesNumber_118 : decode cX7_takesNumber 118 = .ok (.iadd, 1) := by decide +kernel
theorem dX7_takesNumber_119 : decode cX7_takesNumber 119 = .ok (.putfield 151, 3) := by decide +kernel
theorem dX7_takesNumber_122 : decode cX7_takesNumber 122 = .ok (.goto (-66), 3) := by decide +kernel
theorem dX7_takesNumber_125 : decode cX7_takesNumber 125 = .ok (.iload_n 1, 1) := by decide +kernel
theorem dX7_takesNumber_126 : decode cX7_takesNumber 126 = .ok (.ifCond .eq 8, 3) := by decide +kernel
theorem dX7_takesNumber_129 : decode cX7_takesNumber 129 = .ok (.iload_n 2, 1) := by decide +kernel
theorem dX7_takesNumber_130 : decode cX7_takesNumber 130 = .ok (.ineg, 1) := by decide +kernel
theorem dX7_takesNumber_131 : decode cX7_takesNumber 131 = .ok (.goto 4, 3) := by decide +kernel
theorem dX7_takesNumber_134 : decode cX7_takesNumber 134 = .ok (.iload_n 2, 1) := by decide +kernel
theorem dX7_takesNumber_135 : decode cX7_takesNumber 135 = .ok (.ireturn, 1) := by decide +kernel
theorem dX7_takesValue_0 : decode cX7_takesValue 0 = .ok (.iconst 0, 1) := by decide +kernel
theorem dX7_takesValue_1 : decode cX7_takesValue 1 = .ok (.istore 4, 2) := by decide +kernel
theorem dX7_takesValue_3 : decode cX7_takesValue 3 = .ok (.iconst 1, 1) := by decide +kernel
theorem dX7_takesValue_4 : decode cX7_takesValue 4 = .ok (.istore 5, 2) := by decide +kernel
theorem dX7_takesValue_6 : decode cX7_takesValue 6 = .ok (.iload 5, 2) := by decide +kernel
theorem dX7_takesValue_8 : decode cX7_takesValue 8 = .ok (.ifCond .eq 81, 3) := by decide +kernel
theorem dX7_takesValue_11 : decode cX7_takesValue 11 = .ok (.aload_n 0, 1) := by decide +kernel
theorem dX7_takesValue_12 : decode cX7_takesValue 12 = .ok (.invokevirtual 166, 3) := by decide +kernel
theorem dX7_takesValue_15 : decode cX7_takesValue 15 = .ok (.istore 6, 2) := by decide +kernel
theorem dX7_takesValue_17 : decode cX7_takesValue 17 = .ok (.iload_n 1, 1) := by decide +kernel
theorem dX7_takesValue_18 : decode cX7_takesValue 18 = .ok (.ifCond .lt 17, 3) := by decide +kernel
theorem dX7_takesValue_21 : decode cX7_takesValue 21 = .ok (.aload_n 0, 1) := by decide +kernel
theorem dX7_takesValue_22 : decode cX7_takesValue 22 = .ok (.iload_n 1, 1) := by decide +kernel
theorem dX7_takesValue_23 : decode cX7_takesValue 23 = .ok (.iload_n 2, 1) := by decide +kernel
theorem dX7_takesValue_24 : decode cX7_takesValue 24 = .ok (.iload_n 3, 1) := by decide +kernel
theorem dX7_takesValue_25 : decode cX7_takesValue 25 = .ok (.iload 4, 2) := by decide +kernel
theorem dX7_takesValue_27 : decode cX7_takesValue 27 = .ok (.invokestatic 57, 3) := by decide +kernel
theorem dX7_takesValue_30 : decode cX7_takesValue 30 = .ok (.iload 6, 2) := by decide +kernel
theorem dX7_takesValue_32 : decode cX7_takesValue 32 = .ok (.invokevirtual 70, 3) := by decide +kernel
theorem dX7_takesValue_35 : decode cX7_takesValue 35 = .ok (.iinc 4 1, 3) := by decide +kernel
theorem dX7_takesValue_38 : decode cX7_takesValue 38 = .ok (.aload_n 0, 1) := by decide +kernel
theorem dX7_takesValue_39 : decode cX7_takesValue 39 = .ok (.getfield 154, 3) := by decide +kernel
theorem dX7_takesValue_42 : decode cX7_takesValue 42 = .ok (.ifCond .eq 22, 3) := by decide +kernel
theorem dX7_takesValue_45 : decode cX7_takesValue 45 = .ok (.iload 4, 2) := by decide +kernel
theorem dX7_takesValue_47 : decode cX7_takesValue 47 = .ok (.iconst 4, 1) := by decide +kernel
theorem dX7_takesValue_48 : decode cX7_takesValue 48 = .ok (.if_icmp .ge 16, 3) := by decide +kernel
theorem dX7_takesValue_51 : decode cX7_takesValue 51 = .ok (.aload_n 0, 1) := by decide +kernel
theorem dX7_takesValue_52 : decode cX7_takesValue 52 = .ok (.invokevirtual 158, 3) := by decide +kernel
theorem dX7_takesValue_55 : decode cX7_takesValue 55 = .ok (.bipush 47, 2) := by decide +kernel
theorem dX7_takesValue_57 : decode cX7_takesValue 57 = .ok (.if_icmp .ne 7, 3) := by decide +kernel
theorem dX7_takesValue_60 : decode cX7_takesValue 60 = .ok (.iconst 1, 1) := by decide +kernel
theorem dX7_takesValue_61 : decode cX7_takesValue 61 = .ok (.goto 4, 3) := by decide +kernel
theorem dX7_takesValue_64 : decode cX7_takesValue 64 = .ok (.iconst 0, 1) := by decide +kernel
theorem dX7_takesValue_65 : decode cX7_takesValue 65 = .ok (.istore 5, 2) := by decide +kernel
theorem dX7_takesValue_67 : decode cX7_takesValue 67 = .ok (.aload_n 0, 1) := by decide +kernel
theorem dX7_takesValue_68 : decode cX7_takesValue 68 = .ok (.dup, 1) := by decide +kernel
theorem dX7_takesValue_69 : decode cX7_takesValue 69 = .ok (.getfield 151, 3) := by decide +kernel
theorem dX7_takesValue_72 : decode cX7_takesValue 72 = .ok (.iload 5, 2) := by decide +kernel
theorem dX7_takesValue_74 : decode cX7_takesValue 74 = .ok (.ifCond .eq 7, 3) := by decide +kernel
theorem dX7_takesValue_77 : decode cX7_takesValue 77 = .ok (.iconst 1, 1) := by decide +kernel
theorem dX7_takesValue_78 : decode cX7_takesValue 78 = .ok (.goto 4, 3) := by decide +kernel
theorem dX7_takesValue_81 : decode cX7_takesValue 81 = .ok (.iconst 0, 1) := by decide +kernel
theorem dX7_takesValue_82 : decode cX7_takesValue 82 = .ok (.iadd, 1) := by decide +kernel
theorem dX7_takesValue_83 : decode cX7_takesValue 83 = .ok (.putfield 151, 3) := by decide +kernel
theorem dX7_takesValue_86 : decode cX7_takesValue 86 = .ok (.goto (-80), 3) := by decide +kernel
theorem dX7_takesValue_89 : decode cX7_takesValue 89 = .ok (.iload_n 1, 1) := by decide +kernel
theorem dX7_takesValue_90 : decode cX7_takesValue 90 = .ok (.ifCond .lt 15, 3) := by decide +kernel
theorem dX7_takesValue_93 : decode cX7_takesValue 93 = .ok (.aload_n 0, 1) := by decide +kernel
theorem dX7_takesValue_94 : decode cX7_takesValue 94 = .ok (.iload_n 1, 1) := by decide +kernel
theorem dX7_takesValue_95 : decode cX7_takesValue 95 = .ok (.iload_n 2, 1) := by decide +kernel
theorem dX7_takesValue_96 : decode cX7_takesValue 96 = .ok (.iload_n 3, 1) := by decide +kernel
theorem dX7_takesValue_97 : decode cX7_takesValue 97 = .ok (.invokestatic 54, 3) := by decide +kernel
theorem dX7_takesValue_100 : decode cX7_takesValue 100 = .ok (.iload 4, 2) := by decide +kernel
theorem dX7_takesValue_102 : decode cX7_takesValue 102 = .ok (.invokevirtual 70, 3) := by decide +kernel
theorem dX7_takesValue_105 : decode cX7_takesValue 105 = .ok (.return_, 1) := by decide +kernel
theorem dX7_takesField_0 : decode cX7_takesField 0 = .ok (.iconst 0, 1) := by decide +kernel
theorem dX7_takesField_1 : decode cX7_takesField 1 = .ok (.istore_n 3, 1) := by decide +kernel
theorem dX7_takesField_2 : decode cX7_takesField 2 = .ok (.aload_n 0, 1) := by decide +kernel
theorem dX7_takesField_3 : decode cX7_takesField 3 = .ok (.invokevirtual 158, 3) := by decide +kernel
theorem dX7_takesField_6 : decode cX7_takesField 6 = .ok (.bipush 94, 2) := by decide +kernel
theorem dX7_takesField_8 : decode cX7_takesField 8 = .ok (.if_icmp .eq 18, 3) := by decide +kernel
theorem dX7_takesField_11 : decode cX7_takesField 11 = .ok (.aload_n 0, 1) := by decide +kernel
theorem dX7_takesField_12 : decode cX7_takesField 12 = .ok (.getfield 151, 3) := by decide +kernel
theorem dX7_takesField_15 : decode cX7_takesField 15 = .ok (.aload_n 0, 1) := by decide +kernel
theorem dX7_takesField_16 : decode cX7_takesField 16 = .ok (.getfield 148, 3) := by decide +kernel
theorem dX7_takesField_19 : decode cX7_takesField 19 = .ok (.if_icmp .ge 7, 3) := by decide +kernel
theorem dX7_takesField_22 : decode cX7_takesField 22 = .ok (.iconst 1, 1) := by decide +kernel
theorem dX7_takesField_23 : decode cX7_takesField 23 = .ok (.goto 4, 3) := by decide +kernel
theorem dX7_takesField_26 : decode cX7_takesField 26 = .ok (.iconst 0, 1) := by decide +kernel
theorem dX7_takesField_27 : decode cX7_takesField 27 = .ok (.istore 4, 2) := by decide +kernel
theorem dX7_takesField_29 : decode cX7_takesField 29 = .ok (.iload 4, 2) := by decide +kernel
theorem dX7_takesField_31 : decode cX7_takesField 31 = .ok (.ifCond .eq 63, 3) := by decide +kernel
theorem dX7_takesField_34 : decode cX7_takesField 34 = .ok (.aload_n 0, 1) := by decide +kernel
theorem dX7_takesField_35 : decode cX7_takesField 35 = .ok (.iload_n 1, 1) := by decide +kernel
theorem dX7_takesField_36 : decode cX7_takesField 36 = .ok (.iload_n 2, 1) := by decide +kernel
theorem dX7_takesField_37 : decode cX7_takesField 37 = .ok (.iload_n 3, 1) := by decide +kernel
theorem dX7_takesField_38 : decode cX7_takesField 38 = .ok (.invokevirtual 169, 3) := by decide +kernel
theorem dX7_takesField_41 : decode cX7_takesField 41 = .ok (.iinc 3 1, 3) := by decide +kernel
theorem dX7_takesField_44 : decode cX7_takesField 44 = .ok (.aload_n 0, 1) := by decide +kernel
theorem dX7_takesField_45 : decode cX7_takesField 45 = .ok (.getfield 154, 3) := by decide +kernel
theorem dX7_takesField_48 : decode cX7_takesField 48 = .ok (.ifCond .eq 21, 3) := by decide +kernel
theorem dX7_takesField_51 : decode cX7_takesField 51 = .ok (.iload_n 3, 1) := by decide +kernel
theorem dX7_takesField_52 : decode cX7_takesField 52 = .ok (.iconst 5, 1) := by decide +kernel
theorem dX7_takesField_53 : decode cX7_takesField 53 = .ok (.if_icmp .ge 16, 3) := by decide +kernel
theorem dX7_takesField_56 : decode cX7_takesField 56 = .ok (.aload_n 0, 1) := by decide +kernel
theorem dX7_takesField_57 : decode cX7_takesField 57 = .ok (.invokevirtual 158, 3) := by decide +kernel
theorem dX7_takesField_60 : decode cX7_takesField 60 = .ok (.bipush 93, 2) := by decide +kernel
theorem dX7_takesField_62 : decode cX7_takesField 62 = .ok (.if_icmp .ne 7, 3) := by decide +kernel
theorem dX7_takesField_65 : decode cX7_takesField 65 = .ok (.iconst 1, 1) := by decide +kernel
theorem dX7_takesField_66 : decode cX7_takesField 66 = .ok (.goto 4, 3) := by decide +kernel
theorem dX7_takesField_69 : decode cX7_takesField 69 = .ok (.iconst 0, 1) := by decide +kernel
theorem dX7_takesField_70 : decode cX7_takesField 70 = .ok (.istore 4, 2) := by decide +kernel
theorem dX7_takesField_72 : decode cX7_takesField 72 = .ok (.aload_n 0, 1) := by decide +kernel
theorem dX7_takesField_73 : decode cX7_takesField 73 = .ok (.dup, 1) := by decide +kernel
theorem dX7_takesField_74 : decode cX7_takesField 74 = .ok (.getfield 151, 3) := by decide +kernel
theorem dX7_takesField_77 : decode cX7_takesField 77 = .ok (.iload 4, 2) := by decide +kernel
theorem dX7_takesField_79 : decode cX7_takesField 79 = .ok (.ifCond .eq 7, 3) := by decide +kernel
theorem dX7_takesField_82 : decode cX7_takesField 82 = .ok (.iconst 1, 1) := by decide +kernel
theorem dX7_takesField_83 : decode cX7_takesField 83 = .ok (.goto 4, 3) := by decide +kernel
theorem dX7_takesField_86 : decode cX7_takesField 86 = .ok (.iconst 0, 1) := by decide +kernel
theorem dX7_takesField_87 : decode cX7_takesField 87 = .ok (.iadd, 1) := by decide +kernel
theorem dX7_takesField_88 : decode cX7_takesField 88 = .ok (.putfield 151, 3) := by decide +kernel
theorem dX7_takesField_91 : decode cX7_takesField 91 = .ok (.goto (-62), 3) := by decide +kernel
theorem dX7_takesField_94 : decode cX7_takesField 94 = .ok (.iload_n 1, 1) := by decide +kernel
theorem dX7_takesField_95 : decode cX7_takesField 95 = .ok (.ifCond .lt 12, 3) := by decide +kernel
theorem dX7_takesField_98 : decode cX7_takesField 98 = .ok (.aload_n 0, 1) := by decide +kernel
theorem dX7_takesField_99 : decode cX7_takesField 99 = .ok (.iload_n 1, 1) := by decide +kernel
theorem dX7_takesField_100 : decode cX7_takesField 100 = .ok (.iconst 2, 1) := by decide +kernel
theorem dX7_takesField_101 : decode cX7_takesField 101 = .ok (.iload_n 2, 1) := by decide +kernel
theorem dX7_takesField_102 : decode cX7_takesField 102 = .ok (.iadd, 1) := by decide +kernel
theorem dX7_takesField_103 : decode cX7_takesField 103 = .ok (.iload_n 3, 1) := by decide +kernel
theorem dX7_takesField_104 : decode cX7_takesField 104 = .ok (.invokevirtual 70, 3) := by decide +kernel
theorem dX7_takesField_107 : decode cX7_takesField 107 = .ok (.return_, 1) := by decide +kernel
theorem dX7_takesAll_0 : decode cX7_takesAll 0 = .ok (.aload_n 0, 1) := by decide +kernel
theorem dX7_takesAll_1 : decode cX7_takesAll 1 = .ok (.iconst 0, 1) := by decide +kernel
theorem dX7_takesAll_2 : decode cX7_takesAll 2 = .ok (.putfield 151, 3) := by decide +kernel
theorem dX7_takesAll_5 : decode cX7_takesAll 5 = .ok (.aload_n 0, 1) := by decide +kernel
theorem dX7_takesAll_6 : decode cX7_takesAll 6 = .ok (.iconst 1, 1) := by decide +kernel
theorem dX7_takesAll_7 : decode cX7_takesAll 7 = .ok (.putfield 154, 3) := by decide +kernel
theorem dX7_takesAll_10 : decode cX7_takesAll 10 = .ok (.iconst 0, 1) := by decide +kernel
theorem dX7_takesAll_11 : decode cX7_takesAll 11 = .ok (.istore_n 2, 1) := by decide +kernel
theorem dX7_takesAll_12 : decode cX7_takesAll 12 = .ok (.iload_n 2, 1) := by decide +kernel
theorem dX7_takesAll_13 : decode cX7_takesAll 13 = .ok (.iconst 4, 1) := by decide +kernel
theorem dX7_takesAll_14 : decode cX7_takesAll 14 = .ok (.if_icmp .ge 51, 3) := by decide +kernel
