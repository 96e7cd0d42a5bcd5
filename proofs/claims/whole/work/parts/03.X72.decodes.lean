theorem dX7_takesAll_17 : decode cX7_takesAll 17 = .ok (.aload_n 0, 1) := by decide +kernel
theorem dX7_takesAll_18 : decode cX7_takesAll 18 = .ok (.getfield 154, 3) := by decide +kernel
theorem dX7_takesAll_21 : decode cX7_takesAll 21 = .ok (.ifCond .eq 44, 3) := by decide +kernel
theorem dX7_takesAll_24 : decode cX7_takesAll 24 = .ok (.iload_n 2, 1) := by decide +kernel
theorem dX7_takesAll_25 : decode cX7_takesAll 25 = .ok (.ifCond .le 21, 3) := by decide +kernel
theorem dX7_takesAll_28 : decode cX7_takesAll 28 = .ok (.aload_n 0, 1) := by decide +kernel
theorem dX7_takesAll_29 : decode cX7_takesAll 29 = .ok (.aload_n 0, 1) := by decide +kernel
theorem dX7_takesAll_30 : decode cX7_takesAll 30 = .ok (.invokevirtual 158, 3) := by decide +kernel
theorem dX7_takesAll_33 : decode cX7_takesAll 33 = .ok (.bipush 94, 2) := by decide +kernel
theorem dX7_takesAll_35 : decode cX7_takesAll 35 = .ok (.if_icmp .ne 7, 3) := by decide +kernel
theorem dX7_takesAll_38 : decode cX7_takesAll 38 = .ok (.iconst 1, 1) := by decide +kernel
theorem dX7_takesAll_39 : decode cX7_takesAll 39 = .ok (.goto 4, 3) := by decide +kernel
theorem dX7_takesAll_42 : decode cX7_takesAll 42 = .ok (.iconst 0, 1) := by decide +kernel
theorem dX7_takesAll_43 : decode cX7_takesAll 43 = .ok (.invokevirtual 162, 3) := by decide +kernel
theorem dX7_takesAll_46 : decode cX7_takesAll 46 = .ok (.aload_n 0, 1) := by decide +kernel
theorem dX7_takesAll_47 : decode cX7_takesAll 47 = .ok (.getfield 154, 3) := by decide +kernel
theorem dX7_takesAll_50 : decode cX7_takesAll 50 = .ok (.ifCond .eq 9, 3) := by decide +kernel
theorem dX7_takesAll_53 : decode cX7_takesAll 53 = .ok (.aload_n 0, 1) := by decide +kernel
theorem dX7_takesAll_54 : decode cX7_takesAll 54 = .ok (.iload_n 1, 1) := by decide +kernel
theorem dX7_takesAll_55 : decode cX7_takesAll 55 = .ok (.iload_n 2, 1) := by decide +kernel
theorem dX7_takesAll_56 : decode cX7_takesAll 56 = .ok (.invokevirtual 172, 3) := by decide +kernel
theorem dX7_takesAll_59 : decode cX7_takesAll 59 = .ok (.iinc 2 1, 3) := by decide +kernel
theorem dX7_takesAll_62 : decode cX7_takesAll 62 = .ok (.goto (-50), 3) := by decide +kernel
theorem dX7_takesAll_65 : decode cX7_takesAll 65 = .ok (.aload_n 0, 1) := by decide +kernel
theorem dX7_takesAll_66 : decode cX7_takesAll 66 = .ok (.getfield 154, 3) := by decide +kernel
theorem dX7_takesAll_69 : decode cX7_takesAll 69 = .ok (.ifCond .eq 18, 3) := by decide +kernel
theorem dX7_takesAll_72 : decode cX7_takesAll 72 = .ok (.aload_n 0, 1) := by decide +kernel
theorem dX7_takesAll_73 : decode cX7_takesAll 73 = .ok (.getfield 151, 3) := by decide +kernel
theorem dX7_takesAll_76 : decode cX7_takesAll 76 = .ok (.aload_n 0, 1) := by decide +kernel
theorem dX7_takesAll_77 : decode cX7_takesAll 77 = .ok (.getfield 148, 3) := by decide +kernel
theorem dX7_takesAll_80 : decode cX7_takesAll 80 = .ok (.if_icmp .ne 7, 3) := by decide +kernel
theorem dX7_takesAll_83 : decode cX7_takesAll 83 = .ok (.iconst 1, 1) := by decide +kernel
theorem dX7_takesAll_84 : decode cX7_takesAll 84 = .ok (.goto 4, 3) := by decide +kernel
theorem dX7_takesAll_87 : decode cX7_takesAll 87 = .ok (.iconst 0, 1) := by decide +kernel
theorem dX7_takesAll_88 : decode cX7_takesAll 88 = .ok (.ireturn, 1) := by decide +kernel
theorem dX7_fault_0 : decode cX7_fault 0 = .ok (.aload_n 0, 1) := by decide +kernel
theorem dX7_fault_1 : decode cX7_fault 1 = .ok (.ldc 176, 2) := by decide +kernel
theorem dX7_fault_3 : decode cX7_fault 3 = .ok (.invokevirtual 177, 3) := by decide +kernel
theorem dX7_fault_6 : decode cX7_fault 6 = .ok (.ifCond .eq 8, 3) := by decide +kernel
theorem dX7_fault_9 : decode cX7_fault 9 = .ok (.ldc 176, 2) := by decide +kernel
theorem dX7_fault_11 : decode cX7_fault 11 = .ok (.goto 7, 3) := by decide +kernel
theorem dX7_fault_14 : decode cX7_fault 14 = .ok (.aload_n 0, 1) := by decide +kernel
theorem dX7_fault_15 : decode cX7_fault 15 = .ok (.getfield 151, 3) := by decide +kernel
theorem dX7_fault_18 : decode cX7_fault 18 = .ok (.ireturn, 1) := by decide +kernel
theorem dX7_load_0 : decode cX7_load 0 = .ok (.aload_n 0, 1) := by decide +kernel
theorem dX7_load_1 : decode cX7_load 1 = .ok (.iload_n 2, 1) := by decide +kernel
theorem dX7_load_2 : decode cX7_load 2 = .ok (.invokevirtual 86, 3) := by decide +kernel
theorem dX7_load_5 : decode cX7_load 5 = .ok (.istore_n 3, 1) := by decide +kernel
theorem dX7_load_6 : decode cX7_load 6 = .ok (.aload_n 0, 1) := by decide +kernel
theorem dX7_load_7 : decode cX7_load 7 = .ok (.iload_n 1, 1) := by decide +kernel
theorem dX7_load_8 : decode cX7_load 8 = .ok (.iload_n 2, 1) := by decide +kernel
theorem dX7_load_9 : decode cX7_load 9 = .ok (.invokevirtual 96, 3) := by decide +kernel
theorem dX7_load_12 : decode cX7_load 12 = .ok (.ifCond .ge 6, 3) := by decide +kernel
theorem dX7_load_15 : decode cX7_load 15 = .ok (.ldc 41, 2) := by decide +kernel
theorem dX7_load_17 : decode cX7_load 17 = .ok (.ireturn, 1) := by decide +kernel
theorem dX7_load_18 : decode cX7_load 18 = .ok (.aload_n 0, 1) := by decide +kernel
theorem dX7_load_19 : decode cX7_load 19 = .ok (.ldc 176, 2) := by decide +kernel
theorem dX7_load_21 : decode cX7_load 21 = .ok (.invokevirtual 177, 3) := by decide +kernel
theorem dX7_load_24 : decode cX7_load 24 = .ok (.ifCond .ne 6, 3) := by decide +kernel
theorem dX7_load_27 : decode cX7_load 27 = .ok (.ldc 180, 2) := by decide +kernel
theorem dX7_load_29 : decode cX7_load 29 = .ok (.ireturn, 1) := by decide +kernel
theorem dX7_load_30 : decode cX7_load 30 = .ok (.aload_n 0, 1) := by decide +kernel
theorem dX7_load_31 : decode cX7_load 31 = .ok (.iload_n 3, 1) := by decide +kernel
theorem dX7_load_32 : decode cX7_load 32 = .ok (.iload_n 1, 1) := by decide +kernel
theorem dX7_load_33 : decode cX7_load 33 = .ok (.invokevirtual 99, 3) := by decide +kernel
theorem dX7_load_36 : decode cX7_load 36 = .ok (.ifCond .eq 6, 3) := by decide +kernel
theorem dX7_load_39 : decode cX7_load 39 = .ok (.ldc 103, 2) := by decide +kernel
theorem dX7_load_41 : decode cX7_load 41 = .ok (.ireturn, 1) := by decide +kernel
theorem dX7_load_42 : decode cX7_load 42 = .ok (.aload_n 0, 1) := by decide +kernel
theorem dX7_load_43 : decode cX7_load 43 = .ok (.invokevirtual 110, 3) := by decide +kernel
theorem dX7_load_46 : decode cX7_load 46 = .ok (.iconst 2, 1) := by decide +kernel
theorem dX7_load_47 : decode cX7_load 47 = .ok (.istore 4, 2) := by decide +kernel
theorem dX7_load_49 : decode cX7_load 49 = .ok (.iload 4, 2) := by decide +kernel
theorem dX7_load_51 : decode cX7_load 51 = .ok (.bipush 106, 2) := by decide +kernel
theorem dX7_load_53 : decode cX7_load 53 = .ok (.if_icmp .ge 17, 3) := by decide +kernel
theorem dX7_load_56 : decode cX7_load 56 = .ok (.aload_n 0, 1) := by decide +kernel
theorem dX7_load_57 : decode cX7_load 57 = .ok (.iload_n 3, 1) := by decide +kernel
theorem dX7_load_58 : decode cX7_load 58 = .ok (.iload 4, 2) := by decide +kernel
theorem dX7_load_60 : decode cX7_load 60 = .ok (.iconst 0, 1) := by decide +kernel
theorem dX7_load_61 : decode cX7_load 61 = .ok (.invokevirtual 70, 3) := by decide +kernel
theorem dX7_load_64 : decode cX7_load 64 = .ok (.iinc 4 1, 3) := by decide +kernel
theorem dX7_load_67 : decode cX7_load 67 = .ok (.goto (-18), 3) := by decide +kernel
theorem dX7_load_70 : decode cX7_load 70 = .ok (.aload_n 0, 1) := by decide +kernel
theorem dX7_load_71 : decode cX7_load 71 = .ok (.iload_n 3, 1) := by decide +kernel
theorem dX7_load_72 : decode cX7_load 72 = .ok (.invokevirtual 177, 3) := by decide +kernel
theorem dX7_load_75 : decode cX7_load 75 = .ok (.istore 4, 2) := by decide +kernel
theorem dX7_load_77 : decode cX7_load 77 = .ok (.iconst 0, 1) := by decide +kernel
theorem dX7_load_78 : decode cX7_load 78 = .ok (.istore 5, 2) := by decide +kernel
theorem dX7_load_80 : decode cX7_load 80 = .ok (.bipush 6, 2) := by decide +kernel
theorem dX7_load_82 : decode cX7_load 82 = .ok (.istore 6, 2) := by decide +kernel
theorem dX7_load_84 : decode cX7_load 84 = .ok (.iload 6, 2) := by decide +kernel
theorem dX7_load_86 : decode cX7_load 86 = .ok (.bipush 26, 2) := by decide +kernel
theorem dX7_load_88 : decode cX7_load 88 = .ok (.if_icmp .ge 21, 3) := by decide +kernel
theorem dX7_load_91 : decode cX7_load 91 = .ok (.iload 5, 2) := by decide +kernel
theorem dX7_load_93 : decode cX7_load 93 = .ok (.aload_n 0, 1) := by decide +kernel
theorem dX7_load_94 : decode cX7_load 94 = .ok (.iload_n 3, 1) := by decide +kernel
theorem dX7_load_95 : decode cX7_load 95 = .ok (.iload 6, 2) := by decide +kernel
theorem dX7_load_97 : decode cX7_load 97 = .ok (.invokevirtual 46, 3) := by decide +kernel
theorem dX7_load_100 : decode cX7_load 100 = .ok (.iadd, 1) := by decide +kernel
theorem dX7_load_101 : decode cX7_load 101 = .ok (.istore 5, 2) := by decide +kernel
theorem dX7_load_103 : decode cX7_load 103 = .ok (.iinc 6 1, 3) := by decide +kernel
theorem dX7_load_106 : decode cX7_load 106 = .ok (.goto (-22), 3) := by decide +kernel
theorem dX7_load_109 : decode cX7_load 109 = .ok (.aload_n 0, 1) := by decide +kernel
theorem dX7_load_110 : decode cX7_load 110 = .ok (.iload 5, 2) := by decide +kernel
theorem dX7_load_112 : decode cX7_load 112 = .ok (.invokevirtual 116, 3) := by decide +kernel
theorem dX7_load_115 : decode cX7_load 115 = .ok (.ireturn, 1) := by decide +kernel
theorem dX7_writes_0 : decode cX7_writes 0 = .ok (.aload_n 0, 1) := by decide +kernel
theorem dX7_writes_1 : decode cX7_writes 1 = .ok (.getfield 22, 3) := by decide +kernel
theorem dX7_writes_4 : decode cX7_writes 4 = .ok (.aload_n 0, 1) := by decide +kernel
theorem dX7_writes_5 : decode cX7_writes 5 = .ok (.getfield 181, 3) := by decide +kernel
theorem dX7_writes_8 : decode cX7_writes 8 = .ok (.iload_n 1, 1) := by decide +kernel
theorem dX7_writes_9 : decode cX7_writes 9 = .ok (.iastore, 1) := by decide +kernel
theorem dX7_writes_10 : decode cX7_writes 10 = .ok (.aload_n 0, 1) := by decide +kernel
theorem dX7_writes_11 : decode cX7_writes 11 = .ok (.dup, 1) := by decide +kernel
theorem dX7_writes_12 : decode cX7_writes 12 = .ok (.getfield 181, 3) := by decide +kernel
theorem dX7_writes_15 : decode cX7_writes 15 = .ok (.iconst 1, 1) := by decide +kernel
theorem dX7_writes_16 : decode cX7_writes 16 = .ok (.iadd, 1) := by decide +kernel
theorem dX7_writes_17 : decode cX7_writes 17 = .ok (.putfield 181, 3) := by decide +kernel
theorem dX7_writes_20 : decode cX7_writes 20 = .ok (.return_, 1) := by decide +kernel
theorem dX7_writesNumber_0 : decode cX7_writesNumber 0 = .ok (.iload_n 1, 1) := by decide +kernel
theorem dX7_writesNumber_1 : decode cX7_writesNumber 1 = .ok (.ifCond .ge 8, 3) := by decide +kernel
theorem dX7_writesNumber_4 : decode cX7_writesNumber 4 = .ok (.iload_n 1, 1) := by decide +kernel
theorem dX7_writesNumber_5 : decode cX7_writesNumber 5 = .ok (.ineg, 1) := by decide +kernel
theorem dX7_writesNumber_6 : decode cX7_writesNumber 6 = .ok (.goto 4, 3) := by decide +kernel
theorem dX7_writesNumber_9 : decode cX7_writesNumber 9 = .ok (.iload_n 1, 1) := by decide +kernel
theorem dX7_writesNumber_10 : decode cX7_writesNumber 10 = .ok (.istore_n 2, 1) := by decide +kernel
theorem dX7_writesNumber_11 : decode cX7_writesNumber 11 = .ok (.iload_n 1, 1) := by decide +kernel
theorem dX7_writesNumber_12 : decode cX7_writesNumber 12 = .ok (.ifCond .ge 9, 3) := by decide +kernel
theorem dX7_writesNumber_15 : decode cX7_writesNumber 15 = .ok (.aload_n 0, 1) := by decide +kernel
theorem dX7_writesNumber_16 : decode cX7_writesNumber 16 = .ok (.bipush 45, 2) := by decide +kernel
theorem dX7_writesNumber_18 : decode cX7_writesNumber 18 = .ok (.invokevirtual 184, 3) := by decide +kernel
theorem dX7_writesNumber_21 : decode cX7_writesNumber 21 = .ok (.iload_n 2, 1) := by decide +kernel
theorem dX7_writesNumber_22 : decode cX7_writesNumber 22 = .ok (.bipush 99, 2) := by decide +kernel
theorem dX7_writesNumber_24 : decode cX7_writesNumber 24 = .ok (.if_icmp .le 14, 3) := by decide +kernel
theorem dX7_writesNumber_27 : decode cX7_writesNumber 27 = .ok (.aload_n 0, 1) := by decide +kernel
theorem dX7_writesNumber_28 : decode cX7_writesNumber 28 = .ok (.bipush 48, 2) := by decide +kernel
theorem dX7_writesNumber_30 : decode cX7_writesNumber 30 = .ok (.iload_n 2, 1) := by decide +kernel
theorem dX7_writesNumber_31 : decode cX7_writesNumber 31 = .ok (.bipush 100, 2) := by decide +kernel
theorem dX7_writesNumber_33 : decode cX7_writesNumber 33 = .ok (.idiv, 1) := by decide +kernel
theorem dX7_writesNumber_34 : decode cX7_writesNumber 34 = .ok (.iadd, 1) := by decide +kernel
theorem dX7_writesNumber_35 : decode cX7_writesNumber 35 = .ok (.invokevirtual 184, 3) := by decide +kernel
theorem dX7_writesNumber_38 : decode cX7_writesNumber 38 = .ok (.iload_n 2, 1) := by decide +kernel
theorem dX7_writesNumber_39 : decode cX7_writesNumber 39 = .ok (.bipush 9, 2) := by decide +kernel
theorem dX7_writesNumber_41 : decode cX7_writesNumber 41 = .ok (.if_icmp .le 17, 3) := by decide +kernel
theorem dX7_writesNumber_44 : decode cX7_writesNumber 44 = .ok (.aload_n 0, 1) := by decide +kernel
theorem dX7_writesNumber_45 : decode cX7_writesNumber 45 = .ok (.bipush 48, 2) := by decide +kernel
theorem dX7_writesNumber_47 : decode cX7_writesNumber 47 = .ok (.iload_n 2, 1) := by decide +kernel
theorem dX7_writesNumber_48 : decode cX7_writesNumber 48 = .ok (.bipush 10, 2) := by decide +kernel
theorem dX7_writesNumber_50 : decode cX7_writesNumber 50 = .ok (.idiv, 1) := by decide +kernel
theorem dX7_writesNumber_51 : decode cX7_writesNumber 51 = .ok (.bipush 10, 2) := by decide +kernel
theorem dX7_writesNumber_53 : decode cX7_writesNumber 53 = .ok (.irem, 1) := by decide +kernel
theorem dX7_writesNumber_54 : decode cX7_writesNumber 54 = .ok (.iadd, 1) := by decide +kernel
theorem dX7_writesNumber_55 : decode cX7_writesNumber 55 = .ok (.invokevirtual 184, 3) := by decide +kernel
theorem dX7_writesNumber_58 : decode cX7_writesNumber 58 = .ok (.aload_n 0, 1) := by decide +kernel
theorem dX7_writesNumber_59 : decode cX7_writesNumber 59 = .ok (.bipush 48, 2) := by decide +kernel
theorem dX7_writesNumber_61 : decode cX7_writesNumber 61 = .ok (.iload_n 2, 1) := by decide +kernel
theorem dX7_writesNumber_62 : decode cX7_writesNumber 62 = .ok (.bipush 10, 2) := by decide +kernel
theorem dX7_writesNumber_64 : decode cX7_writesNumber 64 = .ok (.irem, 1) := by decide +kernel
theorem dX7_writesNumber_65 : decode cX7_writesNumber 65 = .ok (.iadd, 1) := by decide +kernel
theorem dX7_writesNumber_66 : decode cX7_writesNumber 66 = .ok (.invokevirtual 184, 3) := by decide +kernel
theorem dX7_writesNumber_69 : decode cX7_writesNumber 69 = .ok (.return_, 1) := by decide +kernel
theorem dX7_writesField_0 : decode cX7_writesField 0 = .ok (.iconst 0, 1) := by decide +kernel
theorem dX7_writesField_1 : decode cX7_writesField 1 = .ok (.istore_n 3, 1) := by decide +kernel
theorem dX7_writesField_2 : decode cX7_writesField 2 = .ok (.iload_n 3, 1) := by decide +kernel
theorem dX7_writesField_3 : decode cX7_writesField 3 = .ok (.aload_n 0, 1) := by decide +kernel
theorem dX7_writesField_4 : decode cX7_writesField 4 = .ok (.iload_n 1, 1) := by decide +kernel
theorem dX7_writesField_5 : decode cX7_writesField 5 = .ok (.iload_n 2, 1) := by decide +kernel
theorem dX7_writesField_6 : decode cX7_writesField 6 = .ok (.invokevirtual 61, 3) := by decide +kernel
theorem dX7_writesField_9 : decode cX7_writesField 9 = .ok (.if_icmp .ge 64, 3) := by decide +kernel
theorem dX7_writesField_12 : decode cX7_writesField 12 = .ok (.iload_n 3, 1) := by decide +kernel
theorem dX7_writesField_13 : decode cX7_writesField 13 = .ok (.ifCond .le 9, 3) := by decide +kernel
theorem dX7_writesField_16 : decode cX7_writesField 16 = .ok (.aload_n 0, 1) := by decide +kernel
theorem dX7_writesField_17 : decode cX7_writesField 17 = .ok (.bipush 93, 2) := by decide +kernel
theorem dX7_writesField_19 : decode cX7_writesField 19 = .ok (.invokevirtual 184, 3) := by decide +kernel
theorem dX7_writesField_22 : decode cX7_writesField 22 = .ok (.iconst 0, 1) := by decide +kernel
theorem dX7_writesField_23 : decode cX7_writesField 23 = .ok (.istore 4, 2) := by decide +kernel
theorem dX7_writesField_25 : decode cX7_writesField 25 = .ok (.iload 4, 2) := by decide +kernel
theorem dX7_writesField_27 : decode cX7_writesField 27 = .ok (.aload_n 0, 1) := by decide +kernel
theorem dX7_writesField_28 : decode cX7_writesField 28 = .ok (.iload_n 1, 1) := by decide +kernel
theorem dX7_writesField_29 : decode cX7_writesField 29 = .ok (.iload_n 2, 1) := by decide +kernel
theorem dX7_writesField_30 : decode cX7_writesField 30 = .ok (.iload_n 3, 1) := by decide +kernel
theorem dX7_writesField_31 : decode cX7_writesField 31 = .ok (.invokevirtual 67, 3) := by decide +kernel
theorem dX7_writesField_34 : decode cX7_writesField 34 = .ok (.if_icmp .ge 33, 3) := by decide +kernel
theorem dX7_writesField_37 : decode cX7_writesField 37 = .ok (.iload 4, 2) := by decide +kernel
theorem dX7_writesField_39 : decode cX7_writesField 39 = .ok (.ifCond .le 9, 3) := by decide +kernel
theorem dX7_writesField_42 : decode cX7_writesField 42 = .ok (.aload_n 0, 1) := by decide +kernel
theorem dX7_writesField_43 : decode cX7_writesField 43 = .ok (.bipush 47, 2) := by decide +kernel
theorem dX7_writesField_45 : decode cX7_writesField 45 = .ok (.invokevirtual 184, 3) := by decide +kernel
theorem dX7_writesField_48 : decode cX7_writesField 48 = .ok (.aload_n 0, 1) := by decide +kernel
theorem dX7_writesField_49 : decode cX7_writesField 49 = .ok (.aload_n 0, 1) := by decide +kernel
theorem dX7_writesField_50 : decode cX7_writesField 50 = .ok (.iload_n 1, 1) := by decide +kernel
theorem dX7_writesField_51 : decode cX7_writesField 51 = .ok (.iload_n 2, 1) := by decide +kernel
theorem dX7_writesField_52 : decode cX7_writesField 52 = .ok (.iload_n 3, 1) := by decide +kernel
theorem dX7_writesField_53 : decode cX7_writesField 53 = .ok (.iload 4, 2) := by decide +kernel
theorem dX7_writesField_55 : decode cX7_writesField 55 = .ok (.invokevirtual 74, 3) := by decide +kernel
theorem dX7_writesField_58 : decode cX7_writesField 58 = .ok (.invokevirtual 188, 3) := by decide +kernel
theorem dX7_writesField_61 : decode cX7_writesField 61 = .ok (.iinc 4 1, 3) := by decide +kernel
theorem dX7_writesField_64 : decode cX7_writesField 64 = .ok (.goto (-39), 3) := by decide +kernel
theorem dX7_writesField_67 : decode cX7_writesField 67 = .ok (.iinc 3 1, 3) := by decide +kernel
theorem dX7_writesField_70 : decode cX7_writesField 70 = .ok (.goto (-68), 3) := by decide +kernel
theorem dX7_writesField_73 : decode cX7_writesField 73 = .ok (.return_, 1) := by decide +kernel
theorem dX7_print_0 : decode cX7_print 0 = .ok (.aload_n 0, 1) := by decide +kernel
theorem dX7_print_1 : decode cX7_print 1 = .ok (.iload_n 1, 1) := by decide +kernel
theorem dX7_print_2 : decode cX7_print 2 = .ok (.invokevirtual 86, 3) := by decide +kernel
theorem dX7_print_5 : decode cX7_print 5 = .ok (.istore_n 2, 1) := by decide +kernel
theorem dX7_print_6 : decode cX7_print 6 = .ok (.iload_n 2, 1) := by decide +kernel
theorem dX7_print_7 : decode cX7_print 7 = .ok (.ifCond .ge 6, 3) := by decide +kernel
theorem dX7_print_10 : decode cX7_print 10 = .ok (.ldc 41, 2) := by decide +kernel
theorem dX7_print_12 : decode cX7_print 12 = .ok (.ireturn, 1) := by decide +kernel
theorem dX7_print_13 : decode cX7_print 13 = .ok (.aload_n 0, 1) := by decide +kernel
theorem dX7_print_14 : decode cX7_print 14 = .ok (.iconst 0, 1) := by decide +kernel
theorem dX7_print_15 : decode cX7_print 15 = .ok (.putfield 181, 3) := by decide +kernel
theorem dX7_print_18 : decode cX7_print 18 = .ok (.iconst 0, 1) := by decide +kernel
theorem dX7_print_19 : decode cX7_print 19 = .ok (.istore_n 3, 1) := by decide +kernel
theorem dX7_print_20 : decode cX7_print 20 = .ok (.iload_n 3, 1) := by decide +kernel
theorem dX7_print_21 : decode cX7_print 21 = .ok (.iconst 4, 1) := by decide +kernel
theorem dX7_print_22 : decode cX7_print 22 = .ok (.if_icmp .ge 25, 3) := by decide +kernel
theorem dX7_print_25 : decode cX7_print 25 = .ok (.iload_n 3, 1) := by decide +kernel
theorem dX7_print_26 : decode cX7_print 26 = .ok (.ifCond .le 9, 3) := by decide +kernel
theorem dX7_print_29 : decode cX7_print 29 = .ok (.aload_n 0, 1) := by decide +kernel
theorem dX7_print_30 : decode cX7_print 30 = .ok (.bipush 94, 2) := by decide +kernel
theorem dX7_print_32 : decode cX7_print 32 = .ok (.invokevirtual 184, 3) := by decide +kernel
theorem dX7_print_35 : decode cX7_print 35 = .ok (.aload_n 0, 1) := by decide +kernel
theorem dX7_print_36 : decode cX7_print 36 = .ok (.iload_n 2, 1) := by decide +kernel
theorem dX7_print_37 : decode cX7_print 37 = .ok (.iload_n 3, 1) := by decide +kernel
theorem dX7_print_38 : decode cX7_print 38 = .ok (.invokevirtual 191, 3) := by decide +kernel
theorem dX7_print_41 : decode cX7_print 41 = .ok (.iinc 3 1, 3) := by decide +kernel
theorem dX7_print_44 : decode cX7_print 44 = .ok (.goto (-24), 3) := by decide +kernel
theorem dX7_print_47 : decode cX7_print 47 = .ok (.aload_n 0, 1) := by decide +kernel
theorem dX7_print_48 : decode cX7_print 48 = .ok (.getfield 181, 3) := by decide +kernel
theorem dX7_print_51 : decode cX7_print 51 = .ok (.ireturn, 1) := by decide +kernel
theorem dX7_printed_0 : decode cX7_printed 0 = .ok (.iload_n 1, 1) := by decide +kernel
theorem dX7_printed_1 : decode cX7_printed 1 = .ok (.ifCond .ge 8, 3) := by decide +kernel
theorem dX7_printed_4 : decode cX7_printed 4 = .ok (.ldc 85, 2) := by decide +kernel
theorem dX7_printed_6 : decode cX7_printed 6 = .ok (.goto 22, 3) := by decide +kernel
theorem dX7_printed_9 : decode cX7_printed 9 = .ok (.iload_n 1, 1) := by decide +kernel
theorem dX7_printed_10 : decode cX7_printed 10 = .ok (.aload_n 0, 1) := by decide +kernel
theorem dX7_printed_11 : decode cX7_printed 11 = .ok (.getfield 181, 3) := by decide +kernel
theorem dX7_printed_14 : decode cX7_printed 14 = .ok (.if_icmp .ge 12, 3) := by decide +kernel
theorem dX7_printed_17 : decode cX7_printed 17 = .ok (.aload_n 0, 1) := by decide +kernel
theorem dX7_printed_18 : decode cX7_printed 18 = .ok (.getfield 22, 3) := by decide +kernel
theorem dX7_printed_21 : decode cX7_printed 21 = .ok (.iload_n 1, 1) := by decide +kernel
theorem dX7_printed_22 : decode cX7_printed 22 = .ok (.iaload, 1) := by decide +kernel
theorem dX7_printed_23 : decode cX7_printed 23 = .ok (.goto 5, 3) := by decide +kernel
theorem dX7_printed_26 : decode cX7_printed 26 = .ok (.ldc 176, 2) := by decide +kernel
theorem dX7_printed_28 : decode cX7_printed 28 = .ok (.ireturn, 1) := by decide +kernel
theorem dX7_undo_0 : decode cX7_undo 0 = .ok (.aload_n 0, 1) := by decide +kernel
theorem dX7_undo_1 : decode cX7_undo 1 = .ok (.getfield 42, 3) := by decide +kernel
theorem dX7_undo_4 : decode cX7_undo 4 = .ok (.ifCond .ne 6, 3) := by decide +kernel
theorem dX7_undo_7 : decode cX7_undo 7 = .ok (.ldc 176, 2) := by decide +kernel
theorem dX7_undo_9 : decode cX7_undo 9 = .ok (.ireturn, 1) := by decide +kernel
theorem dX7_undo_10 : decode cX7_undo 10 = .ok (.aload_n 0, 1) := by decide +kernel
theorem dX7_undo_11 : decode cX7_undo 11 = .ok (.dup, 1) := by decide +kernel
theorem dX7_undo_12 : decode cX7_undo 12 = .ok (.getfield 42, 3) := by decide +kernel
theorem dX7_undo_15 : decode cX7_undo 15 = .ok (.iconst 1, 1) := by decide +kernel
theorem dX7_undo_16 : decode cX7_undo 16 = .ok (.isub, 1) := by decide +kernel
theorem dX7_undo_17 : decode cX7_undo 17 = .ok (.putfield 42, 3) := by decide +kernel
theorem dX7_undo_20 : decode cX7_undo 20 = .ok (.aload_n 0, 1) := by decide +kernel
theorem dX7_undo_21 : decode cX7_undo 21 = .ok (.getfield 16, 3) := by decide +kernel
theorem dX7_undo_24 : decode cX7_undo 24 = .ok (.sipush 1115, 3) := by decide +kernel
theorem dX7_undo_27 : decode cX7_undo 27 = .ok (.aload_n 0, 1) := by decide +kernel
theorem dX7_undo_28 : decode cX7_undo 28 = .ok (.getfield 42, 3) := by decide +kernel
theorem dX7_undo_31 : decode cX7_undo 31 = .ok (.imul, 1) := by decide +kernel
theorem dX7_undo_32 : decode cX7_undo 32 = .ok (.aload_n 0, 1) := by decide +kernel
theorem dX7_undo_33 : decode cX7_undo 33 = .ok (.getfield 7, 3) := by decide +kernel
theorem dX7_undo_36 : decode cX7_undo 36 = .ok (.iconst 0, 1) := by decide +kernel
theorem dX7_undo_37 : decode cX7_undo 37 = .ok (.invokestatic 37, 3) := by decide +kernel
theorem dX7_undo_40 : decode cX7_undo 40 = .ok (.aload_n 0, 1) := by decide +kernel
theorem dX7_undo_41 : decode cX7_undo 41 = .ok (.getfield 42, 3) := by decide +kernel
theorem dX7_undo_44 : decode cX7_undo 44 = .ok (.ireturn, 1) := by decide +kernel
theorem dX7_isColumn_0 : decode cX7_isColumn 0 = .ok (.iload_n 0, 1) := by decide +kernel
theorem dX7_isColumn_1 : decode cX7_isColumn 1 = .ok (.iconst 0, 1) := by decide +kernel
theorem dX7_isColumn_2 : decode cX7_isColumn 2 = .ok (.iconst 5, 1) := by decide +kernel
theorem dX7_isColumn_3 : decode cX7_isColumn 3 = .ok (.invokestatic 50, 3) := by decide +kernel
theorem dX7_isColumn_6 : decode cX7_isColumn 6 = .ok (.ireturn, 1) := by decide +kernel
theorem dX7_isList_0 : decode cX7_isList 0 = .ok (.iload_n 0, 1) := by decide +kernel
theorem dX7_isList_1 : decode cX7_isList 1 = .ok (.iconst 0, 1) := by decide +kernel
theorem dX7_isList_2 : decode cX7_isList 2 = .ok (.bipush 7, 2) := by decide +kernel
theorem dX7_isList_4 : decode cX7_isList 4 = .ok (.invokestatic 50, 3) := by decide +kernel
theorem dX7_isList_7 : decode cX7_isList 7 = .ok (.ireturn, 1) := by decide +kernel
theorem dX7_ofColumn_0 : decode cX7_ofColumn 0 = .ok (.aload_n 0, 1) := by decide +kernel
theorem dX7_ofColumn_1 : decode cX7_ofColumn 1 = .ok (.getfield 7, 3) := by decide +kernel
theorem dX7_ofColumn_4 : decode cX7_ofColumn 4 = .ok (.iconst 5, 1) := by decide +kernel
theorem dX7_ofColumn_5 : decode cX7_ofColumn 5 = .ok (.iconst 3, 1) := by decide +kernel
theorem dX7_ofColumn_6 : decode cX7_ofColumn 6 = .ok (.iload_n 1, 1) := by decide +kernel
theorem dX7_ofColumn_7 : decode cX7_ofColumn 7 = .ok (.imul, 1) := by decide +kernel
theorem dX7_ofColumn_8 : decode cX7_ofColumn 8 = .ok (.iadd, 1) := by decide +kernel
theorem dX7_ofColumn_9 : decode cX7_ofColumn 9 = .ok (.iload_n 2, 1) := by decide +kernel
theorem dX7_ofColumn_10 : decode cX7_ofColumn 10 = .ok (.iadd, 1) := by decide +kernel
theorem dX7_ofColumn_11 : decode cX7_ofColumn 11 = .ok (.iaload, 1) := by decide +kernel
theorem dX7_ofColumn_12 : decode cX7_ofColumn 12 = .ok (.ireturn, 1) := by decide +kernel
theorem dX7_gives_0 : decode cX7_gives 0 = .ok (.aload_n 0, 1) := by decide +kernel
theorem dX7_gives_1 : decode cX7_gives 1 = .ok (.getfield 25, 3) := by decide +kernel
theorem dX7_gives_4 : decode cX7_gives 4 = .ok (.aload_n 0, 1) := by decide +kernel
theorem dX7_gives_5 : decode cX7_gives 5 = .ok (.getfield 194, 3) := by decide +kernel
theorem dX7_gives_8 : decode cX7_gives 8 = .ok (.iload_n 1, 1) := by decide +kernel
theorem dX7_gives_9 : decode cX7_gives 9 = .ok (.iastore, 1) := by decide +kernel
theorem dX7_gives_10 : decode cX7_gives 10 = .ok (.aload_n 0, 1) := by decide +kernel
theorem dX7_gives_11 : decode cX7_gives 11 = .ok (.dup, 1) := by decide +kernel
theorem dX7_gives_12 : decode cX7_gives 12 = .ok (.getfield 194, 3) := by decide +kernel
theorem dX7_gives_15 : decode cX7_gives 15 = .ok (.iconst 1, 1) := by decide +kernel
theorem dX7_gives_16 : decode cX7_gives 16 = .ok (.iadd, 1) := by decide +kernel
theorem dX7_gives_17 : decode cX7_gives 17 = .ok (.putfield 194, 3) := by decide +kernel
theorem dX7_gives_20 : decode cX7_gives 20 = .ok (.return_, 1) := by decide +kernel
theorem dX7_givesAll_0 : decode cX7_givesAll 0 = .ok (.iconst 0, 1) := by decide +kernel
theorem dX7_givesAll_1 : decode cX7_givesAll 1 = .ok (.istore_n 3, 1) := by decide +kernel
theorem dX7_givesAll_2 : decode cX7_givesAll 2 = .ok (.iload_n 3, 1) := by decide +kernel
theorem dX7_givesAll_3 : decode cX7_givesAll 3 = .ok (.aload_n 0, 1) := by decide +kernel
theorem dX7_givesAll_4 : decode cX7_givesAll 4 = .ok (.iload_n 1, 1) := by decide +kernel
theorem dX7_givesAll_5 : decode cX7_givesAll 5 = .ok (.iload_n 2, 1) := by decide +kernel
theorem dX7_givesAll_6 : decode cX7_givesAll 6 = .ok (.invokevirtual 61, 3) := by decide +kernel
theorem dX7_givesAll_9 : decode cX7_givesAll 9 = .ok (.if_icmp .ge 43, 3) := by decide +kernel
theorem dX7_givesAll_12 : decode cX7_givesAll 12 = .ok (.iconst 0, 1) := by decide +kernel
theorem dX7_givesAll_13 : decode cX7_givesAll 13 = .ok (.istore 4, 2) := by decide +kernel
theorem dX7_givesAll_15 : decode cX7_givesAll 15 = .ok (.iload 4, 2) := by decide +kernel
theorem dX7_givesAll_17 : decode cX7_givesAll 17 = .ok (.aload_n 0, 1) := by decide +kernel
theorem dX7_givesAll_18 : decode cX7_givesAll 18 = .ok (.iload_n 1, 1) := by decide +kernel
theorem dX7_givesAll_19 : decode cX7_givesAll 19 = .ok (.iload_n 2, 1) := by decide +kernel
theorem dX7_givesAll_20 : decode cX7_givesAll 20 = .ok (.iload_n 3, 1) := by decide +kernel
theorem dX7_givesAll_21 : decode cX7_givesAll 21 = .ok (.invokevirtual 67, 3) := by decide +kernel
theorem dX7_givesAll_24 : decode cX7_givesAll 24 = .ok (.if_icmp .ge 22, 3) := by decide +kernel
theorem dX7_givesAll_27 : decode cX7_givesAll 27 = .ok (.aload_n 0, 1) := by decide +kernel
theorem dX7_givesAll_28 : decode cX7_givesAll 28 = .ok (.aload_n 0, 1) := by decide +kernel
theorem dX7_givesAll_29 : decode cX7_givesAll 29 = .ok (.iload_n 1, 1) := by decide +kernel
theorem dX7_givesAll_30 : decode cX7_givesAll 30 = .ok (.iload_n 2, 1) := by decide +kernel
theorem dX7_givesAll_31 : decode cX7_givesAll 31 = .ok (.iload_n 3, 1) := by decide +kernel
theorem dX7_givesAll_32 : decode cX7_givesAll 32 = .ok (.iload 4, 2) := by decide +kernel
theorem dX7_givesAll_34 : decode cX7_givesAll 34 = .ok (.invokevirtual 74, 3) := by decide +kernel
theorem dX7_givesAll_37 : decode cX7_givesAll 37 = .ok (.invokevirtual 197, 3) := by decide +kernel
theorem dX7_givesAll_40 : decode cX7_givesAll 40 = .ok (.iinc 4 1, 3) := by decide +kernel
theorem dX7_givesAll_43 : decode cX7_givesAll 43 = .ok (.goto (-28), 3) := by decide +kernel
theorem dX7_givesAll_46 : decode cX7_givesAll 46 = .ok (.iinc 3 1, 3) := by decide +kernel
theorem dX7_givesAll_49 : decode cX7_givesAll 49 = .ok (.goto (-47), 3) := by decide +kernel
theorem dX7_givesAll_52 : decode cX7_givesAll 52 = .ok (.return_, 1) := by decide +kernel
theorem dX7_sumOf_0 : decode cX7_sumOf 0 = .ok (.iconst 0, 1) := by decide +kernel
theorem dX7_sumOf_1 : decode cX7_sumOf 1 = .ok (.istore_n 3, 1) := by decide +kernel
theorem dX7_sumOf_2 : decode cX7_sumOf 2 = .ok (.iconst 0, 1) := by decide +kernel
theorem dX7_sumOf_3 : decode cX7_sumOf 3 = .ok (.istore 4, 2) := by decide +kernel
theorem dX7_sumOf_5 : decode cX7_sumOf 5 = .ok (.iload 4, 2) := by decide +kernel
theorem dX7_sumOf_7 : decode cX7_sumOf 7 = .ok (.aload_n 0, 1) := by decide +kernel
theorem dX7_sumOf_8 : decode cX7_sumOf 8 = .ok (.iload_n 1, 1) := by decide +kernel
theorem dX7_sumOf_9 : decode cX7_sumOf 9 = .ok (.iload_n 2, 1) := by decide +kernel
theorem dX7_sumOf_10 : decode cX7_sumOf 10 = .ok (.invokevirtual 61, 3) := by decide +kernel
theorem dX7_sumOf_13 : decode cX7_sumOf 13 = .ok (.if_icmp .ge 44, 3) := by decide +kernel
theorem dX7_sumOf_16 : decode cX7_sumOf 16 = .ok (.iconst 0, 1) := by decide +kernel
theorem dX7_sumOf_17 : decode cX7_sumOf 17 = .ok (.istore 5, 2) := by decide +kernel
theorem dX7_sumOf_19 : decode cX7_sumOf 19 = .ok (.iload 5, 2) := by decide +kernel
theorem dX7_sumOf_21 : decode cX7_sumOf 21 = .ok (.aload_n 0, 1) := by decide +kernel
theorem dX7_sumOf_22 : decode cX7_sumOf 22 = .ok (.iload_n 1, 1) := by decide +kernel
theorem dX7_sumOf_23 : decode cX7_sumOf 23 = .ok (.iload_n 2, 1) := by decide +kernel
theorem dX7_sumOf_24 : decode cX7_sumOf 24 = .ok (.iload 4, 2) := by decide +kernel
theorem dX7_sumOf_26 : decode cX7_sumOf 26 = .ok (.invokevirtual 67, 3) := by decide +kernel
theorem dX7_sumOf_29 : decode cX7_sumOf 29 = .ok (.if_icmp .ge 22, 3) := by decide +kernel
theorem dX7_sumOf_32 : decode cX7_sumOf 32 = .ok (.iload_n 3, 1) := by decide +kernel
theorem dX7_sumOf_33 : decode cX7_sumOf 33 = .ok (.aload_n 0, 1) := by decide +kernel
theorem dX7_sumOf_34 : decode cX7_sumOf 34 = .ok (.iload_n 1, 1) := by decide +kernel
theorem dX7_sumOf_35 : decode cX7_sumOf 35 = .ok (.iload_n 2, 1) := by decide +kernel
theorem dX7_sumOf_36 : decode cX7_sumOf 36 = .ok (.iload 4, 2) := by decide +kernel
theorem dX7_sumOf_38 : decode cX7_sumOf 38 = .ok (.iload 5, 2) := by decide +kernel
theorem dX7_sumOf_40 : decode cX7_sumOf 40 = .ok (.invokevirtual 74, 3) := by decide +kernel
theorem dX7_sumOf_43 : decode cX7_sumOf 43 = .ok (.iadd, 1) := by decide +kernel
theorem dX7_sumOf_44 : decode cX7_sumOf 44 = .ok (.istore_n 3, 1) := by decide +kernel
theorem dX7_sumOf_45 : decode cX7_sumOf 45 = .ok (.iinc 5 1, 3) := by decide +kernel
theorem dX7_sumOf_48 : decode cX7_sumOf 48 = .ok (.goto (-29), 3) := by decide +kernel
theorem dX7_sumOf_51 : decode cX7_sumOf 51 = .ok (.iinc 4 1, 3) := by decide +kernel
theorem dX7_sumOf_54 : decode cX7_sumOf 54 = .ok (.goto (-49), 3) := by decide +kernel
theorem dX7_sumOf_57 : decode cX7_sumOf 57 = .ok (.iload_n 3, 1) := by decide +kernel
theorem dX7_sumOf_58 : decode cX7_sumOf 58 = .ok (.ireturn, 1) := by decide +kernel
theorem dX7_givesGreatest_0 : decode cX7_givesGreatest 0 = .ok (.iconst 0, 1) := by decide +kernel
theorem dX7_givesGreatest_1 : decode cX7_givesGreatest 1 = .ok (.istore_n 3, 1) := by decide +kernel
theorem dX7_givesGreatest_2 : decode cX7_givesGreatest 2 = .ok (.iload_n 3, 1) := by decide +kernel
theorem dX7_givesGreatest_3 : decode cX7_givesGreatest 3 = .ok (.aload_n 0, 1) := by decide +kernel
theorem dX7_givesGreatest_4 : decode cX7_givesGreatest 4 = .ok (.iload_n 1, 1) := by decide +kernel
theorem dX7_givesGreatest_5 : decode cX7_givesGreatest 5 = .ok (.iload_n 2, 1) := by decide +kernel
theorem dX7_givesGreatest_6 : decode cX7_givesGreatest 6 = .ok (.invokevirtual 61, 3) := by decide +kernel
theorem dX7_givesGreatest_9 : decode cX7_givesGreatest 9 = .ok (.if_icmp .ge 76, 3) := by decide +kernel
theorem dX7_givesGreatest_12 : decode cX7_givesGreatest 12 = .ok (.aload_n 0, 1) := by decide +kernel
theorem dX7_givesGreatest_13 : decode cX7_givesGreatest 13 = .ok (.iload_n 1, 1) := by decide +kernel
theorem dX7_givesGreatest_14 : decode cX7_givesGreatest 14 = .ok (.iload_n 2, 1) := by decide +kernel
theorem dX7_givesGreatest_15 : decode cX7_givesGreatest 15 = .ok (.iload_n 3, 1) := by decide +kernel
theorem dX7_givesGreatest_16 : decode cX7_givesGreatest 16 = .ok (.iconst 0, 1) := by decide +kernel
theorem dX7_givesGreatest_17 : decode cX7_givesGreatest 17 = .ok (.invokevirtual 74, 3) := by decide +kernel
theorem dX7_givesGreatest_20 : decode cX7_givesGreatest 20 = .ok (.istore 4, 2) := by decide +kernel
theorem dX7_givesGreatest_22 : decode cX7_givesGreatest 22 = .ok (.iconst 1, 1) := by decide +kernel
theorem dX7_givesGreatest_23 : decode cX7_givesGreatest 23 = .ok (.istore 5, 2) := by decide +kernel
theorem dX7_givesGreatest_25 : decode cX7_givesGreatest 25 = .ok (.iload 5, 2) := by decide +kernel
theorem dX7_givesGreatest_27 : decode cX7_givesGreatest 27 = .ok (.aload_n 0, 1) := by decide +kernel
theorem dX7_givesGreatest_28 : decode cX7_givesGreatest 28 = .ok (.iload_n 1, 1) := by decide +kernel
theorem dX7_givesGreatest_29 : decode cX7_givesGreatest 29 = .ok (.iload_n 2, 1) := by decide +kernel
theorem dX7_givesGreatest_30 : decode cX7_givesGreatest 30 = .ok (.iload_n 3, 1) := by decide +kernel
theorem dX7_givesGreatest_31 : decode cX7_givesGreatest 31 = .ok (.invokevirtual 67, 3) := by decide +kernel
theorem dX7_givesGreatest_34 : decode cX7_givesGreatest 34 = .ok (.if_icmp .ge 39, 3) := by decide +kernel
theorem dX7_givesGreatest_37 : decode cX7_givesGreatest 37 = .ok (.aload_n 0, 1) := by decide +kernel
theorem dX7_givesGreatest_38 : decode cX7_givesGreatest 38 = .ok (.iload_n 1, 1) := by decide +kernel
theorem dX7_givesGreatest_39 : decode cX7_givesGreatest 39 = .ok (.iload_n 2, 1) := by decide +kernel
theorem dX7_givesGreatest_40 : decode cX7_givesGreatest 40 = .ok (.iload_n 3, 1) := by decide +kernel
theorem dX7_givesGreatest_41 : decode cX7_givesGreatest 41 = .ok (.iload 5, 2) := by decide +kernel
theorem dX7_givesGreatest_43 : decode cX7_givesGreatest 43 = .ok (.invokevirtual 74, 3) := by decide +kernel
theorem dX7_givesGreatest_46 : decode cX7_givesGreatest 46 = .ok (.iload 4, 2) := by decide +kernel
theorem dX7_givesGreatest_48 : decode cX7_givesGreatest 48 = .ok (.if_icmp .le 15, 3) := by decide +kernel
theorem dX7_givesGreatest_51 : decode cX7_givesGreatest 51 = .ok (.aload_n 0, 1) := by decide +kernel
theorem dX7_givesGreatest_52 : decode cX7_givesGreatest 52 = .ok (.iload_n 1, 1) := by decide +kernel
theorem dX7_givesGreatest_53 : decode cX7_givesGreatest 53 = .ok (.iload_n 2, 1) := by decide +kernel
theorem dX7_givesGreatest_54 : decode cX7_givesGreatest 54 = .ok (.iload_n 3, 1) := by decide +kernel
theorem dX7_givesGreatest_55 : decode cX7_givesGreatest 55 = .ok (.iload 5, 2) := by decide +kernel
theorem dX7_givesGreatest_57 : decode cX7_givesGreatest 57 = .ok (.invokevirtual 74, 3) := by decide +kernel
theorem dX7_givesGreatest_60 : decode cX7_givesGreatest 60 = .ok (.goto 5, 3) := by decide +kernel
theorem dX7_givesGreatest_63 : decode cX7_givesGreatest 63 = .ok (.iload 4, 2) := by decide +kernel
theorem dX7_givesGreatest_65 : decode cX7_givesGreatest 65 = .ok (.istore 4, 2) := by decide +kernel
theorem dX7_givesGreatest_67 : decode cX7_givesGreatest 67 = .ok (.iinc 5 1, 3) := by decide +kernel
theorem dX7_givesGreatest_70 : decode cX7_givesGreatest 70 = .ok (.goto (-45), 3) := by decide +kernel
theorem dX7_givesGreatest_73 : decode cX7_givesGreatest 73 = .ok (.aload_n 0, 1) := by decide +kernel
theorem dX7_givesGreatest_74 : decode cX7_givesGreatest 74 = .ok (.iload 4, 2) := by decide +kernel
theorem dX7_givesGreatest_76 : decode cX7_givesGreatest 76 = .ok (.invokevirtual 197, 3) := by decide +kernel
theorem dX7_givesGreatest_79 : decode cX7_givesGreatest 79 = .ok (.iinc 3 1, 3) := by decide +kernel
theorem dX7_givesGreatest_82 : decode cX7_givesGreatest 82 = .ok (.goto (-80), 3) := by decide +kernel
theorem dX7_givesGreatest_85 : decode cX7_givesGreatest 85 = .ok (.return_, 1) := by decide +kernel
theorem dX7_givesProducts_0 : decode cX7_givesProducts 0 = .ok (.iconst 0, 1) := by decide +kernel
theorem dX7_givesProducts_1 : decode cX7_givesProducts 1 = .ok (.istore 4, 2) := by decide +kernel
theorem dX7_givesProducts_3 : decode cX7_givesProducts 3 = .ok (.aload_n 0, 1) := by decide +kernel
theorem dX7_givesProducts_4 : decode cX7_givesProducts 4 = .ok (.iload_n 1, 1) := by decide +kernel
theorem dX7_givesProducts_5 : decode cX7_givesProducts 5 = .ok (.iload_n 2, 1) := by decide +kernel
theorem dX7_givesProducts_6 : decode cX7_givesProducts 6 = .ok (.iload 4, 2) := by decide +kernel
theorem dX7_givesProducts_8 : decode cX7_givesProducts 8 = .ok (.invokevirtual 64, 3) := by decide +kernel
theorem dX7_givesProducts_11 : decode cX7_givesProducts 11 = .ok (.ifCond .eq 43, 3) := by decide +kernel
theorem dX7_givesProducts_14 : decode cX7_givesProducts 14 = .ok (.aload_n 0, 1) := by decide +kernel
theorem dX7_givesProducts_15 : decode cX7_givesProducts 15 = .ok (.iload_n 1, 1) := by decide +kernel
theorem dX7_givesProducts_16 : decode cX7_givesProducts 16 = .ok (.iload_n 3, 1) := by decide +kernel
theorem dX7_givesProducts_17 : decode cX7_givesProducts 17 = .ok (.iload 4, 2) := by decide +kernel
theorem dX7_givesProducts_19 : decode cX7_givesProducts 19 = .ok (.invokevirtual 64, 3) := by decide +kernel
theorem dX7_givesProducts_22 : decode cX7_givesProducts 22 = .ok (.ifCond .eq 32, 3) := by decide +kernel
theorem dX7_givesProducts_25 : decode cX7_givesProducts 25 = .ok (.aload_n 0, 1) := by decide +kernel
theorem dX7_givesProducts_26 : decode cX7_givesProducts 26 = .ok (.aload_n 0, 1) := by decide +kernel
theorem dX7_givesProducts_27 : decode cX7_givesProducts 27 = .ok (.iload_n 1, 1) := by decide +kernel
theorem dX7_givesProducts_28 : decode cX7_givesProducts 28 = .ok (.iload_n 2, 1) := by decide +kernel
theorem dX7_givesProducts_29 : decode cX7_givesProducts 29 = .ok (.iload 4, 2) := by decide +kernel
theorem dX7_givesProducts_31 : decode cX7_givesProducts 31 = .ok (.iconst 0, 1) := by decide +kernel
theorem dX7_givesProducts_32 : decode cX7_givesProducts 32 = .ok (.invokevirtual 74, 3) := by decide +kernel
theorem dX7_givesProducts_35 : decode cX7_givesProducts 35 = .ok (.aload_n 0, 1) := by decide +kernel
theorem dX7_givesProducts_36 : decode cX7_givesProducts 36 = .ok (.iload_n 1, 1) := by decide +kernel
theorem dX7_givesProducts_37 : decode cX7_givesProducts 37 = .ok (.iload_n 3, 1) := by decide +kernel
theorem dX7_givesProducts_38 : decode cX7_givesProducts 38 = .ok (.iload 4, 2) := by decide +kernel
theorem dX7_givesProducts_40 : decode cX7_givesProducts 40 = .ok (.iconst 0, 1) := by decide +kernel
theorem dX7_givesProducts_41 : decode cX7_givesProducts 41 = .ok (.invokevirtual 74, 3) := by decide +kernel
theorem dX7_givesProducts_44 : decode cX7_givesProducts 44 = .ok (.imul, 1) := by decide +kernel
theorem dX7_givesProducts_45 : decode cX7_givesProducts 45 = .ok (.invokevirtual 197, 3) := by decide +kernel
theorem dX7_givesProducts_48 : decode cX7_givesProducts 48 = .ok (.iinc 4 1, 3) := by decide +kernel
theorem dX7_givesProducts_51 : decode cX7_givesProducts 51 = .ok (.goto (-48), 3) := by decide +kernel
theorem dX7_givesProducts_54 : decode cX7_givesProducts 54 = .ok (.return_, 1) := by decide +kernel
theorem dX7_tells_0 : decode cX7_tells 0 = .ok (.aload_n 0, 1) := by decide +kernel
theorem dX7_tells_1 : decode cX7_tells 1 = .ok (.iconst 0, 1) := by decide +kernel
theorem dX7_tells_2 : decode cX7_tells 2 = .ok (.putfield 194, 3) := by decide +kernel
theorem dX7_tells_5 : decode cX7_tells 5 = .ok (.aload_n 0, 1) := by decide +kernel
theorem dX7_tells_6 : decode cX7_tells 6 = .ok (.iload_n 2, 1) := by decide +kernel
theorem dX7_tells_7 : decode cX7_tells 7 = .ok (.iconst 1, 1) := by decide +kernel
theorem dX7_tells_8 : decode cX7_tells 8 = .ok (.invokevirtual 200, 3) := by decide +kernel
theorem dX7_tells_11 : decode cX7_tells 11 = .ok (.istore_n 3, 1) := by decide +kernel
theorem dX7_tells_12 : decode cX7_tells 12 = .ok (.aload_n 0, 1) := by decide +kernel
theorem dX7_tells_13 : decode cX7_tells 13 = .ok (.iload_n 2, 1) := by decide +kernel
theorem dX7_tells_14 : decode cX7_tells 14 = .ok (.iconst 0, 1) := by decide +kernel
theorem dX7_tells_15 : decode cX7_tells 15 = .ok (.invokevirtual 200, 3) := by decide +kernel
theorem dX7_tells_18 : decode cX7_tells 18 = .ok (.tableswitch 74 0 3 #[30, 39, 52, 65], 30) := by decide +kernel
theorem dX7_tells_48 : decode cX7_tells 48 = .ok (.aload_n 0, 1) := by decide +kernel
theorem dX7_tells_49 : decode cX7_tells 49 = .ok (.iload_n 1, 1) := by decide +kernel
theorem dX7_tells_50 : decode cX7_tells 50 = .ok (.iload_n 3, 1) := by decide +kernel
theorem dX7_tells_51 : decode cX7_tells 51 = .ok (.invokevirtual 203, 3) := by decide +kernel
theorem dX7_tells_54 : decode cX7_tells 54 = .ok (.goto 50, 3) := by decide +kernel
theorem dX7_tells_57 : decode cX7_tells 57 = .ok (.aload_n 0, 1) := by decide +kernel
theorem dX7_tells_58 : decode cX7_tells 58 = .ok (.aload_n 0, 1) := by decide +kernel
theorem dX7_tells_59 : decode cX7_tells 59 = .ok (.iload_n 1, 1) := by decide +kernel
theorem dX7_tells_60 : decode cX7_tells 60 = .ok (.iload_n 3, 1) := by decide +kernel
theorem dX7_tells_61 : decode cX7_tells 61 = .ok (.invokevirtual 61, 3) := by decide +kernel
theorem dX7_tells_64 : decode cX7_tells 64 = .ok (.invokevirtual 197, 3) := by decide +kernel
theorem dX7_tells_67 : decode cX7_tells 67 = .ok (.goto 37, 3) := by decide +kernel
theorem dX7_tells_70 : decode cX7_tells 70 = .ok (.aload_n 0, 1) := by decide +kernel
theorem dX7_tells_71 : decode cX7_tells 71 = .ok (.aload_n 0, 1) := by decide +kernel
theorem dX7_tells_72 : decode cX7_tells 72 = .ok (.iload_n 1, 1) := by decide +kernel
theorem dX7_tells_73 : decode cX7_tells 73 = .ok (.iload_n 3, 1) := by decide +kernel
theorem dX7_tells_74 : decode cX7_tells 74 = .ok (.invokevirtual 206, 3) := by decide +kernel
theorem dX7_tells_77 : decode cX7_tells 77 = .ok (.invokevirtual 197, 3) := by decide +kernel
theorem dX7_tells_80 : decode cX7_tells 80 = .ok (.goto 24, 3) := by decide +kernel
theorem dX7_tells_83 : decode cX7_tells 83 = .ok (.aload_n 0, 1) := by decide +kernel
theorem dX7_tells_84 : decode cX7_tells 84 = .ok (.iload_n 1, 1) := by decide +kernel
theorem dX7_tells_85 : decode cX7_tells 85 = .ok (.iload_n 3, 1) := by decide +kernel
theorem dX7_tells_86 : decode cX7_tells 86 = .ok (.invokevirtual 209, 3) := by decide +kernel
theorem dX7_tells_89 : decode cX7_tells 89 = .ok (.goto 15, 3) := by decide +kernel
theorem dX7_tells_92 : decode cX7_tells 92 = .ok (.aload_n 0, 1) := by decide +kernel
theorem dX7_tells_93 : decode cX7_tells 93 = .ok (.iload_n 1, 1) := by decide +kernel
theorem dX7_tells_94 : decode cX7_tells 94 = .ok (.iload_n 3, 1) := by decide +kernel
theorem dX7_tells_95 : decode cX7_tells 95 = .ok (.aload_n 0, 1) := by decide +kernel
theorem dX7_tells_96 : decode cX7_tells 96 = .ok (.iload_n 2, 1) := by decide +kernel
theorem dX7_tells_97 : decode cX7_tells 97 = .ok (.iconst 2, 1) := by decide +kernel
theorem dX7_tells_98 : decode cX7_tells 98 = .ok (.invokevirtual 200, 3) := by decide +kernel
theorem dX7_tells_101 : decode cX7_tells 101 = .ok (.invokevirtual 212, 3) := by decide +kernel
theorem dX7_tells_104 : decode cX7_tells 104 = .ok (.aload_n 0, 1) := by decide +kernel
theorem dX7_tells_105 : decode cX7_tells 105 = .ok (.getfield 194, 3) := by decide +kernel
theorem dX7_tells_108 : decode cX7_tells 108 = .ok (.ireturn, 1) := by decide +kernel
theorem dX7_goAssociate_0 : decode cX7_goAssociate 0 = .ok (.iload_n 1, 1) := by decide +kernel
theorem dX7_goAssociate_1 : decode cX7_goAssociate 1 = .ok (.invokestatic 128, 3) := by decide +kernel
theorem dX7_goAssociate_4 : decode cX7_goAssociate 4 = .ok (.ifCond .ne 6, 3) := by decide +kernel
theorem dX7_goAssociate_7 : decode cX7_goAssociate 7 = .ok (.ldc 41, 2) := by decide +kernel
theorem dX7_goAssociate_9 : decode cX7_goAssociate 9 = .ok (.ireturn, 1) := by decide +kernel
theorem dX7_goAssociate_10 : decode cX7_goAssociate 10 = .ok (.aload_n 0, 1) := by decide +kernel
theorem dX7_goAssociate_11 : decode cX7_goAssociate 11 = .ok (.getfield 7, 3) := by decide +kernel
theorem dX7_goAssociate_14 : decode cX7_goAssociate 14 = .ok (.iconst 1, 1) := by decide +kernel
theorem dX7_goAssociate_15 : decode cX7_goAssociate 15 = .ok (.iload_n 1, 1) := by decide +kernel
theorem dX7_goAssociate_16 : decode cX7_goAssociate 16 = .ok (.iadd, 1) := by decide +kernel
theorem dX7_goAssociate_17 : decode cX7_goAssociate 17 = .ok (.iload_n 2, 1) := by decide +kernel
theorem dX7_goAssociate_18 : decode cX7_goAssociate 18 = .ok (.ifCond .eq 7, 3) := by decide +kernel
theorem dX7_goAssociate_21 : decode cX7_goAssociate 21 = .ok (.iconst 1, 1) := by decide +kernel
theorem dX7_goAssociate_22 : decode cX7_goAssociate 22 = .ok (.goto 4, 3) := by decide +kernel
theorem dX7_goAssociate_25 : decode cX7_goAssociate 25 = .ok (.iconst 0, 1) := by decide +kernel
theorem dX7_goAssociate_26 : decode cX7_goAssociate 26 = .ok (.iastore, 1) := by decide +kernel
theorem dX7_goAssociate_27 : decode cX7_goAssociate 27 = .ok (.aload_n 0, 1) := by decide +kernel
theorem dX7_goAssociate_28 : decode cX7_goAssociate 28 = .ok (.getfield 7, 3) := by decide +kernel
theorem dX7_goAssociate_31 : decode cX7_goAssociate 31 = .ok (.iconst 1, 1) := by decide +kernel
theorem dX7_goAssociate_32 : decode cX7_goAssociate 32 = .ok (.iaload, 1) := by decide +kernel
theorem dX7_goAssociate_33 : decode cX7_goAssociate 33 = .ok (.aload_n 0, 1) := by decide +kernel
theorem dX7_goAssociate_34 : decode cX7_goAssociate 34 = .ok (.getfield 7, 3) := by decide +kernel
theorem dX7_goAssociate_37 : decode cX7_goAssociate 37 = .ok (.iconst 2, 1) := by decide +kernel
theorem dX7_goAssociate_38 : decode cX7_goAssociate 38 = .ok (.iaload, 1) := by decide +kernel
theorem dX7_goAssociate_39 : decode cX7_goAssociate 39 = .ok (.iadd, 1) := by decide +kernel
theorem dX7_goAssociate_40 : decode cX7_goAssociate 40 = .ok (.aload_n 0, 1) := by decide +kernel
theorem dX7_goAssociate_41 : decode cX7_goAssociate 41 = .ok (.getfield 7, 3) := by decide +kernel
theorem dX7_goAssociate_44 : decode cX7_goAssociate 44 = .ok (.iconst 3, 1) := by decide +kernel
theorem dX7_goAssociate_45 : decode cX7_goAssociate 45 = .ok (.iaload, 1) := by decide +kernel
theorem dX7_goAssociate_46 : decode cX7_goAssociate 46 = .ok (.iadd, 1) := by decide +kernel
theorem dX7_goAssociate_47 : decode cX7_goAssociate 47 = .ok (.aload_n 0, 1) := by decide +kernel
theorem dX7_goAssociate_48 : decode cX7_goAssociate 48 = .ok (.getfield 7, 3) := by decide +kernel
theorem dX7_goAssociate_51 : decode cX7_goAssociate 51 = .ok (.iconst 4, 1) := by decide +kernel
theorem dX7_goAssociate_52 : decode cX7_goAssociate 52 = .ok (.iaload, 1) := by decide +kernel
theorem dX7_goAssociate_53 : decode cX7_goAssociate 53 = .ok (.iadd, 1) := by decide +kernel
theorem dX7_goAssociate_54 : decode cX7_goAssociate 54 = .ok (.ireturn, 1) := by decide +kernel
theorem dX7_goDefine_0 : decode cX7_goDefine 0 = .ok (.iload_n 1, 1) := by decide +kernel
theorem dX7_goDefine_1 : decode cX7_goDefine 1 = .ok (.invokestatic 215, 3) := by decide +kernel
theorem dX7_goDefine_4 : decode cX7_goDefine 4 = .ok (.ifCond .eq 18, 3) := by decide +kernel
theorem dX7_goDefine_7 : decode cX7_goDefine 7 = .ok (.iload_n 3, 1) := by decide +kernel
theorem dX7_goDefine_8 : decode cX7_goDefine 8 = .ok (.invokestatic 128, 3) := by decide +kernel
theorem dX7_goDefine_11 : decode cX7_goDefine 11 = .ok (.ifCond .eq 11, 3) := by decide +kernel
theorem dX7_goDefine_14 : decode cX7_goDefine 14 = .ok (.iload 4, 2) := by decide +kernel
theorem dX7_goDefine_16 : decode cX7_goDefine 16 = .ok (.invokestatic 128, 3) := by decide +kernel
theorem dX7_goDefine_19 : decode cX7_goDefine 19 = .ok (.ifCond .ne 6, 3) := by decide +kernel
theorem dX7_goDefine_22 : decode cX7_goDefine 22 = .ok (.ldc 41, 2) := by decide +kernel
theorem dX7_goDefine_24 : decode cX7_goDefine 24 = .ok (.ireturn, 1) := by decide +kernel
theorem dX7_goDefine_25 : decode cX7_goDefine 25 = .ok (.iload_n 2, 1) := by decide +kernel
theorem dX7_goDefine_26 : decode cX7_goDefine 26 = .ok (.iconst 0, 1) := by decide +kernel
theorem dX7_goDefine_27 : decode cX7_goDefine 27 = .ok (.iconst 4, 1) := by decide +kernel
theorem dX7_goDefine_28 : decode cX7_goDefine 28 = .ok (.invokestatic 50, 3) := by decide +kernel
theorem dX7_goDefine_31 : decode cX7_goDefine 31 = .ok (.ifCond .ne 6, 3) := by decide +kernel
theorem dX7_goDefine_34 : decode cX7_goDefine 34 = .ok (.ldc 85, 2) := by decide +kernel
theorem dX7_goDefine_36 : decode cX7_goDefine 36 = .ok (.ireturn, 1) := by decide +kernel
theorem dX7_goDefine_37 : decode cX7_goDefine 37 = .ok (.aload_n 0, 1) := by decide +kernel
theorem dX7_goDefine_38 : decode cX7_goDefine 38 = .ok (.iload_n 1, 1) := by decide +kernel
theorem dX7_goDefine_39 : decode cX7_goDefine 39 = .ok (.iconst 0, 1) := by decide +kernel
theorem dX7_goDefine_40 : decode cX7_goDefine 40 = .ok (.invokevirtual 200, 3) := by decide +kernel
theorem dX7_goDefine_43 : decode cX7_goDefine 43 = .ok (.istore 5, 2) := by decide +kernel
theorem dX7_goDefine_45 : decode cX7_goDefine 45 = .ok (.aload_n 0, 1) := by decide +kernel
theorem dX7_goDefine_46 : decode cX7_goDefine 46 = .ok (.getfield 7, 3) := by decide +kernel
theorem dX7_goDefine_49 : decode cX7_goDefine 49 = .ok (.iconst 5, 1) := by decide +kernel
theorem dX7_goDefine_50 : decode cX7_goDefine 50 = .ok (.iconst 3, 1) := by decide +kernel
theorem dX7_goDefine_51 : decode cX7_goDefine 51 = .ok (.iload_n 1, 1) := by decide +kernel
theorem dX7_goDefine_52 : decode cX7_goDefine 52 = .ok (.imul, 1) := by decide +kernel
theorem dX7_goDefine_53 : decode cX7_goDefine 53 = .ok (.iadd, 1) := by decide +kernel
theorem dX7_goDefine_54 : decode cX7_goDefine 54 = .ok (.iload_n 2, 1) := by decide +kernel
theorem dX7_goDefine_55 : decode cX7_goDefine 55 = .ok (.iastore, 1) := by decide +kernel
theorem dX7_goDefine_56 : decode cX7_goDefine 56 = .ok (.aload_n 0, 1) := by decide +kernel
theorem dX7_goDefine_57 : decode cX7_goDefine 57 = .ok (.getfield 7, 3) := by decide +kernel
theorem dX7_goDefine_60 : decode cX7_goDefine 60 = .ok (.iconst 5, 1) := by decide +kernel
theorem dX7_goDefine_61 : decode cX7_goDefine 61 = .ok (.iconst 3, 1) := by decide +kernel
theorem dX7_goDefine_62 : decode cX7_goDefine 62 = .ok (.iload_n 1, 1) := by decide +kernel
theorem dX7_goDefine_63 : decode cX7_goDefine 63 = .ok (.imul, 1) := by decide +kernel
theorem dX7_goDefine_64 : decode cX7_goDefine 64 = .ok (.iadd, 1) := by decide +kernel
theorem dX7_goDefine_65 : decode cX7_goDefine 65 = .ok (.iconst 1, 1) := by decide +kernel
theorem dX7_goDefine_66 : decode cX7_goDefine 66 = .ok (.iadd, 1) := by decide +kernel
theorem dX7_goDefine_67 : decode cX7_goDefine 67 = .ok (.iload_n 3, 1) := by decide +kernel
theorem dX7_goDefine_68 : decode cX7_goDefine 68 = .ok (.iastore, 1) := by decide +kernel
theorem dX7_goDefine_69 : decode cX7_goDefine 69 = .ok (.aload_n 0, 1) := by decide +kernel
theorem dX7_goDefine_70 : decode cX7_goDefine 70 = .ok (.getfield 7, 3) := by decide +kernel
theorem dX7_goDefine_73 : decode cX7_goDefine 73 = .ok (.iconst 5, 1) := by decide +kernel
theorem dX7_goDefine_74 : decode cX7_goDefine 74 = .ok (.iconst 3, 1) := by decide +kernel
theorem dX7_goDefine_75 : decode cX7_goDefine 75 = .ok (.iload_n 1, 1) := by decide +kernel
theorem dX7_goDefine_76 : decode cX7_goDefine 76 = .ok (.imul, 1) := by decide +kernel
theorem dX7_goDefine_77 : decode cX7_goDefine 77 = .ok (.iadd, 1) := by decide +kernel
theorem dX7_goDefine_78 : decode cX7_goDefine 78 = .ok (.iconst 2, 1) := by decide +kernel
theorem dX7_goDefine_79 : decode cX7_goDefine 79 = .ok (.iadd, 1) := by decide +kernel
theorem dX7_goDefine_80 : decode cX7_goDefine 80 = .ok (.iload 4, 2) := by decide +kernel
theorem dX7_goDefine_82 : decode cX7_goDefine 82 = .ok (.iastore, 1) := by decide +kernel
theorem dX7_goDefine_83 : decode cX7_goDefine 83 = .ok (.iload 5, 2) := by decide +kernel
theorem dX7_goDefine_85 : decode cX7_goDefine 85 = .ok (.ireturn, 1) := by decide +kernel
theorem dX7_isIn_0 : decode cX7_isIn 0 = .ok (.aload_n 0, 1) := by decide +kernel
theorem dX7_isIn_1 : decode cX7_isIn 1 = .ok (.getfield 7, 3) := by decide +kernel
theorem dX7_isIn_4 : decode cX7_isIn 4 = .ok (.bipush 23, 2) := by decide +kernel
theorem dX7_isIn_6 : decode cX7_isIn 6 = .ok (.iconst 4, 1) := by decide +kernel
theorem dX7_isIn_7 : decode cX7_isIn 7 = .ok (.iload_n 1, 1) := by decide +kernel
theorem dX7_isIn_8 : decode cX7_isIn 8 = .ok (.imul, 1) := by decide +kernel
theorem dX7_isIn_9 : decode cX7_isIn 9 = .ok (.iadd, 1) := by decide +kernel
theorem dX7_isIn_10 : decode cX7_isIn 10 = .ok (.iload_n 2, 1) := by decide +kernel
theorem dX7_isIn_11 : decode cX7_isIn 11 = .ok (.bipush 30, 2) := by decide +kernel
theorem dX7_isIn_13 : decode cX7_isIn 13 = .ok (.idiv, 1) := by decide +kernel
theorem dX7_isIn_14 : decode cX7_isIn 14 = .ok (.iadd, 1) := by decide +kernel
theorem dX7_isIn_15 : decode cX7_isIn 15 = .ok (.iaload, 1) := by decide +kernel
theorem dX7_isIn_16 : decode cX7_isIn 16 = .ok (.iload_n 2, 1) := by decide +kernel
theorem dX7_isIn_17 : decode cX7_isIn 17 = .ok (.bipush 30, 2) := by decide +kernel
theorem dX7_isIn_19 : decode cX7_isIn 19 = .ok (.irem, 1) := by decide +kernel
theorem dX7_isIn_20 : decode cX7_isIn 20 = .ok (.ishr, 1) := by decide +kernel
theorem dX7_isIn_21 : decode cX7_isIn 21 = .ok (.iconst 1, 1) := by decide +kernel
theorem dX7_isIn_22 : decode cX7_isIn 22 = .ok (.iand, 1) := by decide +kernel
theorem dX7_isIn_23 : decode cX7_isIn 23 = .ok (.iconst 1, 1) := by decide +kernel
theorem dX7_isIn_24 : decode cX7_isIn 24 = .ok (.if_icmp .ne 7, 3) := by decide +kernel
theorem dX7_isIn_27 : decode cX7_isIn 27 = .ok (.iconst 1, 1) := by decide +kernel
theorem dX7_isIn_28 : decode cX7_isIn 28 = .ok (.goto 4, 3) := by decide +kernel
theorem dX7_isIn_31 : decode cX7_isIn 31 = .ok (.iconst 0, 1) := by decide +kernel
theorem dX7_isIn_32 : decode cX7_isIn 32 = .ok (.ireturn, 1) := by decide +kernel
theorem dX7_sizeOf_0 : decode cX7_sizeOf 0 = .ok (.iconst 0, 1) := by decide +kernel
theorem dX7_sizeOf_1 : decode cX7_sizeOf 1 = .ok (.istore_n 2, 1) := by decide +kernel
theorem dX7_sizeOf_2 : decode cX7_sizeOf 2 = .ok (.iconst 0, 1) := by decide +kernel
theorem dX7_sizeOf_3 : decode cX7_sizeOf 3 = .ok (.istore_n 3, 1) := by decide +kernel
theorem dX7_sizeOf_4 : decode cX7_sizeOf 4 = .ok (.iload_n 3, 1) := by decide +kernel
theorem dX7_sizeOf_5 : decode cX7_sizeOf 5 = .ok (.bipush 100, 2) := by decide +kernel
theorem dX7_sizeOf_7 : decode cX7_sizeOf 7 = .ok (.if_icmp .ge 26, 3) := by decide +kernel
theorem dX7_sizeOf_10 : decode cX7_sizeOf 10 = .ok (.iload_n 2, 1) := by decide +kernel
theorem dX7_sizeOf_11 : decode cX7_sizeOf 11 = .ok (.aload_n 0, 1) := by decide +kernel
theorem dX7_sizeOf_12 : decode cX7_sizeOf 12 = .ok (.iload_n 1, 1) := by decide +kernel
theorem dX7_sizeOf_13 : decode cX7_sizeOf 13 = .ok (.iload_n 3, 1) := by decide +kernel
theorem dX7_sizeOf_14 : decode cX7_sizeOf 14 = .ok (.invokevirtual 218, 3) := by decide +kernel
theorem dX7_sizeOf_17 : decode cX7_sizeOf 17 = .ok (.ifCond .eq 7, 3) := by decide +kernel
theorem dX7_sizeOf_20 : decode cX7_sizeOf 20 = .ok (.iconst 1, 1) := by decide +kernel
theorem dX7_sizeOf_21 : decode cX7_sizeOf 21 = .ok (.goto 4, 3) := by decide +kernel
theorem dX7_sizeOf_24 : decode cX7_sizeOf 24 = .ok (.iconst 0, 1) := by decide +kernel
theorem dX7_sizeOf_25 : decode cX7_sizeOf 25 = .ok (.iadd, 1) := by decide +kernel
theorem dX7_sizeOf_26 : decode cX7_sizeOf 26 = .ok (.istore_n 2, 1) := by decide +kernel
theorem dX7_sizeOf_27 : decode cX7_sizeOf 27 = .ok (.iinc 3 1, 3) := by decide +kernel
theorem dX7_sizeOf_30 : decode cX7_sizeOf 30 = .ok (.goto (-26), 3) := by decide +kernel
theorem dX7_sizeOf_33 : decode cX7_sizeOf 33 = .ok (.iload_n 2, 1) := by decide +kernel
theorem dX7_sizeOf_34 : decode cX7_sizeOf 34 = .ok (.ireturn, 1) := by decide +kernel
theorem dX7_laysIn_0 : decode cX7_laysIn 0 = .ok (.bipush 23, 2) := by decide +kernel
theorem dX7_laysIn_2 : decode cX7_laysIn 2 = .ok (.iconst 4, 1) := by decide +kernel
theorem dX7_laysIn_3 : decode cX7_laysIn 3 = .ok (.iload_n 1, 1) := by decide +kernel
theorem dX7_laysIn_4 : decode cX7_laysIn 4 = .ok (.imul, 1) := by decide +kernel
theorem dX7_laysIn_5 : decode cX7_laysIn 5 = .ok (.iadd, 1) := by decide +kernel
theorem dX7_laysIn_6 : decode cX7_laysIn 6 = .ok (.iload_n 2, 1) := by decide +kernel
theorem dX7_laysIn_7 : decode cX7_laysIn 7 = .ok (.bipush 30, 2) := by decide +kernel
theorem dX7_laysIn_9 : decode cX7_laysIn 9 = .ok (.idiv, 1) := by decide +kernel
theorem dX7_laysIn_10 : decode cX7_laysIn 10 = .ok (.iadd, 1) := by decide +kernel
theorem dX7_laysIn_11 : decode cX7_laysIn 11 = .ok (.istore 4, 2) := by decide +kernel
theorem dX7_laysIn_13 : decode cX7_laysIn 13 = .ok (.aload_n 0, 1) := by decide +kernel
theorem dX7_laysIn_14 : decode cX7_laysIn 14 = .ok (.getfield 7, 3) := by decide +kernel
theorem dX7_laysIn_17 : decode cX7_laysIn 17 = .ok (.iload 4, 2) := by decide +kernel
theorem dX7_laysIn_19 : decode cX7_laysIn 19 = .ok (.aload_n 0, 1) := by decide +kernel
theorem dX7_laysIn_20 : decode cX7_laysIn 20 = .ok (.getfield 7, 3) := by decide +kernel
theorem dX7_laysIn_23 : decode cX7_laysIn 23 = .ok (.iload 4, 2) := by decide +kernel
theorem dX7_laysIn_25 : decode cX7_laysIn 25 = .ok (.iaload, 1) := by decide +kernel
theorem dX7_laysIn_26 : decode cX7_laysIn 26 = .ok (.iconst 1, 1) := by decide +kernel
theorem dX7_laysIn_27 : decode cX7_laysIn 27 = .ok (.iload_n 2, 1) := by decide +kernel
theorem dX7_laysIn_28 : decode cX7_laysIn 28 = .ok (.bipush 30, 2) := by decide +kernel
theorem dX7_laysIn_30 : decode cX7_laysIn 30 = .ok (.irem, 1) := by decide +kernel
theorem dX7_laysIn_31 : decode cX7_laysIn 31 = .ok (.ishl, 1) := by decide +kernel
theorem dX7_laysIn_32 : decode cX7_laysIn 32 = .ok (.iconst (-1), 1) := by decide +kernel
theorem dX7_laysIn_33 : decode cX7_laysIn 33 = .ok (.ixor, 1) := by decide +kernel
theorem dX7_laysIn_34 : decode cX7_laysIn 34 = .ok (.iand, 1) := by decide +kernel
theorem dX7_laysIn_35 : decode cX7_laysIn 35 = .ok (.iload_n 3, 1) := by decide +kernel
theorem dX7_laysIn_36 : decode cX7_laysIn 36 = .ok (.ifCond .eq 12, 3) := by decide +kernel
theorem dX7_laysIn_39 : decode cX7_laysIn 39 = .ok (.iconst 1, 1) := by decide +kernel
theorem dX7_laysIn_40 : decode cX7_laysIn 40 = .ok (.iload_n 2, 1) := by decide +kernel
theorem dX7_laysIn_41 : decode cX7_laysIn 41 = .ok (.bipush 30, 2) := by decide +kernel
theorem dX7_laysIn_43 : decode cX7_laysIn 43 = .ok (.irem, 1) := by decide +kernel
theorem dX7_laysIn_44 : decode cX7_laysIn 44 = .ok (.ishl, 1) := by decide +kernel
theorem dX7_laysIn_45 : decode cX7_laysIn 45 = .ok (.goto 4, 3) := by decide +kernel
theorem dX7_laysIn_48 : decode cX7_laysIn 48 = .ok (.iconst 0, 1) := by decide +kernel
theorem dX7_laysIn_49 : decode cX7_laysIn 49 = .ok (.ior, 1) := by decide +kernel
theorem dX7_laysIn_50 : decode cX7_laysIn 50 = .ok (.iastore, 1) := by decide +kernel
theorem dX7_laysIn_51 : decode cX7_laysIn 51 = .ok (.return_, 1) := by decide +kernel
theorem dX7_passes_0 : decode cX7_passes 0 = .ok (.iload_n 1, 1) := by decide +kernel
theorem dX7_passes_1 : decode cX7_passes 1 = .ok (.ifCond .ne 16, 3) := by decide +kernel
theorem dX7_passes_4 : decode cX7_passes 4 = .ok (.iload_n 0, 1) := by decide +kernel
theorem dX7_passes_5 : decode cX7_passes 5 = .ok (.iload_n 2, 1) := by decide +kernel
theorem dX7_passes_6 : decode cX7_passes 6 = .ok (.if_icmp .ge 7, 3) := by decide +kernel
theorem dX7_passes_9 : decode cX7_passes 9 = .ok (.iconst 1, 1) := by decide +kernel
theorem dX7_passes_10 : decode cX7_passes 10 = .ok (.goto 35, 3) := by decide +kernel
theorem dX7_passes_13 : decode cX7_passes 13 = .ok (.iconst 0, 1) := by decide +kernel
theorem dX7_passes_14 : decode cX7_passes 14 = .ok (.goto 31, 3) := by decide +kernel
theorem dX7_passes_17 : decode cX7_passes 17 = .ok (.iload_n 1, 1) := by decide +kernel
theorem dX7_passes_18 : decode cX7_passes 18 = .ok (.iconst 1, 1) := by decide +kernel
theorem dX7_passes_19 : decode cX7_passes 19 = .ok (.if_icmp .ne 16, 3) := by decide +kernel
theorem dX7_passes_22 : decode cX7_passes 22 = .ok (.iload_n 0, 1) := by decide +kernel
theorem dX7_passes_23 : decode cX7_passes 23 = .ok (.iload_n 2, 1) := by decide +kernel
theorem dX7_passes_24 : decode cX7_passes 24 = .ok (.if_icmp .ne 7, 3) := by decide +kernel
theorem dX7_passes_27 : decode cX7_passes 27 = .ok (.iconst 1, 1) := by decide +kernel
theorem dX7_passes_28 : decode cX7_passes 28 = .ok (.goto 17, 3) := by decide +kernel
theorem dX7_passes_31 : decode cX7_passes 31 = .ok (.iconst 0, 1) := by decide +kernel
theorem dX7_passes_32 : decode cX7_passes 32 = .ok (.goto 13, 3) := by decide +kernel
theorem dX7_passes_35 : decode cX7_passes 35 = .ok (.iload_n 0, 1) := by decide +kernel
theorem dX7_passes_36 : decode cX7_passes 36 = .ok (.iload_n 2, 1) := by decide +kernel
theorem dX7_passes_37 : decode cX7_passes 37 = .ok (.if_icmp .le 7, 3) := by decide +kernel
theorem dX7_passes_40 : decode cX7_passes 40 = .ok (.iconst 1, 1) := by decide +kernel
theorem dX7_passes_41 : decode cX7_passes 41 = .ok (.goto 4, 3) := by decide +kernel
theorem dX7_passes_44 : decode cX7_passes 44 = .ok (.iconst 0, 1) := by decide +kernel
theorem dX7_passes_45 : decode cX7_passes 45 = .ok (.ireturn, 1) := by decide +kernel
theorem dX7_isSelected_0 : decode cX7_isSelected 0 = .ok (.aload_n 0, 1) := by decide +kernel
theorem dX7_isSelected_1 : decode cX7_isSelected 1 = .ok (.iload_n 1, 1) := by decide +kernel
