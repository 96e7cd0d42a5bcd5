theorem dX4_init_0 : decode cX4_init 0 = .ok (.aload_n 0, 1) := by decide +kernel
theorem dX4_init_1 : decode cX4_init 1 = .ok (.invokespecial 3, 3) := by decide +kernel
theorem dX4_init_4 : decode cX4_init 4 = .ok (.aload_n 0, 1) := by decide +kernel
theorem dX4_init_5 : decode cX4_init 5 = .ok (.bipush 10, 2) := by decide +kernel
theorem dX4_init_7 : decode cX4_init 7 = .ok (.anewarray 9, 3) := by decide +kernel
theorem dX4_init_10 : decode cX4_init 10 = .ok (.putfield 11, 3) := by decide +kernel
theorem dX4_init_13 : decode cX4_init 13 = .ok (.iconst 0, 1) := by decide +kernel
theorem dX4_init_14 : decode cX4_init 14 = .ok (.istore_n 1, 1) := by decide +kernel
theorem dX4_init_15 : decode cX4_init 15 = .ok (.iload_n 1, 1) := by decide +kernel
theorem dX4_init_16 : decode cX4_init 16 = .ok (.bipush 10, 2) := by decide +kernel
theorem dX4_init_18 : decode cX4_init 18 = .ok (.if_icmp .ge 22, 3) := by decide +kernel
theorem dX4_init_21 : decode cX4_init 21 = .ok (.aload_n 0, 1) := by decide +kernel
theorem dX4_init_22 : decode cX4_init 22 = .ok (.getfield 11, 3) := by decide +kernel
theorem dX4_init_25 : decode cX4_init 25 = .ok (.iload_n 1, 1) := by decide +kernel
theorem dX4_init_26 : decode cX4_init 26 = .ok (.new 9, 3) := by decide +kernel
theorem dX4_init_29 : decode cX4_init 29 = .ok (.dup, 1) := by decide +kernel
theorem dX4_init_30 : decode cX4_init 30 = .ok (.invokespecial 17, 3) := by decide +kernel
theorem dX4_init_33 : decode cX4_init 33 = .ok (.aastore, 1) := by decide +kernel
theorem dX4_init_34 : decode cX4_init 34 = .ok (.iinc 1 1, 3) := by decide +kernel
theorem dX4_init_37 : decode cX4_init 37 = .ok (.goto (-22), 3) := by decide +kernel
theorem dX4_init_40 : decode cX4_init 40 = .ok (.aload_n 0, 1) := by decide +kernel
theorem dX4_init_41 : decode cX4_init 41 = .ok (.iconst 0, 1) := by decide +kernel
theorem dX4_init_42 : decode cX4_init 42 = .ok (.putfield 18, 3) := by decide +kernel
theorem dX4_init_45 : decode cX4_init 45 = .ok (.aload_n 0, 1) := by decide +kernel
theorem dX4_init_46 : decode cX4_init 46 = .ok (.iconst 4, 1) := by decide +kernel
theorem dX4_init_47 : decode cX4_init 47 = .ok (.newarray .boolean, 2) := by decide +kernel
theorem dX4_init_49 : decode cX4_init 49 = .ok (.putfield 22, 3) := by decide +kernel
theorem dX4_init_52 : decode cX4_init 52 = .ok (.aload_n 0, 1) := by decide +kernel
theorem dX4_init_53 : decode cX4_init 53 = .ok (.getfield 22, 3) := by decide +kernel
theorem dX4_init_56 : decode cX4_init 56 = .ok (.iconst 1, 1) := by decide +kernel
theorem dX4_init_57 : decode cX4_init 57 = .ok (.iconst 1, 1) := by decide +kernel
theorem dX4_init_58 : decode cX4_init 58 = .ok (.bastore, 1) := by decide +kernel
theorem dX4_init_59 : decode cX4_init 59 = .ok (.aload_n 0, 1) := by decide +kernel
theorem dX4_init_60 : decode cX4_init 60 = .ok (.getfield 22, 3) := by decide +kernel
theorem dX4_init_63 : decode cX4_init 63 = .ok (.iconst 2, 1) := by decide +kernel
theorem dX4_init_64 : decode cX4_init 64 = .ok (.iconst 1, 1) := by decide +kernel
theorem dX4_init_65 : decode cX4_init 65 = .ok (.bastore, 1) := by decide +kernel
theorem dX4_init_66 : decode cX4_init 66 = .ok (.aload_n 0, 1) := by decide +kernel
theorem dX4_init_67 : decode cX4_init 67 = .ok (.bipush 6, 2) := by decide +kernel
theorem dX4_init_69 : decode cX4_init 69 = .ok (.newarray .int, 2) := by decide +kernel
theorem dX4_init_71 : decode cX4_init 71 = .ok (.putfield 26, 3) := by decide +kernel
theorem dX4_init_74 : decode cX4_init 74 = .ok (.aload_n 0, 1) := by decide +kernel
theorem dX4_init_75 : decode cX4_init 75 = .ok (.bipush 6, 2) := by decide +kernel
theorem dX4_init_77 : decode cX4_init 77 = .ok (.newarray .int, 2) := by decide +kernel
theorem dX4_init_79 : decode cX4_init 79 = .ok (.putfield 30, 3) := by decide +kernel
theorem dX4_init_82 : decode cX4_init 82 = .ok (.aload_n 0, 1) := by decide +kernel
theorem dX4_init_83 : decode cX4_init 83 = .ok (.bipush 6, 2) := by decide +kernel
theorem dX4_init_85 : decode cX4_init 85 = .ok (.newarray .int, 2) := by decide +kernel
theorem dX4_init_87 : decode cX4_init 87 = .ok (.putfield 33, 3) := by decide +kernel
theorem dX4_init_90 : decode cX4_init 90 = .ok (.iconst 0, 1) := by decide +kernel
theorem dX4_init_91 : decode cX4_init 91 = .ok (.istore_n 1, 1) := by decide +kernel
theorem dX4_init_92 : decode cX4_init 92 = .ok (.iload_n 1, 1) := by decide +kernel
theorem dX4_init_93 : decode cX4_init 93 = .ok (.iconst 4, 1) := by decide +kernel
theorem dX4_init_94 : decode cX4_init 94 = .ok (.if_icmp .ge 17, 3) := by decide +kernel
theorem dX4_init_97 : decode cX4_init 97 = .ok (.aload_n 0, 1) := by decide +kernel
theorem dX4_init_98 : decode cX4_init 98 = .ok (.iload_n 1, 1) := by decide +kernel
theorem dX4_init_99 : decode cX4_init 99 = .ok (.iconst 0, 1) := by decide +kernel
theorem dX4_init_100 : decode cX4_init 100 = .ok (.iload_n 1, 1) := by decide +kernel
theorem dX4_init_101 : decode cX4_init 101 = .ok (.iconst 0, 1) := by decide +kernel
theorem dX4_init_102 : decode cX4_init 102 = .ok (.invokevirtual 36, 3) := by decide +kernel
theorem dX4_init_105 : decode cX4_init 105 = .ok (.iinc 1 1, 3) := by decide +kernel
theorem dX4_init_108 : decode cX4_init 108 = .ok (.goto (-16), 3) := by decide +kernel
theorem dX4_init_111 : decode cX4_init 111 = .ok (.aload_n 0, 1) := by decide +kernel
theorem dX4_init_112 : decode cX4_init 112 = .ok (.iconst 4, 1) := by decide +kernel
theorem dX4_init_113 : decode cX4_init 113 = .ok (.iconst 1, 1) := by decide +kernel
theorem dX4_init_114 : decode cX4_init 114 = .ok (.iconst 0, 1) := by decide +kernel
theorem dX4_init_115 : decode cX4_init 115 = .ok (.iconst 0, 1) := by decide +kernel
theorem dX4_init_116 : decode cX4_init 116 = .ok (.invokevirtual 36, 3) := by decide +kernel
theorem dX4_init_119 : decode cX4_init 119 = .ok (.aload_n 0, 1) := by decide +kernel
theorem dX4_init_120 : decode cX4_init 120 = .ok (.iconst 5, 1) := by decide +kernel
theorem dX4_init_121 : decode cX4_init 121 = .ok (.iconst 4, 1) := by decide +kernel
theorem dX4_init_122 : decode cX4_init 122 = .ok (.iconst 1, 1) := by decide +kernel
theorem dX4_init_123 : decode cX4_init 123 = .ok (.iconst 2, 1) := by decide +kernel
theorem dX4_init_124 : decode cX4_init 124 = .ok (.invokevirtual 36, 3) := by decide +kernel
theorem dX4_init_127 : decode cX4_init 127 = .ok (.aload_n 0, 1) := by decide +kernel
theorem dX4_init_128 : decode cX4_init 128 = .ok (.sipush 800, 3) := by decide +kernel
theorem dX4_init_131 : decode cX4_init 131 = .ok (.newarray .boolean, 2) := by decide +kernel
theorem dX4_init_133 : decode cX4_init 133 = .ok (.putfield 40, 3) := by decide +kernel
theorem dX4_init_136 : decode cX4_init 136 = .ok (.return_, 1) := by decide +kernel
theorem dX4_copyState_0 : decode cX4_copyState 0 = .ok (.aload_n 0, 1) := by decide +kernel
theorem dX4_copyState_1 : decode cX4_copyState 1 = .ok (.aload_n 1, 1) := by decide +kernel
theorem dX4_copyState_2 : decode cX4_copyState 2 = .ok (.getfield 18, 3) := by decide +kernel
theorem dX4_copyState_5 : decode cX4_copyState 5 = .ok (.putfield 18, 3) := by decide +kernel
theorem dX4_copyState_8 : decode cX4_copyState 8 = .ok (.iconst 0, 1) := by decide +kernel
theorem dX4_copyState_9 : decode cX4_copyState 9 = .ok (.istore_n 2, 1) := by decide +kernel
theorem dX4_copyState_10 : decode cX4_copyState 10 = .ok (.iload_n 2, 1) := by decide +kernel
theorem dX4_copyState_11 : decode cX4_copyState 11 = .ok (.aload_n 0, 1) := by decide +kernel
theorem dX4_copyState_12 : decode cX4_copyState 12 = .ok (.getfield 18, 3) := by decide +kernel
theorem dX4_copyState_15 : decode cX4_copyState 15 = .ok (.if_icmp .ge 24, 3) := by decide +kernel
theorem dX4_copyState_18 : decode cX4_copyState 18 = .ok (.aload_n 0, 1) := by decide +kernel
theorem dX4_copyState_19 : decode cX4_copyState 19 = .ok (.getfield 11, 3) := by decide +kernel
theorem dX4_copyState_22 : decode cX4_copyState 22 = .ok (.iload_n 2, 1) := by decide +kernel
theorem dX4_copyState_23 : decode cX4_copyState 23 = .ok (.aaload, 1) := by decide +kernel
theorem dX4_copyState_24 : decode cX4_copyState 24 = .ok (.aload_n 1, 1) := by decide +kernel
theorem dX4_copyState_25 : decode cX4_copyState 25 = .ok (.getfield 11, 3) := by decide +kernel
theorem dX4_copyState_28 : decode cX4_copyState 28 = .ok (.iload_n 2, 1) := by decide +kernel
theorem dX4_copyState_29 : decode cX4_copyState 29 = .ok (.aaload, 1) := by decide +kernel
theorem dX4_copyState_30 : decode cX4_copyState 30 = .ok (.invokevirtual 43, 3) := by decide +kernel
theorem dX4_copyState_33 : decode cX4_copyState 33 = .ok (.iinc 2 1, 3) := by decide +kernel
theorem dX4_copyState_36 : decode cX4_copyState 36 = .ok (.goto (-26), 3) := by decide +kernel
theorem dX4_copyState_39 : decode cX4_copyState 39 = .ok (.aload_n 1, 1) := by decide +kernel
theorem dX4_copyState_40 : decode cX4_copyState 40 = .ok (.getfield 22, 3) := by decide +kernel
theorem dX4_copyState_43 : decode cX4_copyState 43 = .ok (.iconst 0, 1) := by decide +kernel
theorem dX4_copyState_44 : decode cX4_copyState 44 = .ok (.aload_n 0, 1) := by decide +kernel
theorem dX4_copyState_45 : decode cX4_copyState 45 = .ok (.getfield 22, 3) := by decide +kernel
theorem dX4_copyState_48 : decode cX4_copyState 48 = .ok (.iconst 0, 1) := by decide +kernel
theorem dX4_copyState_49 : decode cX4_copyState 49 = .ok (.iconst 4, 1) := by decide +kernel
theorem dX4_copyState_50 : decode cX4_copyState 50 = .ok (.invokestatic 47, 3) := by decide +kernel
theorem dX4_copyState_53 : decode cX4_copyState 53 = .ok (.aload_n 1, 1) := by decide +kernel
theorem dX4_copyState_54 : decode cX4_copyState 54 = .ok (.getfield 26, 3) := by decide +kernel
theorem dX4_copyState_57 : decode cX4_copyState 57 = .ok (.iconst 0, 1) := by decide +kernel
theorem dX4_copyState_58 : decode cX4_copyState 58 = .ok (.aload_n 0, 1) := by decide +kernel
theorem dX4_copyState_59 : decode cX4_copyState 59 = .ok (.getfield 26, 3) := by decide +kernel
theorem dX4_copyState_62 : decode cX4_copyState 62 = .ok (.iconst 0, 1) := by decide +kernel
theorem dX4_copyState_63 : decode cX4_copyState 63 = .ok (.bipush 6, 2) := by decide +kernel
theorem dX4_copyState_65 : decode cX4_copyState 65 = .ok (.invokestatic 47, 3) := by decide +kernel
theorem dX4_copyState_68 : decode cX4_copyState 68 = .ok (.aload_n 1, 1) := by decide +kernel
theorem dX4_copyState_69 : decode cX4_copyState 69 = .ok (.getfield 30, 3) := by decide +kernel
theorem dX4_copyState_72 : decode cX4_copyState 72 = .ok (.iconst 0, 1) := by decide +kernel
theorem dX4_copyState_73 : decode cX4_copyState 73 = .ok (.aload_n 0, 1) := by decide +kernel
theorem dX4_copyState_74 : decode cX4_copyState 74 = .ok (.getfield 30, 3) := by decide +kernel
theorem dX4_copyState_77 : decode cX4_copyState 77 = .ok (.iconst 0, 1) := by decide +kernel
theorem dX4_copyState_78 : decode cX4_copyState 78 = .ok (.bipush 6, 2) := by decide +kernel
theorem dX4_copyState_80 : decode cX4_copyState 80 = .ok (.invokestatic 47, 3) := by decide +kernel
theorem dX4_copyState_83 : decode cX4_copyState 83 = .ok (.aload_n 1, 1) := by decide +kernel
theorem dX4_copyState_84 : decode cX4_copyState 84 = .ok (.getfield 33, 3) := by decide +kernel
theorem dX4_copyState_87 : decode cX4_copyState 87 = .ok (.iconst 0, 1) := by decide +kernel
theorem dX4_copyState_88 : decode cX4_copyState 88 = .ok (.aload_n 0, 1) := by decide +kernel
theorem dX4_copyState_89 : decode cX4_copyState 89 = .ok (.getfield 33, 3) := by decide +kernel
theorem dX4_copyState_92 : decode cX4_copyState 92 = .ok (.iconst 0, 1) := by decide +kernel
theorem dX4_copyState_93 : decode cX4_copyState 93 = .ok (.bipush 6, 2) := by decide +kernel
theorem dX4_copyState_95 : decode cX4_copyState 95 = .ok (.invokestatic 47, 3) := by decide +kernel
theorem dX4_copyState_98 : decode cX4_copyState 98 = .ok (.aload_n 1, 1) := by decide +kernel
theorem dX4_copyState_99 : decode cX4_copyState 99 = .ok (.getfield 40, 3) := by decide +kernel
theorem dX4_copyState_102 : decode cX4_copyState 102 = .ok (.iconst 0, 1) := by decide +kernel
theorem dX4_copyState_103 : decode cX4_copyState 103 = .ok (.aload_n 0, 1) := by decide +kernel
theorem dX4_copyState_104 : decode cX4_copyState 104 = .ok (.getfield 40, 3) := by decide +kernel
theorem dX4_copyState_107 : decode cX4_copyState 107 = .ok (.iconst 0, 1) := by decide +kernel
theorem dX4_copyState_108 : decode cX4_copyState 108 = .ok (.sipush 800, 3) := by decide +kernel
theorem dX4_copyState_111 : decode cX4_copyState 111 = .ok (.invokestatic 47, 3) := by decide +kernel
theorem dX4_copyState_114 : decode cX4_copyState 114 = .ok (.return_, 1) := by decide +kernel
theorem dX4_find_0 : decode cX4_find 0 = .ok (.iconst 0, 1) := by decide +kernel
theorem dX4_find_1 : decode cX4_find 1 = .ok (.istore_n 2, 1) := by decide +kernel
theorem dX4_find_2 : decode cX4_find 2 = .ok (.iload_n 2, 1) := by decide +kernel
theorem dX4_find_3 : decode cX4_find 3 = .ok (.aload_n 0, 1) := by decide +kernel
theorem dX4_find_4 : decode cX4_find 4 = .ok (.getfield 18, 3) := by decide +kernel
theorem dX4_find_7 : decode cX4_find 7 = .ok (.if_icmp .ge 29, 3) := by decide +kernel
theorem dX4_find_10 : decode cX4_find 10 = .ok (.aload_n 0, 1) := by decide +kernel
theorem dX4_find_11 : decode cX4_find 11 = .ok (.getfield 11, 3) := by decide +kernel
theorem dX4_find_14 : decode cX4_find 14 = .ok (.iload_n 2, 1) := by decide +kernel
theorem dX4_find_15 : decode cX4_find 15 = .ok (.aaload, 1) := by decide +kernel
theorem dX4_find_16 : decode cX4_find 16 = .ok (.getfield 53, 3) := by decide +kernel
theorem dX4_find_19 : decode cX4_find 19 = .ok (.iload_n 1, 1) := by decide +kernel
theorem dX4_find_20 : decode cX4_find 20 = .ok (.if_icmp .ne 10, 3) := by decide +kernel
theorem dX4_find_23 : decode cX4_find 23 = .ok (.aload_n 0, 1) := by decide +kernel
theorem dX4_find_24 : decode cX4_find 24 = .ok (.getfield 11, 3) := by decide +kernel
theorem dX4_find_27 : decode cX4_find 27 = .ok (.iload_n 2, 1) := by decide +kernel
theorem dX4_find_28 : decode cX4_find 28 = .ok (.aaload, 1) := by decide +kernel
theorem dX4_find_29 : decode cX4_find 29 = .ok (.areturn, 1) := by decide +kernel
theorem dX4_find_30 : decode cX4_find 30 = .ok (.iinc 2 1, 3) := by decide +kernel
theorem dX4_find_33 : decode cX4_find 33 = .ok (.goto (-31), 3) := by decide +kernel
theorem dX4_find_36 : decode cX4_find 36 = .ok (.aconst_null, 1) := by decide +kernel
theorem dX4_find_37 : decode cX4_find 37 = .ok (.areturn, 1) := by decide +kernel
theorem dX4_addRecord_0 : decode cX4_addRecord 0 = .ok (.aload_n 0, 1) := by decide +kernel
theorem dX4_addRecord_1 : decode cX4_addRecord 1 = .ok (.getfield 18, 3) := by decide +kernel
theorem dX4_addRecord_4 : decode cX4_addRecord 4 = .ok (.bipush 10, 2) := by decide +kernel
theorem dX4_addRecord_6 : decode cX4_addRecord 6 = .ok (.if_icmp .lt 4, 3) := by decide +kernel
theorem dX4_addRecord_9 : decode cX4_addRecord 9 = .ok (.return_, 1) := by decide +kernel
theorem dX4_addRecord_10 : decode cX4_addRecord 10 = .ok (.aload_n 0, 1) := by decide +kernel
theorem dX4_addRecord_11 : decode cX4_addRecord 11 = .ok (.getfield 11, 3) := by decide +kernel
theorem dX4_addRecord_14 : decode cX4_addRecord 14 = .ok (.aload_n 0, 1) := by decide +kernel
theorem dX4_addRecord_15 : decode cX4_addRecord 15 = .ok (.getfield 18, 3) := by decide +kernel
theorem dX4_addRecord_18 : decode cX4_addRecord 18 = .ok (.aaload, 1) := by decide +kernel
theorem dX4_addRecord_19 : decode cX4_addRecord 19 = .ok (.astore_n 2, 1) := by decide +kernel
theorem dX4_addRecord_20 : decode cX4_addRecord 20 = .ok (.aload_n 2, 1) := by decide +kernel
theorem dX4_addRecord_21 : decode cX4_addRecord 21 = .ok (.iload_n 1, 1) := by decide +kernel
theorem dX4_addRecord_22 : decode cX4_addRecord 22 = .ok (.invokevirtual 56, 3) := by decide +kernel
theorem dX4_addRecord_25 : decode cX4_addRecord 25 = .ok (.aload_n 0, 1) := by decide +kernel
theorem dX4_addRecord_26 : decode cX4_addRecord 26 = .ok (.getfield 18, 3) := by decide +kernel
theorem dX4_addRecord_29 : decode cX4_addRecord 29 = .ok (.istore_n 3, 1) := by decide +kernel
theorem dX4_addRecord_30 : decode cX4_addRecord 30 = .ok (.iload_n 3, 1) := by decide +kernel
theorem dX4_addRecord_31 : decode cX4_addRecord 31 = .ok (.ifCond .le 38, 3) := by decide +kernel
theorem dX4_addRecord_34 : decode cX4_addRecord 34 = .ok (.aload_n 0, 1) := by decide +kernel
theorem dX4_addRecord_35 : decode cX4_addRecord 35 = .ok (.getfield 11, 3) := by decide +kernel
theorem dX4_addRecord_38 : decode cX4_addRecord 38 = .ok (.iload_n 3, 1) := by decide +kernel
theorem dX4_addRecord_39 : decode cX4_addRecord 39 = .ok (.iconst 1, 1) := by decide +kernel
theorem dX4_addRecord_40 : decode cX4_addRecord 40 = .ok (.isub, 1) := by decide +kernel
theorem dX4_addRecord_41 : decode cX4_addRecord 41 = .ok (.aaload, 1) := by decide +kernel
theorem dX4_addRecord_42 : decode cX4_addRecord 42 = .ok (.getfield 53, 3) := by decide +kernel
theorem dX4_addRecord_45 : decode cX4_addRecord 45 = .ok (.iload_n 1, 1) := by decide +kernel
theorem dX4_addRecord_46 : decode cX4_addRecord 46 = .ok (.if_icmp .le 23, 3) := by decide +kernel
theorem dX4_addRecord_49 : decode cX4_addRecord 49 = .ok (.aload_n 0, 1) := by decide +kernel
theorem dX4_addRecord_50 : decode cX4_addRecord 50 = .ok (.getfield 11, 3) := by decide +kernel
theorem dX4_addRecord_53 : decode cX4_addRecord 53 = .ok (.iload_n 3, 1) := by decide +kernel
theorem dX4_addRecord_54 : decode cX4_addRecord 54 = .ok (.aload_n 0, 1) := by decide +kernel
theorem dX4_addRecord_55 : decode cX4_addRecord 55 = .ok (.getfield 11, 3) := by decide +kernel
theorem dX4_addRecord_58 : decode cX4_addRecord 58 = .ok (.iload_n 3, 1) := by decide +kernel
theorem dX4_addRecord_59 : decode cX4_addRecord 59 = .ok (.iconst 1, 1) := by decide +kernel
theorem dX4_addRecord_60 : decode cX4_addRecord 60 = .ok (.isub, 1) := by decide +kernel
theorem dX4_addRecord_61 : decode cX4_addRecord 61 = .ok (.aaload, 1) := by decide +kernel
theorem dX4_addRecord_62 : decode cX4_addRecord 62 = .ok (.aastore, 1) := by decide +kernel
theorem dX4_addRecord_63 : decode cX4_addRecord 63 = .ok (.iinc 3 (-1), 3) := by decide +kernel
theorem dX4_addRecord_66 : decode cX4_addRecord 66 = .ok (.goto (-36), 3) := by decide +kernel
theorem dX4_addRecord_69 : decode cX4_addRecord 69 = .ok (.aload_n 0, 1) := by decide +kernel
theorem dX4_addRecord_70 : decode cX4_addRecord 70 = .ok (.getfield 11, 3) := by decide +kernel
theorem dX4_addRecord_73 : decode cX4_addRecord 73 = .ok (.iload_n 3, 1) := by decide +kernel
theorem dX4_addRecord_74 : decode cX4_addRecord 74 = .ok (.aload_n 2, 1) := by decide +kernel
theorem dX4_addRecord_75 : decode cX4_addRecord 75 = .ok (.aastore, 1) := by decide +kernel
theorem dX4_addRecord_76 : decode cX4_addRecord 76 = .ok (.aload_n 0, 1) := by decide +kernel
theorem dX4_addRecord_77 : decode cX4_addRecord 77 = .ok (.dup, 1) := by decide +kernel
theorem dX4_addRecord_78 : decode cX4_addRecord 78 = .ok (.getfield 18, 3) := by decide +kernel
theorem dX4_addRecord_81 : decode cX4_addRecord 81 = .ok (.iconst 1, 1) := by decide +kernel
theorem dX4_addRecord_82 : decode cX4_addRecord 82 = .ok (.iadd, 1) := by decide +kernel
theorem dX4_addRecord_83 : decode cX4_addRecord 83 = .ok (.putfield 18, 3) := by decide +kernel
theorem dX4_addRecord_86 : decode cX4_addRecord 86 = .ok (.return_, 1) := by decide +kernel
theorem dX4_dropRecord_0 : decode cX4_dropRecord 0 = .ok (.iconst 0, 1) := by decide +kernel
theorem dX4_dropRecord_1 : decode cX4_dropRecord 1 = .ok (.istore_n 2, 1) := by decide +kernel
theorem dX4_dropRecord_2 : decode cX4_dropRecord 2 = .ok (.iload_n 2, 1) := by decide +kernel
theorem dX4_dropRecord_3 : decode cX4_dropRecord 3 = .ok (.aload_n 0, 1) := by decide +kernel
theorem dX4_dropRecord_4 : decode cX4_dropRecord 4 = .ok (.getfield 18, 3) := by decide +kernel
theorem dX4_dropRecord_7 : decode cX4_dropRecord 7 = .ok (.if_icmp .ge 86, 3) := by decide +kernel
theorem dX4_dropRecord_10 : decode cX4_dropRecord 10 = .ok (.aload_n 0, 1) := by decide +kernel
theorem dX4_dropRecord_11 : decode cX4_dropRecord 11 = .ok (.getfield 11, 3) := by decide +kernel
theorem dX4_dropRecord_14 : decode cX4_dropRecord 14 = .ok (.iload_n 2, 1) := by decide +kernel
theorem dX4_dropRecord_15 : decode cX4_dropRecord 15 = .ok (.aaload, 1) := by decide +kernel
theorem dX4_dropRecord_16 : decode cX4_dropRecord 16 = .ok (.getfield 53, 3) := by decide +kernel
theorem dX4_dropRecord_19 : decode cX4_dropRecord 19 = .ok (.iload_n 1, 1) := by decide +kernel
theorem dX4_dropRecord_20 : decode cX4_dropRecord 20 = .ok (.if_icmp .ne 67, 3) := by decide +kernel
theorem dX4_dropRecord_23 : decode cX4_dropRecord 23 = .ok (.aload_n 0, 1) := by decide +kernel
theorem dX4_dropRecord_24 : decode cX4_dropRecord 24 = .ok (.getfield 11, 3) := by decide +kernel
theorem dX4_dropRecord_27 : decode cX4_dropRecord 27 = .ok (.iload_n 2, 1) := by decide +kernel
theorem dX4_dropRecord_28 : decode cX4_dropRecord 28 = .ok (.aaload, 1) := by decide +kernel
theorem dX4_dropRecord_29 : decode cX4_dropRecord 29 = .ok (.astore_n 3, 1) := by decide +kernel
theorem dX4_dropRecord_30 : decode cX4_dropRecord 30 = .ok (.iload_n 2, 1) := by decide +kernel
theorem dX4_dropRecord_31 : decode cX4_dropRecord 31 = .ok (.iconst 1, 1) := by decide +kernel
theorem dX4_dropRecord_32 : decode cX4_dropRecord 32 = .ok (.iadd, 1) := by decide +kernel
theorem dX4_dropRecord_33 : decode cX4_dropRecord 33 = .ok (.istore 4, 2) := by decide +kernel
theorem dX4_dropRecord_35 : decode cX4_dropRecord 35 = .ok (.iload 4, 2) := by decide +kernel
theorem dX4_dropRecord_37 : decode cX4_dropRecord 37 = .ok (.aload_n 0, 1) := by decide +kernel
theorem dX4_dropRecord_38 : decode cX4_dropRecord 38 = .ok (.getfield 18, 3) := by decide +kernel
theorem dX4_dropRecord_41 : decode cX4_dropRecord 41 = .ok (.if_icmp .ge 25, 3) := by decide +kernel
theorem dX4_dropRecord_44 : decode cX4_dropRecord 44 = .ok (.aload_n 0, 1) := by decide +kernel
theorem dX4_dropRecord_45 : decode cX4_dropRecord 45 = .ok (.getfield 11, 3) := by decide +kernel
theorem dX4_dropRecord_48 : decode cX4_dropRecord 48 = .ok (.iload 4, 2) := by decide +kernel
theorem dX4_dropRecord_50 : decode cX4_dropRecord 50 = .ok (.iconst 1, 1) := by decide +kernel
theorem dX4_dropRecord_51 : decode cX4_dropRecord 51 = .ok (.isub, 1) := by decide +kernel
theorem dX4_dropRecord_52 : decode cX4_dropRecord 52 = .ok (.aload_n 0, 1) := by decide +kernel
theorem dX4_dropRecord_53 : decode cX4_dropRecord 53 = .ok (.getfield 11, 3) := by decide +kernel
theorem dX4_dropRecord_56 : decode cX4_dropRecord 56 = .ok (.iload 4, 2) := by decide +kernel
theorem dX4_dropRecord_58 : decode cX4_dropRecord 58 = .ok (.aaload, 1) := by decide +kernel
theorem dX4_dropRecord_59 : decode cX4_dropRecord 59 = .ok (.aastore, 1) := by decide +kernel
theorem dX4_dropRecord_60 : decode cX4_dropRecord 60 = .ok (.iinc 4 1, 3) := by decide +kernel
theorem dX4_dropRecord_63 : decode cX4_dropRecord 63 = .ok (.goto (-28), 3) := by decide +kernel
theorem dX4_dropRecord_66 : decode cX4_dropRecord 66 = .ok (.aload_n 0, 1) := by decide +kernel
theorem dX4_dropRecord_67 : decode cX4_dropRecord 67 = .ok (.dup, 1) := by decide +kernel
theorem dX4_dropRecord_68 : decode cX4_dropRecord 68 = .ok (.getfield 18, 3) := by decide +kernel
theorem dX4_dropRecord_71 : decode cX4_dropRecord 71 = .ok (.iconst 1, 1) := by decide +kernel
theorem dX4_dropRecord_72 : decode cX4_dropRecord 72 = .ok (.isub, 1) := by decide +kernel
theorem dX4_dropRecord_73 : decode cX4_dropRecord 73 = .ok (.putfield 18, 3) := by decide +kernel
theorem dX4_dropRecord_76 : decode cX4_dropRecord 76 = .ok (.aload_n 0, 1) := by decide +kernel
theorem dX4_dropRecord_77 : decode cX4_dropRecord 77 = .ok (.getfield 11, 3) := by decide +kernel
theorem dX4_dropRecord_80 : decode cX4_dropRecord 80 = .ok (.aload_n 0, 1) := by decide +kernel
theorem dX4_dropRecord_81 : decode cX4_dropRecord 81 = .ok (.getfield 18, 3) := by decide +kernel
theorem dX4_dropRecord_84 : decode cX4_dropRecord 84 = .ok (.aload_n 3, 1) := by decide +kernel
theorem dX4_dropRecord_85 : decode cX4_dropRecord 85 = .ok (.aastore, 1) := by decide +kernel
theorem dX4_dropRecord_86 : decode cX4_dropRecord 86 = .ok (.return_, 1) := by decide +kernel
theorem dX4_dropRecord_87 : decode cX4_dropRecord 87 = .ok (.iinc 2 1, 3) := by decide +kernel
theorem dX4_dropRecord_90 : decode cX4_dropRecord 90 = .ok (.goto (-88), 3) := by decide +kernel
theorem dX4_dropRecord_93 : decode cX4_dropRecord 93 = .ok (.return_, 1) := by decide +kernel
theorem dX4_lockCount_0 : decode cX4_lockCount 0 = .ok (.iconst 0, 1) := by decide +kernel
theorem dX4_lockCount_1 : decode cX4_lockCount 1 = .ok (.istore_n 2, 1) := by decide +kernel
theorem dX4_lockCount_2 : decode cX4_lockCount 2 = .ok (.iconst 0, 1) := by decide +kernel
theorem dX4_lockCount_3 : decode cX4_lockCount 3 = .ok (.istore_n 3, 1) := by decide +kernel
theorem dX4_lockCount_4 : decode cX4_lockCount 4 = .ok (.iload_n 3, 1) := by decide +kernel
theorem dX4_lockCount_5 : decode cX4_lockCount 5 = .ok (.aload_n 0, 1) := by decide +kernel
theorem dX4_lockCount_6 : decode cX4_lockCount 6 = .ok (.getfield 18, 3) := by decide +kernel
theorem dX4_lockCount_9 : decode cX4_lockCount 9 = .ok (.if_icmp .ge 25, 3) := by decide +kernel
theorem dX4_lockCount_12 : decode cX4_lockCount 12 = .ok (.aload_n 0, 1) := by decide +kernel
theorem dX4_lockCount_13 : decode cX4_lockCount 13 = .ok (.getfield 11, 3) := by decide +kernel
theorem dX4_lockCount_16 : decode cX4_lockCount 16 = .ok (.iload_n 3, 1) := by decide +kernel
theorem dX4_lockCount_17 : decode cX4_lockCount 17 = .ok (.aaload, 1) := by decide +kernel
theorem dX4_lockCount_18 : decode cX4_lockCount 18 = .ok (.getfield 60, 3) := by decide +kernel
theorem dX4_lockCount_21 : decode cX4_lockCount 21 = .ok (.iload_n 1, 1) := by decide +kernel
theorem dX4_lockCount_22 : decode cX4_lockCount 22 = .ok (.if_icmp .ne 6, 3) := by decide +kernel
theorem dX4_lockCount_25 : decode cX4_lockCount 25 = .ok (.iinc 2 1, 3) := by decide +kernel
theorem dX4_lockCount_28 : decode cX4_lockCount 28 = .ok (.iinc 3 1, 3) := by decide +kernel
theorem dX4_lockCount_31 : decode cX4_lockCount 31 = .ok (.goto (-27), 3) := by decide +kernel
theorem dX4_lockCount_34 : decode cX4_lockCount 34 = .ok (.iload_n 2, 1) := by decide +kernel
theorem dX4_lockCount_35 : decode cX4_lockCount 35 = .ok (.ireturn, 1) := by decide +kernel
theorem dX4_associatedCount_0 : decode cX4_associatedCount 0 = .ok (.iconst 0, 1) := by decide +kernel
theorem dX4_associatedCount_1 : decode cX4_associatedCount 1 = .ok (.istore_n 1, 1) := by decide +kernel
theorem dX4_associatedCount_2 : decode cX4_associatedCount 2 = .ok (.iconst 0, 1) := by decide +kernel
theorem dX4_associatedCount_3 : decode cX4_associatedCount 3 = .ok (.istore_n 2, 1) := by decide +kernel
theorem dX4_associatedCount_4 : decode cX4_associatedCount 4 = .ok (.iload_n 2, 1) := by decide +kernel
theorem dX4_associatedCount_5 : decode cX4_associatedCount 5 = .ok (.iconst 4, 1) := by decide +kernel
theorem dX4_associatedCount_6 : decode cX4_associatedCount 6 = .ok (.if_icmp .ge 21, 3) := by decide +kernel
theorem dX4_associatedCount_9 : decode cX4_associatedCount 9 = .ok (.aload_n 0, 1) := by decide +kernel
theorem dX4_associatedCount_10 : decode cX4_associatedCount 10 = .ok (.getfield 22, 3) := by decide +kernel
theorem dX4_associatedCount_13 : decode cX4_associatedCount 13 = .ok (.iload_n 2, 1) := by decide +kernel
theorem dX4_associatedCount_14 : decode cX4_associatedCount 14 = .ok (.baload, 1) := by decide +kernel
theorem dX4_associatedCount_15 : decode cX4_associatedCount 15 = .ok (.ifCond .eq 6, 3) := by decide +kernel
theorem dX4_associatedCount_18 : decode cX4_associatedCount 18 = .ok (.iinc 1 1, 3) := by decide +kernel
theorem dX4_associatedCount_21 : decode cX4_associatedCount 21 = .ok (.iinc 2 1, 3) := by decide +kernel
theorem dX4_associatedCount_24 : decode cX4_associatedCount 24 = .ok (.goto (-20), 3) := by decide +kernel
theorem dX4_associatedCount_27 : decode cX4_associatedCount 27 = .ok (.iload_n 1, 1) := by decide +kernel
theorem dX4_associatedCount_28 : decode cX4_associatedCount 28 = .ok (.ireturn, 1) := by decide +kernel
theorem dX4_lineCount_0 : decode cX4_lineCount 0 = .ok (.iconst 0, 1) := by decide +kernel
theorem dX4_lineCount_1 : decode cX4_lineCount 1 = .ok (.istore_n 2, 1) := by decide +kernel
theorem dX4_lineCount_2 : decode cX4_lineCount 2 = .ok (.iconst 0, 1) := by decide +kernel
theorem dX4_lineCount_3 : decode cX4_lineCount 3 = .ok (.istore_n 3, 1) := by decide +kernel
theorem dX4_lineCount_4 : decode cX4_lineCount 4 = .ok (.iload_n 3, 1) := by decide +kernel
theorem dX4_lineCount_5 : decode cX4_lineCount 5 = .ok (.iconst 4, 1) := by decide +kernel
theorem dX4_lineCount_6 : decode cX4_lineCount 6 = .ok (.if_icmp .ge 28, 3) := by decide +kernel
theorem dX4_lineCount_9 : decode cX4_lineCount 9 = .ok (.aload_n 0, 1) := by decide +kernel
theorem dX4_lineCount_10 : decode cX4_lineCount 10 = .ok (.getfield 22, 3) := by decide +kernel
theorem dX4_lineCount_13 : decode cX4_lineCount 13 = .ok (.iload_n 3, 1) := by decide +kernel
theorem dX4_lineCount_14 : decode cX4_lineCount 14 = .ok (.baload, 1) := by decide +kernel
theorem dX4_lineCount_15 : decode cX4_lineCount 15 = .ok (.ifCond .eq 13, 3) := by decide +kernel
theorem dX4_lineCount_18 : decode cX4_lineCount 18 = .ok (.iload_n 2, 1) := by decide +kernel
theorem dX4_lineCount_19 : decode cX4_lineCount 19 = .ok (.aload_n 1, 1) := by decide +kernel
theorem dX4_lineCount_20 : decode cX4_lineCount 20 = .ok (.iload_n 3, 1) := by decide +kernel
theorem dX4_lineCount_21 : decode cX4_lineCount 21 = .ok (.invokevirtual 63, 3) := by decide +kernel
theorem dX4_lineCount_24 : decode cX4_lineCount 24 = .ok (.invokestatic 67, 3) := by decide +kernel
theorem dX4_lineCount_27 : decode cX4_lineCount 27 = .ok (.istore_n 2, 1) := by decide +kernel
theorem dX4_lineCount_28 : decode cX4_lineCount 28 = .ok (.iinc 3 1, 3) := by decide +kernel
theorem dX4_lineCount_31 : decode cX4_lineCount 31 = .ok (.goto (-27), 3) := by decide +kernel
theorem dX4_lineCount_34 : decode cX4_lineCount 34 = .ok (.iload_n 2, 1) := by decide +kernel
theorem dX4_lineCount_35 : decode cX4_lineCount 35 = .ok (.ireturn, 1) := by decide +kernel
theorem dX4_setColumn_0 : decode cX4_setColumn 0 = .ok (.aload_n 0, 1) := by decide +kernel
theorem dX4_setColumn_1 : decode cX4_setColumn 1 = .ok (.getfield 26, 3) := by decide +kernel
theorem dX4_setColumn_4 : decode cX4_setColumn 4 = .ok (.iload_n 1, 1) := by decide +kernel
theorem dX4_setColumn_5 : decode cX4_setColumn 5 = .ok (.iload_n 2, 1) := by decide +kernel
theorem dX4_setColumn_6 : decode cX4_setColumn 6 = .ok (.iastore, 1) := by decide +kernel
theorem dX4_setColumn_7 : decode cX4_setColumn 7 = .ok (.aload_n 0, 1) := by decide +kernel
theorem dX4_setColumn_8 : decode cX4_setColumn 8 = .ok (.getfield 30, 3) := by decide +kernel
theorem dX4_setColumn_11 : decode cX4_setColumn 11 = .ok (.iload_n 1, 1) := by decide +kernel
theorem dX4_setColumn_12 : decode cX4_setColumn 12 = .ok (.iload_n 3, 1) := by decide +kernel
theorem dX4_setColumn_13 : decode cX4_setColumn 13 = .ok (.iastore, 1) := by decide +kernel
theorem dX4_setColumn_14 : decode cX4_setColumn 14 = .ok (.aload_n 0, 1) := by decide +kernel
theorem dX4_setColumn_15 : decode cX4_setColumn 15 = .ok (.getfield 33, 3) := by decide +kernel
theorem dX4_setColumn_18 : decode cX4_setColumn 18 = .ok (.iload_n 1, 1) := by decide +kernel
theorem dX4_setColumn_19 : decode cX4_setColumn 19 = .ok (.iload 4, 2) := by decide +kernel
theorem dX4_setColumn_21 : decode cX4_setColumn 21 = .ok (.iastore, 1) := by decide +kernel
theorem dX4_setColumn_22 : decode cX4_setColumn 22 = .ok (.return_, 1) := by decide +kernel
theorem dX4_gather_0 : decode cX4_gather 0 = .ok (.aload_n 3, 1) := by decide +kernel
theorem dX4_gather_1 : decode cX4_gather 1 = .ok (.iconst 0, 1) := by decide +kernel
theorem dX4_gather_2 : decode cX4_gather 2 = .ok (.putfield 73, 3) := by decide +kernel
theorem dX4_gather_5 : decode cX4_gather 5 = .ok (.aload_n 0, 1) := by decide +kernel
theorem dX4_gather_6 : decode cX4_gather 6 = .ok (.getfield 26, 3) := by decide +kernel
theorem dX4_gather_9 : decode cX4_gather 9 = .ok (.iload_n 2, 1) := by decide +kernel
theorem dX4_gather_10 : decode cX4_gather 10 = .ok (.iaload, 1) := by decide +kernel
theorem dX4_gather_11 : decode cX4_gather 11 = .ok (.tableswitch 88 0 3 #[29, 43, 60, 74], 29) := by decide +kernel
theorem dX4_gather_40 : decode cX4_gather 40 = .ok (.aload_n 1, 1) := by decide +kernel
theorem dX4_gather_41 : decode cX4_gather 41 = .ok (.aload_n 0, 1) := by decide +kernel
theorem dX4_gather_42 : decode cX4_gather 42 = .ok (.getfield 30, 3) := by decide +kernel
theorem dX4_gather_45 : decode cX4_gather 45 = .ok (.iload_n 2, 1) := by decide +kernel
theorem dX4_gather_46 : decode cX4_gather 46 = .ok (.iaload, 1) := by decide +kernel
theorem dX4_gather_47 : decode cX4_gather 47 = .ok (.aload_n 3, 1) := by decide +kernel
theorem dX4_gather_48 : decode cX4_gather 48 = .ok (.invokevirtual 78, 3) := by decide +kernel
theorem dX4_gather_51 : decode cX4_gather 51 = .ok (.goto 65, 3) := by decide +kernel
theorem dX4_gather_54 : decode cX4_gather 54 = .ok (.aload_n 3, 1) := by decide +kernel
theorem dX4_gather_55 : decode cX4_gather 55 = .ok (.aload_n 1, 1) := by decide +kernel
theorem dX4_gather_56 : decode cX4_gather 56 = .ok (.aload_n 0, 1) := by decide +kernel
theorem dX4_gather_57 : decode cX4_gather 57 = .ok (.getfield 30, 3) := by decide +kernel
theorem dX4_gather_60 : decode cX4_gather 60 = .ok (.iload_n 2, 1) := by decide +kernel
theorem dX4_gather_61 : decode cX4_gather 61 = .ok (.iaload, 1) := by decide +kernel
theorem dX4_gather_62 : decode cX4_gather 62 = .ok (.invokevirtual 63, 3) := by decide +kernel
theorem dX4_gather_65 : decode cX4_gather 65 = .ok (.invokevirtual 82, 3) := by decide +kernel
theorem dX4_gather_68 : decode cX4_gather 68 = .ok (.goto 48, 3) := by decide +kernel
theorem dX4_gather_71 : decode cX4_gather 71 = .ok (.aload_n 1, 1) := by decide +kernel
theorem dX4_gather_72 : decode cX4_gather 72 = .ok (.aload_n 0, 1) := by decide +kernel
theorem dX4_gather_73 : decode cX4_gather 73 = .ok (.getfield 30, 3) := by decide +kernel
theorem dX4_gather_76 : decode cX4_gather 76 = .ok (.iload_n 2, 1) := by decide +kernel
theorem dX4_gather_77 : decode cX4_gather 77 = .ok (.iaload, 1) := by decide +kernel
theorem dX4_gather_78 : decode cX4_gather 78 = .ok (.aload_n 3, 1) := by decide +kernel
theorem dX4_gather_79 : decode cX4_gather 79 = .ok (.invokevirtual 85, 3) := by decide +kernel
theorem dX4_gather_82 : decode cX4_gather 82 = .ok (.goto 34, 3) := by decide +kernel
theorem dX4_gather_85 : decode cX4_gather 85 = .ok (.aload_n 1, 1) := by decide +kernel
theorem dX4_gather_86 : decode cX4_gather 86 = .ok (.aload_n 0, 1) := by decide +kernel
theorem dX4_gather_87 : decode cX4_gather 87 = .ok (.getfield 30, 3) := by decide +kernel
theorem dX4_gather_90 : decode cX4_gather 90 = .ok (.iload_n 2, 1) := by decide +kernel
theorem dX4_gather_91 : decode cX4_gather 91 = .ok (.iaload, 1) := by decide +kernel
theorem dX4_gather_92 : decode cX4_gather 92 = .ok (.aload_n 3, 1) := by decide +kernel
theorem dX4_gather_93 : decode cX4_gather 93 = .ok (.invokevirtual 88, 3) := by decide +kernel
theorem dX4_gather_96 : decode cX4_gather 96 = .ok (.goto 20, 3) := by decide +kernel
theorem dX4_gather_99 : decode cX4_gather 99 = .ok (.aload_n 1, 1) := by decide +kernel
theorem dX4_gather_100 : decode cX4_gather 100 = .ok (.aload_n 0, 1) := by decide +kernel
theorem dX4_gather_101 : decode cX4_gather 101 = .ok (.getfield 30, 3) := by decide +kernel
theorem dX4_gather_104 : decode cX4_gather 104 = .ok (.iload_n 2, 1) := by decide +kernel
theorem dX4_gather_105 : decode cX4_gather 105 = .ok (.iaload, 1) := by decide +kernel
theorem dX4_gather_106 : decode cX4_gather 106 = .ok (.aload_n 0, 1) := by decide +kernel
theorem dX4_gather_107 : decode cX4_gather 107 = .ok (.getfield 33, 3) := by decide +kernel
theorem dX4_gather_110 : decode cX4_gather 110 = .ok (.iload_n 2, 1) := by decide +kernel
theorem dX4_gather_111 : decode cX4_gather 111 = .ok (.iaload, 1) := by decide +kernel
theorem dX4_gather_112 : decode cX4_gather 112 = .ok (.aload_n 3, 1) := by decide +kernel
theorem dX4_gather_113 : decode cX4_gather 113 = .ok (.invokevirtual 91, 3) := by decide +kernel
theorem dX4_gather_116 : decode cX4_gather 116 = .ok (.return_, 1) := by decide +kernel
theorem dX4_isListed_0 : decode cX4_isListed 0 = .ok (.aload_n 0, 1) := by decide +kernel
theorem dX4_isListed_1 : decode cX4_isListed 1 = .ok (.getfield 40, 3) := by decide +kernel
theorem dX4_isListed_4 : decode cX4_isListed 4 = .ok (.iload_n 1, 1) := by decide +kernel
theorem dX4_isListed_5 : decode cX4_isListed 5 = .ok (.bipush 100, 2) := by decide +kernel
theorem dX4_isListed_7 : decode cX4_isListed 7 = .ok (.imul, 1) := by decide +kernel
theorem dX4_isListed_8 : decode cX4_isListed 8 = .ok (.iload_n 2, 1) := by decide +kernel
theorem dX4_isListed_9 : decode cX4_isListed 9 = .ok (.iadd, 1) := by decide +kernel
theorem dX4_isListed_10 : decode cX4_isListed 10 = .ok (.baload, 1) := by decide +kernel
theorem dX4_isListed_11 : decode cX4_isListed 11 = .ok (.ireturn, 1) := by decide +kernel
theorem dX4_setListed_0 : decode cX4_setListed 0 = .ok (.aload_n 0, 1) := by decide +kernel
theorem dX4_setListed_1 : decode cX4_setListed 1 = .ok (.getfield 40, 3) := by decide +kernel
theorem dX4_setListed_4 : decode cX4_setListed 4 = .ok (.iload_n 1, 1) := by decide +kernel
theorem dX4_setListed_5 : decode cX4_setListed 5 = .ok (.bipush 100, 2) := by decide +kernel
theorem dX4_setListed_7 : decode cX4_setListed 7 = .ok (.imul, 1) := by decide +kernel
theorem dX4_setListed_8 : decode cX4_setListed 8 = .ok (.iload_n 2, 1) := by decide +kernel
theorem dX4_setListed_9 : decode cX4_setListed 9 = .ok (.iadd, 1) := by decide +kernel
theorem dX4_setListed_10 : decode cX4_setListed 10 = .ok (.iload_n 3, 1) := by decide +kernel
theorem dX4_setListed_11 : decode cX4_setListed 11 = .ok (.bastore, 1) := by decide +kernel
theorem dX4_setListed_12 : decode cX4_setListed 12 = .ok (.return_, 1) := by decide +kernel
theorem dX4_emptyList_0 : decode cX4_emptyList 0 = .ok (.iconst 0, 1) := by decide +kernel
theorem dX4_emptyList_1 : decode cX4_emptyList 1 = .ok (.istore_n 2, 1) := by decide +kernel
theorem dX4_emptyList_2 : decode cX4_emptyList 2 = .ok (.iload_n 2, 1) := by decide +kernel
theorem dX4_emptyList_3 : decode cX4_emptyList 3 = .ok (.bipush 100, 2) := by decide +kernel
theorem dX4_emptyList_5 : decode cX4_emptyList 5 = .ok (.if_icmp .ge 16, 3) := by decide +kernel
theorem dX4_emptyList_8 : decode cX4_emptyList 8 = .ok (.aload_n 0, 1) := by decide +kernel
theorem dX4_emptyList_9 : decode cX4_emptyList 9 = .ok (.iload_n 1, 1) := by decide +kernel
theorem dX4_emptyList_10 : decode cX4_emptyList 10 = .ok (.iload_n 2, 1) := by decide +kernel
theorem dX4_emptyList_11 : decode cX4_emptyList 11 = .ok (.iconst 0, 1) := by decide +kernel
theorem dX4_emptyList_12 : decode cX4_emptyList 12 = .ok (.invokevirtual 95, 3) := by decide +kernel
theorem dX4_emptyList_15 : decode cX4_emptyList 15 = .ok (.iinc 2 1, 3) := by decide +kernel
theorem dX4_emptyList_18 : decode cX4_emptyList 18 = .ok (.goto (-16), 3) := by decide +kernel
theorem dX4_emptyList_21 : decode cX4_emptyList 21 = .ok (.return_, 1) := by decide +kernel
theorem dX4_listedCount_0 : decode cX4_listedCount 0 = .ok (.iconst 0, 1) := by decide +kernel
theorem dX4_listedCount_1 : decode cX4_listedCount 1 = .ok (.istore_n 2, 1) := by decide +kernel
theorem dX4_listedCount_2 : decode cX4_listedCount 2 = .ok (.iconst 0, 1) := by decide +kernel
theorem dX4_listedCount_3 : decode cX4_listedCount 3 = .ok (.istore_n 3, 1) := by decide +kernel
theorem dX4_listedCount_4 : decode cX4_listedCount 4 = .ok (.iload_n 3, 1) := by decide +kernel
theorem dX4_listedCount_5 : decode cX4_listedCount 5 = .ok (.bipush 100, 2) := by decide +kernel
theorem dX4_listedCount_7 : decode cX4_listedCount 7 = .ok (.if_icmp .ge 21, 3) := by decide +kernel
theorem dX4_listedCount_10 : decode cX4_listedCount 10 = .ok (.aload_n 0, 1) := by decide +kernel
theorem dX4_listedCount_11 : decode cX4_listedCount 11 = .ok (.iload_n 1, 1) := by decide +kernel
theorem dX4_listedCount_12 : decode cX4_listedCount 12 = .ok (.iload_n 3, 1) := by decide +kernel
theorem dX4_listedCount_13 : decode cX4_listedCount 13 = .ok (.invokevirtual 99, 3) := by decide +kernel
theorem dX4_listedCount_16 : decode cX4_listedCount 16 = .ok (.ifCond .eq 6, 3) := by decide +kernel
theorem dX4_listedCount_19 : decode cX4_listedCount 19 = .ok (.iinc 2 1, 3) := by decide +kernel
theorem dX4_listedCount_22 : decode cX4_listedCount 22 = .ok (.iinc 3 1, 3) := by decide +kernel
theorem dX4_listedCount_25 : decode cX4_listedCount 25 = .ok (.goto (-21), 3) := by decide +kernel
theorem dX4_listedCount_28 : decode cX4_listedCount 28 = .ok (.iload_n 2, 1) := by decide +kernel
theorem dX4_listedCount_29 : decode cX4_listedCount 29 = .ok (.ireturn, 1) := by decide +kernel
