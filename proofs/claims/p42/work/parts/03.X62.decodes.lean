theorem dX6_entryCount_36 : decode cX6_entryCount 36 = .ok (.iload_n 2, 1) := by decide +kernel
theorem dX6_entryCount_37 : decode cX6_entryCount 37 = .ok (.aload_n 0, 1) := by decide +kernel
theorem dX6_entryCount_38 : decode cX6_entryCount 38 = .ok (.getfield 46, 3) := by decide +kernel
theorem dX6_entryCount_41 : decode cX6_entryCount 41 = .ok (.getfield 211, 3) := by decide +kernel
theorem dX6_entryCount_44 : decode cX6_entryCount 44 = .ok (.iadd, 1) := by decide +kernel
theorem dX6_entryCount_45 : decode cX6_entryCount 45 = .ok (.istore_n 2, 1) := by decide +kernel
theorem dX6_entryCount_46 : decode cX6_entryCount 46 = .ok (.iinc 3 1, 3) := by decide +kernel
theorem dX6_entryCount_49 : decode cX6_entryCount 49 = .ok (.goto (-45), 3) := by decide +kernel
theorem dX6_entryCount_52 : decode cX6_entryCount 52 = .ok (.iload_n 2, 1) := by decide +kernel
theorem dX6_entryCount_53 : decode cX6_entryCount 53 = .ok (.ireturn, 1) := by decide +kernel
theorem dX6_sumOf_0 : decode cX6_sumOf 0 = .ok (.iconst 0, 1) := by decide +kernel
theorem dX6_sumOf_1 : decode cX6_sumOf 1 = .ok (.istore_n 3, 1) := by decide +kernel
theorem dX6_sumOf_2 : decode cX6_sumOf 2 = .ok (.iconst 0, 1) := by decide +kernel
theorem dX6_sumOf_3 : decode cX6_sumOf 3 = .ok (.istore 4, 2) := by decide +kernel
theorem dX6_sumOf_5 : decode cX6_sumOf 5 = .ok (.iload 4, 2) := by decide +kernel
theorem dX6_sumOf_7 : decode cX6_sumOf 7 = .ok (.aload_n 0, 1) := by decide +kernel
theorem dX6_sumOf_8 : decode cX6_sumOf 8 = .ok (.getfield 12, 3) := by decide +kernel
theorem dX6_sumOf_11 : decode cX6_sumOf 11 = .ok (.getfield 67, 3) := by decide +kernel
theorem dX6_sumOf_14 : decode cX6_sumOf 14 = .ok (.if_icmp .ge 66, 3) := by decide +kernel
theorem dX6_sumOf_17 : decode cX6_sumOf 17 = .ok (.aload_n 0, 1) := by decide +kernel
theorem dX6_sumOf_18 : decode cX6_sumOf 18 = .ok (.getfield 12, 3) := by decide +kernel
theorem dX6_sumOf_21 : decode cX6_sumOf 21 = .ok (.getfield 189, 3) := by decide +kernel
theorem dX6_sumOf_24 : decode cX6_sumOf 24 = .ok (.iload 4, 2) := by decide +kernel
theorem dX6_sumOf_26 : decode cX6_sumOf 26 = .ok (.aaload, 1) := by decide +kernel
theorem dX6_sumOf_27 : decode cX6_sumOf 27 = .ok (.astore 5, 2) := by decide +kernel
theorem dX6_sumOf_29 : decode cX6_sumOf 29 = .ok (.iload_n 2, 1) := by decide +kernel
theorem dX6_sumOf_30 : decode cX6_sumOf 30 = .ok (.iconst (-1), 1) := by decide +kernel
theorem dX6_sumOf_31 : decode cX6_sumOf 31 = .ok (.if_icmp .eq 19, 3) := by decide +kernel
theorem dX6_sumOf_34 : decode cX6_sumOf 34 = .ok (.aload_n 0, 1) := by decide +kernel
theorem dX6_sumOf_35 : decode cX6_sumOf 35 = .ok (.getfield 12, 3) := by decide +kernel
theorem dX6_sumOf_38 : decode cX6_sumOf 38 = .ok (.iload_n 2, 1) := by decide +kernel
theorem dX6_sumOf_39 : decode cX6_sumOf 39 = .ok (.aload 5, 2) := by decide +kernel
theorem dX6_sumOf_41 : decode cX6_sumOf 41 = .ok (.getfield 201, 3) := by decide +kernel
theorem dX6_sumOf_44 : decode cX6_sumOf 44 = .ok (.invokevirtual 220, 3) := by decide +kernel
theorem dX6_sumOf_47 : decode cX6_sumOf 47 = .ok (.ifCond .eq 27, 3) := by decide +kernel
theorem dX6_sumOf_50 : decode cX6_sumOf 50 = .ok (.aload_n 0, 1) := by decide +kernel
theorem dX6_sumOf_51 : decode cX6_sumOf 51 = .ok (.getfield 12, 3) := by decide +kernel
theorem dX6_sumOf_54 : decode cX6_sumOf 54 = .ok (.aload 5, 2) := by decide +kernel
theorem dX6_sumOf_56 : decode cX6_sumOf 56 = .ok (.iload_n 1, 1) := by decide +kernel
theorem dX6_sumOf_57 : decode cX6_sumOf 57 = .ok (.aload_n 0, 1) := by decide +kernel
theorem dX6_sumOf_58 : decode cX6_sumOf 58 = .ok (.getfield 46, 3) := by decide +kernel
theorem dX6_sumOf_61 : decode cX6_sumOf 61 = .ok (.invokevirtual 193, 3) := by decide +kernel
theorem dX6_sumOf_64 : decode cX6_sumOf 64 = .ok (.iload_n 3, 1) := by decide +kernel
theorem dX6_sumOf_65 : decode cX6_sumOf 65 = .ok (.aload_n 0, 1) := by decide +kernel
theorem dX6_sumOf_66 : decode cX6_sumOf 66 = .ok (.getfield 46, 3) := by decide +kernel
theorem dX6_sumOf_69 : decode cX6_sumOf 69 = .ok (.invokevirtual 275, 3) := by decide +kernel
theorem dX6_sumOf_72 : decode cX6_sumOf 72 = .ok (.iadd, 1) := by decide +kernel
theorem dX6_sumOf_73 : decode cX6_sumOf 73 = .ok (.istore_n 3, 1) := by decide +kernel
theorem dX6_sumOf_74 : decode cX6_sumOf 74 = .ok (.iinc 4 1, 3) := by decide +kernel
theorem dX6_sumOf_77 : decode cX6_sumOf 77 = .ok (.goto (-72), 3) := by decide +kernel
theorem dX6_sumOf_80 : decode cX6_sumOf 80 = .ok (.iload_n 3, 1) := by decide +kernel
theorem dX6_sumOf_81 : decode cX6_sumOf 81 = .ok (.ireturn, 1) := by decide +kernel
theorem dX6_explode_0 : decode cX6_explode 0 = .ok (.aload_n 0, 1) := by decide +kernel
theorem dX6_explode_1 : decode cX6_explode 1 = .ok (.getfield 53, 3) := by decide +kernel
theorem dX6_explode_4 : decode cX6_explode 4 = .ok (.iload_n 2, 1) := by decide +kernel
theorem dX6_explode_5 : decode cX6_explode 5 = .ok (.invokevirtual 278, 3) := by decide +kernel
theorem dX6_explode_8 : decode cX6_explode 8 = .ok (.iconst 0, 1) := by decide +kernel
theorem dX6_explode_9 : decode cX6_explode 9 = .ok (.istore_n 3, 1) := by decide +kernel
theorem dX6_explode_10 : decode cX6_explode 10 = .ok (.iload_n 3, 1) := by decide +kernel
theorem dX6_explode_11 : decode cX6_explode 11 = .ok (.aload_n 0, 1) := by decide +kernel
theorem dX6_explode_12 : decode cX6_explode 12 = .ok (.getfield 12, 3) := by decide +kernel
theorem dX6_explode_15 : decode cX6_explode 15 = .ok (.getfield 67, 3) := by decide +kernel
theorem dX6_explode_18 : decode cX6_explode 18 = .ok (.if_icmp .ge 78, 3) := by decide +kernel
theorem dX6_explode_21 : decode cX6_explode 21 = .ok (.aload_n 0, 1) := by decide +kernel
theorem dX6_explode_22 : decode cX6_explode 22 = .ok (.getfield 12, 3) := by decide +kernel
theorem dX6_explode_25 : decode cX6_explode 25 = .ok (.getfield 189, 3) := by decide +kernel
theorem dX6_explode_28 : decode cX6_explode 28 = .ok (.iload_n 3, 1) := by decide +kernel
theorem dX6_explode_29 : decode cX6_explode 29 = .ok (.aaload, 1) := by decide +kernel
theorem dX6_explode_30 : decode cX6_explode 30 = .ok (.astore 4, 2) := by decide +kernel
theorem dX6_explode_32 : decode cX6_explode 32 = .ok (.aload_n 0, 1) := by decide +kernel
theorem dX6_explode_33 : decode cX6_explode 33 = .ok (.getfield 12, 3) := by decide +kernel
theorem dX6_explode_36 : decode cX6_explode 36 = .ok (.aload 4, 2) := by decide +kernel
theorem dX6_explode_38 : decode cX6_explode 38 = .ok (.iload_n 1, 1) := by decide +kernel
theorem dX6_explode_39 : decode cX6_explode 39 = .ok (.aload_n 0, 1) := by decide +kernel
theorem dX6_explode_40 : decode cX6_explode 40 = .ok (.getfield 46, 3) := by decide +kernel
theorem dX6_explode_43 : decode cX6_explode 43 = .ok (.invokevirtual 193, 3) := by decide +kernel
theorem dX6_explode_46 : decode cX6_explode 46 = .ok (.iconst 0, 1) := by decide +kernel
theorem dX6_explode_47 : decode cX6_explode 47 = .ok (.istore 5, 2) := by decide +kernel
theorem dX6_explode_49 : decode cX6_explode 49 = .ok (.iload 5, 2) := by decide +kernel
theorem dX6_explode_51 : decode cX6_explode 51 = .ok (.aload_n 0, 1) := by decide +kernel
theorem dX6_explode_52 : decode cX6_explode 52 = .ok (.getfield 46, 3) := by decide +kernel
theorem dX6_explode_55 : decode cX6_explode 55 = .ok (.getfield 211, 3) := by decide +kernel
theorem dX6_explode_58 : decode cX6_explode 58 = .ok (.if_icmp .ge 32, 3) := by decide +kernel
theorem dX6_explode_61 : decode cX6_explode 61 = .ok (.aload_n 0, 1) := by decide +kernel
theorem dX6_explode_62 : decode cX6_explode 62 = .ok (.getfield 53, 3) := by decide +kernel
theorem dX6_explode_65 : decode cX6_explode 65 = .ok (.aload_n 0, 1) := by decide +kernel
theorem dX6_explode_66 : decode cX6_explode 66 = .ok (.getfield 46, 3) := by decide +kernel
theorem dX6_explode_69 : decode cX6_explode 69 = .ok (.iload 5, 2) := by decide +kernel
theorem dX6_explode_71 : decode cX6_explode 71 = .ok (.invokevirtual 214, 3) := by decide +kernel
theorem dX6_explode_74 : decode cX6_explode 74 = .ok (.aload 4, 2) := by decide +kernel
theorem dX6_explode_76 : decode cX6_explode 76 = .ok (.getfield 201, 3) := by decide +kernel
theorem dX6_explode_79 : decode cX6_explode 79 = .ok (.iload 5, 2) := by decide +kernel
theorem dX6_explode_81 : decode cX6_explode 81 = .ok (.invokevirtual 282, 3) := by decide +kernel
theorem dX6_explode_84 : decode cX6_explode 84 = .ok (.iinc 5 1, 3) := by decide +kernel
theorem dX6_explode_87 : decode cX6_explode 87 = .ok (.goto (-38), 3) := by decide +kernel
theorem dX6_explode_90 : decode cX6_explode 90 = .ok (.iinc 3 1, 3) := by decide +kernel
theorem dX6_explode_93 : decode cX6_explode 93 = .ok (.goto (-83), 3) := by decide +kernel
theorem dX6_explode_96 : decode cX6_explode 96 = .ok (.return_, 1) := by decide +kernel
theorem dX6_isBelow_0 : decode cX6_isBelow 0 = .ok (.iload_n 0, 1) := by decide +kernel
theorem dX6_isBelow_1 : decode cX6_isBelow 1 = .ok (.ifCond .lt 12, 3) := by decide +kernel
theorem dX6_isBelow_4 : decode cX6_isBelow 4 = .ok (.iload_n 0, 1) := by decide +kernel
theorem dX6_isBelow_5 : decode cX6_isBelow 5 = .ok (.iload_n 1, 1) := by decide +kernel
theorem dX6_isBelow_6 : decode cX6_isBelow 6 = .ok (.if_icmp .ge 7, 3) := by decide +kernel
theorem dX6_isBelow_9 : decode cX6_isBelow 9 = .ok (.iconst 1, 1) := by decide +kernel
theorem dX6_isBelow_10 : decode cX6_isBelow 10 = .ok (.goto 4, 3) := by decide +kernel
theorem dX6_isBelow_13 : decode cX6_isBelow 13 = .ok (.iconst 0, 1) := by decide +kernel
theorem dX6_isBelow_14 : decode cX6_isBelow 14 = .ok (.ireturn, 1) := by decide +kernel
theorem dX6_isNumber_0 : decode cX6_isNumber 0 = .ok (.iload_n 0, 1) := by decide +kernel
theorem dX6_isNumber_1 : decode cX6_isNumber 1 = .ok (.sipush (-999), 3) := by decide +kernel
theorem dX6_isNumber_4 : decode cX6_isNumber 4 = .ok (.if_icmp .lt 14, 3) := by decide +kernel
theorem dX6_isNumber_7 : decode cX6_isNumber 7 = .ok (.iload_n 0, 1) := by decide +kernel
theorem dX6_isNumber_8 : decode cX6_isNumber 8 = .ok (.sipush 999, 3) := by decide +kernel
theorem dX6_isNumber_11 : decode cX6_isNumber 11 = .ok (.if_icmp .gt 7, 3) := by decide +kernel
theorem dX6_isNumber_14 : decode cX6_isNumber 14 = .ok (.iconst 1, 1) := by decide +kernel
theorem dX6_isNumber_15 : decode cX6_isNumber 15 = .ok (.goto 4, 3) := by decide +kernel
theorem dX6_isNumber_18 : decode cX6_isNumber 18 = .ok (.iconst 0, 1) := by decide +kernel
theorem dX6_isNumber_19 : decode cX6_isNumber 19 = .ok (.ireturn, 1) := by decide +kernel
