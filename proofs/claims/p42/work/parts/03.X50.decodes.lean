theorem dX5_init_0 : decode cX5_init 0 = .ok (.aload_n 0, 1) := by decide +kernel
theorem dX5_init_1 : decode cX5_init 1 = .ok (.invokespecial 3, 3) := by decide +kernel
theorem dX5_init_4 : decode cX5_init 4 = .ok (.aload_n 0, 1) := by decide +kernel
theorem dX5_init_5 : decode cX5_init 5 = .ok (.new 9, 3) := by decide +kernel
theorem dX5_init_8 : decode cX5_init 8 = .ok (.dup, 1) := by decide +kernel
theorem dX5_init_9 : decode cX5_init 9 = .ok (.invokespecial 11, 3) := by decide +kernel
theorem dX5_init_12 : decode cX5_init 12 = .ok (.putfield 12, 3) := by decide +kernel
theorem dX5_init_15 : decode cX5_init 15 = .ok (.aload_n 0, 1) := by decide +kernel
theorem dX5_init_16 : decode cX5_init 16 = .ok (.iconst 0, 1) := by decide +kernel
theorem dX5_init_17 : decode cX5_init 17 = .ok (.putfield 18, 3) := by decide +kernel
theorem dX5_init_20 : decode cX5_init 20 = .ok (.aload_n 0, 1) := by decide +kernel
theorem dX5_init_21 : decode cX5_init 21 = .ok (.iconst 0, 1) := by decide +kernel
theorem dX5_init_22 : decode cX5_init 22 = .ok (.putfield 22, 3) := by decide +kernel
theorem dX5_init_25 : decode cX5_init 25 = .ok (.aload_n 0, 1) := by decide +kernel
theorem dX5_init_26 : decode cX5_init 26 = .ok (.iconst 0, 1) := by decide +kernel
theorem dX5_init_27 : decode cX5_init 27 = .ok (.putfield 25, 3) := by decide +kernel
theorem dX5_init_30 : decode cX5_init 30 = .ok (.aload_n 0, 1) := by decide +kernel
theorem dX5_init_31 : decode cX5_init 31 = .ok (.iconst 0, 1) := by decide +kernel
theorem dX5_init_32 : decode cX5_init 32 = .ok (.putfield 28, 3) := by decide +kernel
theorem dX5_init_35 : decode cX5_init 35 = .ok (.return_, 1) := by decide +kernel
theorem dX5_read_0 : decode cX5_read 0 = .ok (.aload_n 0, 1) := by decide +kernel
theorem dX5_read_1 : decode cX5_read 1 = .ok (.getfield 12, 3) := by decide +kernel
theorem dX5_read_4 : decode cX5_read 4 = .ok (.invokevirtual 32, 3) := by decide +kernel
theorem dX5_read_7 : decode cX5_read 7 = .ok (.aload_n 0, 1) := by decide +kernel
theorem dX5_read_8 : decode cX5_read 8 = .ok (.iconst 0, 1) := by decide +kernel
theorem dX5_read_9 : decode cX5_read 9 = .ok (.putfield 18, 3) := by decide +kernel
theorem dX5_read_12 : decode cX5_read 12 = .ok (.aload_n 0, 1) := by decide +kernel
theorem dX5_read_13 : decode cX5_read 13 = .ok (.iconst 0, 1) := by decide +kernel
theorem dX5_read_14 : decode cX5_read 14 = .ok (.putfield 22, 3) := by decide +kernel
theorem dX5_read_17 : decode cX5_read 17 = .ok (.iconst 0, 1) := by decide +kernel
theorem dX5_read_18 : decode cX5_read 18 = .ok (.istore_n 2, 1) := by decide +kernel
theorem dX5_read_19 : decode cX5_read 19 = .ok (.iload_n 2, 1) := by decide +kernel
theorem dX5_read_20 : decode cX5_read 20 = .ok (.aload_n 1, 1) := by decide +kernel
theorem dX5_read_21 : decode cX5_read 21 = .ok (.getfield 35, 3) := by decide +kernel
theorem dX5_read_24 : decode cX5_read 24 = .ok (.if_icmp .ge 23, 3) := by decide +kernel
theorem dX5_read_27 : decode cX5_read 27 = .ok (.aload_n 0, 1) := by decide +kernel
theorem dX5_read_28 : decode cX5_read 28 = .ok (.aload_n 1, 1) := by decide +kernel
theorem dX5_read_29 : decode cX5_read 29 = .ok (.iload_n 2, 1) := by decide +kernel
theorem dX5_read_30 : decode cX5_read 30 = .ok (.invokevirtual 40, 3) := by decide +kernel
theorem dX5_read_33 : decode cX5_read 33 = .ok (.invokevirtual 44, 3) := by decide +kernel
theorem dX5_read_36 : decode cX5_read 36 = .ok (.ifCond .ne 5, 3) := by decide +kernel
theorem dX5_read_39 : decode cX5_read 39 = .ok (.iload_n 2, 1) := by decide +kernel
theorem dX5_read_40 : decode cX5_read 40 = .ok (.ireturn, 1) := by decide +kernel
theorem dX5_read_41 : decode cX5_read 41 = .ok (.iinc 2 1, 3) := by decide +kernel
theorem dX5_read_44 : decode cX5_read 44 = .ok (.goto (-25), 3) := by decide +kernel
theorem dX5_read_47 : decode cX5_read 47 = .ok (.aload_n 0, 1) := by decide +kernel
theorem dX5_read_48 : decode cX5_read 48 = .ok (.invokevirtual 48, 3) := by decide +kernel
theorem dX5_read_51 : decode cX5_read 51 = .ok (.ifCond .eq 8, 3) := by decide +kernel
theorem dX5_read_54 : decode cX5_read 54 = .ok (.ldc 52, 2) := by decide +kernel
theorem dX5_read_56 : decode cX5_read 56 = .ok (.goto 7, 3) := by decide +kernel
theorem dX5_read_59 : decode cX5_read 59 = .ok (.aload_n 1, 1) := by decide +kernel
theorem dX5_read_60 : decode cX5_read 60 = .ok (.getfield 35, 3) := by decide +kernel
theorem dX5_read_63 : decode cX5_read 63 = .ok (.ireturn, 1) := by decide +kernel
theorem dX5_isComplete_0 : decode cX5_isComplete 0 = .ok (.aload_n 0, 1) := by decide +kernel
theorem dX5_isComplete_1 : decode cX5_isComplete 1 = .ok (.getfield 22, 3) := by decide +kernel
theorem dX5_isComplete_4 : decode cX5_isComplete 4 = .ok (.iconst 3, 1) := by decide +kernel
theorem dX5_isComplete_5 : decode cX5_isComplete 5 = .ok (.if_icmp .ne 14, 3) := by decide +kernel
theorem dX5_isComplete_8 : decode cX5_isComplete 8 = .ok (.aload_n 0, 1) := by decide +kernel
theorem dX5_isComplete_9 : decode cX5_isComplete 9 = .ok (.invokevirtual 53, 3) := by decide +kernel
theorem dX5_isComplete_12 : decode cX5_isComplete 12 = .ok (.ifCond .eq 7, 3) := by decide +kernel
theorem dX5_isComplete_15 : decode cX5_isComplete 15 = .ok (.iconst 1, 1) := by decide +kernel
theorem dX5_isComplete_16 : decode cX5_isComplete 16 = .ok (.goto 4, 3) := by decide +kernel
theorem dX5_isComplete_19 : decode cX5_isComplete 19 = .ok (.iconst 0, 1) := by decide +kernel
theorem dX5_isComplete_20 : decode cX5_isComplete 20 = .ok (.ireturn, 1) := by decide +kernel
theorem dX5_isNumberOver_0 : decode cX5_isNumberOver 0 = .ok (.aload_n 0, 1) := by decide +kernel
theorem dX5_isNumberOver_1 : decode cX5_isNumberOver 1 = .ok (.getfield 18, 3) := by decide +kernel
theorem dX5_isNumberOver_4 : decode cX5_isNumberOver 4 = .ok (.ifCond .eq 11, 3) := by decide +kernel
theorem dX5_isNumberOver_7 : decode cX5_isNumberOver 7 = .ok (.aload_n 0, 1) := by decide +kernel
theorem dX5_isNumberOver_8 : decode cX5_isNumberOver 8 = .ok (.getfield 18, 3) := by decide +kernel
theorem dX5_isNumberOver_11 : decode cX5_isNumberOver 11 = .ok (.iconst 3, 1) := by decide +kernel
theorem dX5_isNumberOver_12 : decode cX5_isNumberOver 12 = .ok (.if_icmp .ne 7, 3) := by decide +kernel
theorem dX5_isNumberOver_15 : decode cX5_isNumberOver 15 = .ok (.iconst 1, 1) := by decide +kernel
theorem dX5_isNumberOver_16 : decode cX5_isNumberOver 16 = .ok (.goto 4, 3) := by decide +kernel
theorem dX5_isNumberOver_19 : decode cX5_isNumberOver 19 = .ok (.iconst 0, 1) := by decide +kernel
theorem dX5_isNumberOver_20 : decode cX5_isNumberOver 20 = .ok (.ireturn, 1) := by decide +kernel
theorem dX5_takes_0 : decode cX5_takes 0 = .ok (.iload_n 1, 1) := by decide +kernel
theorem dX5_takes_1 : decode cX5_takes 1 = .ok (.bipush 48, 2) := by decide +kernel
theorem dX5_takes_3 : decode cX5_takes 3 = .ok (.if_icmp .lt 18, 3) := by decide +kernel
theorem dX5_takes_6 : decode cX5_takes 6 = .ok (.iload_n 1, 1) := by decide +kernel
theorem dX5_takes_7 : decode cX5_takes 7 = .ok (.bipush 57, 2) := by decide +kernel
theorem dX5_takes_9 : decode cX5_takes 9 = .ok (.if_icmp .gt 12, 3) := by decide +kernel
theorem dX5_takes_12 : decode cX5_takes 12 = .ok (.aload_n 0, 1) := by decide +kernel
theorem dX5_takes_13 : decode cX5_takes 13 = .ok (.iload_n 1, 1) := by decide +kernel
theorem dX5_takes_14 : decode cX5_takes 14 = .ok (.bipush 48, 2) := by decide +kernel
theorem dX5_takes_16 : decode cX5_takes 16 = .ok (.isub, 1) := by decide +kernel
theorem dX5_takes_17 : decode cX5_takes 17 = .ok (.invokevirtual 56, 3) := by decide +kernel
theorem dX5_takes_20 : decode cX5_takes 20 = .ok (.ireturn, 1) := by decide +kernel
theorem dX5_takes_21 : decode cX5_takes 21 = .ok (.iload_n 1, 1) := by decide +kernel
theorem dX5_takes_22 : decode cX5_takes 22 = .ok (.lookupswitch 62 #[(45, 42), (47, 47), (93, 52), (94, 57)], 42) := by decide +kernel
theorem dX5_takes_64 : decode cX5_takes 64 = .ok (.aload_n 0, 1) := by decide +kernel
theorem dX5_takes_65 : decode cX5_takes 65 = .ok (.invokevirtual 59, 3) := by decide +kernel
theorem dX5_takes_68 : decode cX5_takes 68 = .ok (.ireturn, 1) := by decide +kernel
theorem dX5_takes_69 : decode cX5_takes 69 = .ok (.aload_n 0, 1) := by decide +kernel
theorem dX5_takes_70 : decode cX5_takes 70 = .ok (.invokevirtual 62, 3) := by decide +kernel
theorem dX5_takes_73 : decode cX5_takes 73 = .ok (.ireturn, 1) := by decide +kernel
theorem dX5_takes_74 : decode cX5_takes 74 = .ok (.aload_n 0, 1) := by decide +kernel
theorem dX5_takes_75 : decode cX5_takes 75 = .ok (.invokevirtual 65, 3) := by decide +kernel
theorem dX5_takes_78 : decode cX5_takes 78 = .ok (.ireturn, 1) := by decide +kernel
theorem dX5_takes_79 : decode cX5_takes 79 = .ok (.aload_n 0, 1) := by decide +kernel
theorem dX5_takes_80 : decode cX5_takes 80 = .ok (.invokevirtual 68, 3) := by decide +kernel
theorem dX5_takes_83 : decode cX5_takes 83 = .ok (.ireturn, 1) := by decide +kernel
theorem dX5_takes_84 : decode cX5_takes 84 = .ok (.iconst 0, 1) := by decide +kernel
theorem dX5_takes_85 : decode cX5_takes 85 = .ok (.ireturn, 1) := by decide +kernel
theorem dX5_takesMinus_0 : decode cX5_takesMinus 0 = .ok (.aload_n 0, 1) := by decide +kernel
theorem dX5_takesMinus_1 : decode cX5_takesMinus 1 = .ok (.getfield 18, 3) := by decide +kernel
theorem dX5_takesMinus_4 : decode cX5_takesMinus 4 = .ok (.ifCond .eq 13, 3) := by decide +kernel
theorem dX5_takesMinus_7 : decode cX5_takesMinus 7 = .ok (.aload_n 0, 1) := by decide +kernel
theorem dX5_takesMinus_8 : decode cX5_takesMinus 8 = .ok (.getfield 18, 3) := by decide +kernel
theorem dX5_takesMinus_11 : decode cX5_takesMinus 11 = .ok (.iconst 1, 1) := by decide +kernel
theorem dX5_takesMinus_12 : decode cX5_takesMinus 12 = .ok (.if_icmp .eq 5, 3) := by decide +kernel
theorem dX5_takesMinus_15 : decode cX5_takesMinus 15 = .ok (.iconst 0, 1) := by decide +kernel
theorem dX5_takesMinus_16 : decode cX5_takesMinus 16 = .ok (.ireturn, 1) := by decide +kernel
theorem dX5_takesMinus_17 : decode cX5_takesMinus 17 = .ok (.aload_n 0, 1) := by decide +kernel
theorem dX5_takesMinus_18 : decode cX5_takesMinus 18 = .ok (.invokevirtual 71, 3) := by decide +kernel
theorem dX5_takesMinus_21 : decode cX5_takesMinus 21 = .ok (.aload_n 0, 1) := by decide +kernel
theorem dX5_takesMinus_22 : decode cX5_takesMinus 22 = .ok (.iconst 1, 1) := by decide +kernel
theorem dX5_takesMinus_23 : decode cX5_takesMinus 23 = .ok (.putfield 28, 3) := by decide +kernel
theorem dX5_takesMinus_26 : decode cX5_takesMinus 26 = .ok (.aload_n 0, 1) := by decide +kernel
theorem dX5_takesMinus_27 : decode cX5_takesMinus 27 = .ok (.iconst 2, 1) := by decide +kernel
theorem dX5_takesMinus_28 : decode cX5_takesMinus 28 = .ok (.putfield 18, 3) := by decide +kernel
theorem dX5_takesMinus_31 : decode cX5_takesMinus 31 = .ok (.iconst 1, 1) := by decide +kernel
theorem dX5_takesMinus_32 : decode cX5_takesMinus 32 = .ok (.ireturn, 1) := by decide +kernel
theorem dX5_takesDigit_0 : decode cX5_takesDigit 0 = .ok (.aload_n 0, 1) := by decide +kernel
theorem dX5_takesDigit_1 : decode cX5_takesDigit 1 = .ok (.getfield 18, 3) := by decide +kernel
theorem dX5_takesDigit_4 : decode cX5_takesDigit 4 = .ok (.iconst 2, 1) := by decide +kernel
theorem dX5_takesDigit_5 : decode cX5_takesDigit 5 = .ok (.if_icmp .ne 9, 3) := by decide +kernel
theorem dX5_takesDigit_8 : decode cX5_takesDigit 8 = .ok (.iload_n 1, 1) := by decide +kernel
theorem dX5_takesDigit_9 : decode cX5_takesDigit 9 = .ok (.ifCond .ne 38, 3) := by decide +kernel
theorem dX5_takesDigit_12 : decode cX5_takesDigit 12 = .ok (.iconst 0, 1) := by decide +kernel
theorem dX5_takesDigit_13 : decode cX5_takesDigit 13 = .ok (.ireturn, 1) := by decide +kernel
theorem dX5_takesDigit_14 : decode cX5_takesDigit 14 = .ok (.aload_n 0, 1) := by decide +kernel
theorem dX5_takesDigit_15 : decode cX5_takesDigit 15 = .ok (.getfield 18, 3) := by decide +kernel
theorem dX5_takesDigit_18 : decode cX5_takesDigit 18 = .ok (.iconst 3, 1) := by decide +kernel
theorem dX5_takesDigit_19 : decode cX5_takesDigit 19 = .ok (.if_icmp .ne 24, 3) := by decide +kernel
theorem dX5_takesDigit_22 : decode cX5_takesDigit 22 = .ok (.aload_n 0, 1) := by decide +kernel
theorem dX5_takesDigit_23 : decode cX5_takesDigit 23 = .ok (.getfield 25, 3) := by decide +kernel
theorem dX5_takesDigit_26 : decode cX5_takesDigit 26 = .ok (.ifCond .eq 15, 3) := by decide +kernel
theorem dX5_takesDigit_29 : decode cX5_takesDigit 29 = .ok (.aload_n 0, 1) := by decide +kernel
theorem dX5_takesDigit_30 : decode cX5_takesDigit 30 = .ok (.getfield 25, 3) := by decide +kernel
theorem dX5_takesDigit_33 : decode cX5_takesDigit 33 = .ok (.invokestatic 74, 3) := by decide +kernel
theorem dX5_takesDigit_36 : decode cX5_takesDigit 36 = .ok (.bipush 100, 2) := by decide +kernel
theorem dX5_takesDigit_38 : decode cX5_takesDigit 38 = .ok (.if_icmp .lt 9, 3) := by decide +kernel
theorem dX5_takesDigit_41 : decode cX5_takesDigit 41 = .ok (.iconst 0, 1) := by decide +kernel
theorem dX5_takesDigit_42 : decode cX5_takesDigit 42 = .ok (.ireturn, 1) := by decide +kernel
theorem dX5_takesDigit_43 : decode cX5_takesDigit 43 = .ok (.aload_n 0, 1) := by decide +kernel
theorem dX5_takesDigit_44 : decode cX5_takesDigit 44 = .ok (.invokevirtual 71, 3) := by decide +kernel
theorem dX5_takesDigit_47 : decode cX5_takesDigit 47 = .ok (.aload_n 0, 1) := by decide +kernel
theorem dX5_takesDigit_48 : decode cX5_takesDigit 48 = .ok (.aload_n 0, 1) := by decide +kernel
theorem dX5_takesDigit_49 : decode cX5_takesDigit 49 = .ok (.getfield 25, 3) := by decide +kernel
theorem dX5_takesDigit_52 : decode cX5_takesDigit 52 = .ok (.bipush 10, 2) := by decide +kernel
theorem dX5_takesDigit_54 : decode cX5_takesDigit 54 = .ok (.imul, 1) := by decide +kernel
theorem dX5_takesDigit_55 : decode cX5_takesDigit 55 = .ok (.aload_n 0, 1) := by decide +kernel
theorem dX5_takesDigit_56 : decode cX5_takesDigit 56 = .ok (.getfield 28, 3) := by decide +kernel
theorem dX5_takesDigit_59 : decode cX5_takesDigit 59 = .ok (.ifCond .eq 8, 3) := by decide +kernel
theorem dX5_takesDigit_62 : decode cX5_takesDigit 62 = .ok (.iload_n 1, 1) := by decide +kernel
theorem dX5_takesDigit_63 : decode cX5_takesDigit 63 = .ok (.ineg, 1) := by decide +kernel
theorem dX5_takesDigit_64 : decode cX5_takesDigit 64 = .ok (.goto 4, 3) := by decide +kernel
theorem dX5_takesDigit_67 : decode cX5_takesDigit 67 = .ok (.iload_n 1, 1) := by decide +kernel
theorem dX5_takesDigit_68 : decode cX5_takesDigit 68 = .ok (.iadd, 1) := by decide +kernel
theorem dX5_takesDigit_69 : decode cX5_takesDigit 69 = .ok (.putfield 25, 3) := by decide +kernel
theorem dX5_takesDigit_72 : decode cX5_takesDigit 72 = .ok (.aload_n 0, 1) := by decide +kernel
theorem dX5_takesDigit_73 : decode cX5_takesDigit 73 = .ok (.iconst 3, 1) := by decide +kernel
theorem dX5_takesDigit_74 : decode cX5_takesDigit 74 = .ok (.putfield 18, 3) := by decide +kernel
theorem dX5_takesDigit_77 : decode cX5_takesDigit 77 = .ok (.aload_n 0, 1) := by decide +kernel
theorem dX5_takesDigit_78 : decode cX5_takesDigit 78 = .ok (.getfield 12, 3) := by decide +kernel
theorem dX5_takesDigit_81 : decode cX5_takesDigit 81 = .ok (.aload_n 0, 1) := by decide +kernel
theorem dX5_takesDigit_82 : decode cX5_takesDigit 82 = .ok (.getfield 22, 3) := by decide +kernel
theorem dX5_takesDigit_85 : decode cX5_takesDigit 85 = .ok (.aload_n 0, 1) := by decide +kernel
theorem dX5_takesDigit_86 : decode cX5_takesDigit 86 = .ok (.invokevirtual 79, 3) := by decide +kernel
theorem dX5_takesDigit_89 : decode cX5_takesDigit 89 = .ok (.aload_n 0, 1) := by decide +kernel
theorem dX5_takesDigit_90 : decode cX5_takesDigit 90 = .ok (.invokevirtual 83, 3) := by decide +kernel
theorem dX5_takesDigit_93 : decode cX5_takesDigit 93 = .ok (.aload_n 0, 1) := by decide +kernel
theorem dX5_takesDigit_94 : decode cX5_takesDigit 94 = .ok (.getfield 25, 3) := by decide +kernel
theorem dX5_takesDigit_97 : decode cX5_takesDigit 97 = .ok (.invokevirtual 86, 3) := by decide +kernel
theorem dX5_takesDigit_100 : decode cX5_takesDigit 100 = .ok (.iconst 1, 1) := by decide +kernel
theorem dX5_takesDigit_101 : decode cX5_takesDigit 101 = .ok (.ireturn, 1) := by decide +kernel
theorem dX5_beginNumber_0 : decode cX5_beginNumber 0 = .ok (.aload_n 0, 1) := by decide +kernel
theorem dX5_beginNumber_1 : decode cX5_beginNumber 1 = .ok (.getfield 18, 3) := by decide +kernel
theorem dX5_beginNumber_4 : decode cX5_beginNumber 4 = .ok (.ifCond .ne 16, 3) := by decide +kernel
theorem dX5_beginNumber_7 : decode cX5_beginNumber 7 = .ok (.aload_n 0, 1) := by decide +kernel
theorem dX5_beginNumber_8 : decode cX5_beginNumber 8 = .ok (.getfield 12, 3) := by decide +kernel
theorem dX5_beginNumber_11 : decode cX5_beginNumber 11 = .ok (.aload_n 0, 1) := by decide +kernel
theorem dX5_beginNumber_12 : decode cX5_beginNumber 12 = .ok (.getfield 22, 3) := by decide +kernel
theorem dX5_beginNumber_15 : decode cX5_beginNumber 15 = .ok (.iconst 0, 1) := by decide +kernel
theorem dX5_beginNumber_16 : decode cX5_beginNumber 16 = .ok (.iconst 0, 1) := by decide +kernel
theorem dX5_beginNumber_17 : decode cX5_beginNumber 17 = .ok (.invokevirtual 90, 3) := by decide +kernel
theorem dX5_beginNumber_20 : decode cX5_beginNumber 20 = .ok (.aload_n 0, 1) := by decide +kernel
theorem dX5_beginNumber_21 : decode cX5_beginNumber 21 = .ok (.iconst 0, 1) := by decide +kernel
theorem dX5_beginNumber_22 : decode cX5_beginNumber 22 = .ok (.putfield 25, 3) := by decide +kernel
theorem dX5_beginNumber_25 : decode cX5_beginNumber 25 = .ok (.aload_n 0, 1) := by decide +kernel
theorem dX5_beginNumber_26 : decode cX5_beginNumber 26 = .ok (.iconst 0, 1) := by decide +kernel
theorem dX5_beginNumber_27 : decode cX5_beginNumber 27 = .ok (.putfield 28, 3) := by decide +kernel
theorem dX5_beginNumber_30 : decode cX5_beginNumber 30 = .ok (.return_, 1) := by decide +kernel
theorem dX5_takesSlash_0 : decode cX5_takesSlash 0 = .ok (.aload_n 0, 1) := by decide +kernel
theorem dX5_takesSlash_1 : decode cX5_takesSlash 1 = .ok (.getfield 18, 3) := by decide +kernel
theorem dX5_takesSlash_4 : decode cX5_takesSlash 4 = .ok (.iconst 3, 1) := by decide +kernel
theorem dX5_takesSlash_5 : decode cX5_takesSlash 5 = .ok (.if_icmp .ne 11, 3) := by decide +kernel
theorem dX5_takesSlash_8 : decode cX5_takesSlash 8 = .ok (.aload_n 0, 1) := by decide +kernel
theorem dX5_takesSlash_9 : decode cX5_takesSlash 9 = .ok (.invokevirtual 83, 3) := by decide +kernel
theorem dX5_takesSlash_12 : decode cX5_takesSlash 12 = .ok (.iconst 3, 1) := by decide +kernel
theorem dX5_takesSlash_13 : decode cX5_takesSlash 13 = .ok (.if_icmp .lt 5, 3) := by decide +kernel
theorem dX5_takesSlash_16 : decode cX5_takesSlash 16 = .ok (.iconst 0, 1) := by decide +kernel
theorem dX5_takesSlash_17 : decode cX5_takesSlash 17 = .ok (.ireturn, 1) := by decide +kernel
theorem dX5_takesSlash_18 : decode cX5_takesSlash 18 = .ok (.aload_n 0, 1) := by decide +kernel
theorem dX5_takesSlash_19 : decode cX5_takesSlash 19 = .ok (.getfield 12, 3) := by decide +kernel
theorem dX5_takesSlash_22 : decode cX5_takesSlash 22 = .ok (.aload_n 0, 1) := by decide +kernel
theorem dX5_takesSlash_23 : decode cX5_takesSlash 23 = .ok (.getfield 22, 3) := by decide +kernel
theorem dX5_takesSlash_26 : decode cX5_takesSlash 26 = .ok (.aload_n 0, 1) := by decide +kernel
theorem dX5_takesSlash_27 : decode cX5_takesSlash 27 = .ok (.invokevirtual 79, 3) := by decide +kernel
theorem dX5_takesSlash_30 : decode cX5_takesSlash 30 = .ok (.aload_n 0, 1) := by decide +kernel
theorem dX5_takesSlash_31 : decode cX5_takesSlash 31 = .ok (.invokevirtual 83, 3) := by decide +kernel
theorem dX5_takesSlash_34 : decode cX5_takesSlash 34 = .ok (.iconst 1, 1) := by decide +kernel
theorem dX5_takesSlash_35 : decode cX5_takesSlash 35 = .ok (.iadd, 1) := by decide +kernel
theorem dX5_takesSlash_36 : decode cX5_takesSlash 36 = .ok (.iconst 0, 1) := by decide +kernel
theorem dX5_takesSlash_37 : decode cX5_takesSlash 37 = .ok (.invokevirtual 94, 3) := by decide +kernel
theorem dX5_takesSlash_40 : decode cX5_takesSlash 40 = .ok (.aload_n 0, 1) := by decide +kernel
theorem dX5_takesSlash_41 : decode cX5_takesSlash 41 = .ok (.iconst 1, 1) := by decide +kernel
theorem dX5_takesSlash_42 : decode cX5_takesSlash 42 = .ok (.putfield 18, 3) := by decide +kernel
theorem dX5_takesSlash_45 : decode cX5_takesSlash 45 = .ok (.iconst 1, 1) := by decide +kernel
theorem dX5_takesSlash_46 : decode cX5_takesSlash 46 = .ok (.ireturn, 1) := by decide +kernel
theorem dX5_takesBracket_0 : decode cX5_takesBracket 0 = .ok (.aload_n 0, 1) := by decide +kernel
theorem dX5_takesBracket_1 : decode cX5_takesBracket 1 = .ok (.getfield 18, 3) := by decide +kernel
theorem dX5_takesBracket_4 : decode cX5_takesBracket 4 = .ok (.iconst 3, 1) := by decide +kernel
theorem dX5_takesBracket_5 : decode cX5_takesBracket 5 = .ok (.if_icmp .ne 11, 3) := by decide +kernel
theorem dX5_takesBracket_8 : decode cX5_takesBracket 8 = .ok (.aload_n 0, 1) := by decide +kernel
theorem dX5_takesBracket_9 : decode cX5_takesBracket 9 = .ok (.invokevirtual 79, 3) := by decide +kernel
theorem dX5_takesBracket_12 : decode cX5_takesBracket 12 = .ok (.iconst 4, 1) := by decide +kernel
theorem dX5_takesBracket_13 : decode cX5_takesBracket 13 = .ok (.if_icmp .lt 5, 3) := by decide +kernel
theorem dX5_takesBracket_16 : decode cX5_takesBracket 16 = .ok (.iconst 0, 1) := by decide +kernel
theorem dX5_takesBracket_17 : decode cX5_takesBracket 17 = .ok (.ireturn, 1) := by decide +kernel
theorem dX5_takesBracket_18 : decode cX5_takesBracket 18 = .ok (.aload_n 0, 1) := by decide +kernel
theorem dX5_takesBracket_19 : decode cX5_takesBracket 19 = .ok (.getfield 12, 3) := by decide +kernel
theorem dX5_takesBracket_22 : decode cX5_takesBracket 22 = .ok (.aload_n 0, 1) := by decide +kernel
theorem dX5_takesBracket_23 : decode cX5_takesBracket 23 = .ok (.getfield 22, 3) := by decide +kernel
theorem dX5_takesBracket_26 : decode cX5_takesBracket 26 = .ok (.aload_n 0, 1) := by decide +kernel
theorem dX5_takesBracket_27 : decode cX5_takesBracket 27 = .ok (.invokevirtual 79, 3) := by decide +kernel
theorem dX5_takesBracket_30 : decode cX5_takesBracket 30 = .ok (.iconst 1, 1) := by decide +kernel
theorem dX5_takesBracket_31 : decode cX5_takesBracket 31 = .ok (.iadd, 1) := by decide +kernel
theorem dX5_takesBracket_32 : decode cX5_takesBracket 32 = .ok (.iconst 0, 1) := by decide +kernel
theorem dX5_takesBracket_33 : decode cX5_takesBracket 33 = .ok (.invokevirtual 90, 3) := by decide +kernel
theorem dX5_takesBracket_36 : decode cX5_takesBracket 36 = .ok (.aload_n 0, 1) := by decide +kernel
theorem dX5_takesBracket_37 : decode cX5_takesBracket 37 = .ok (.iconst 1, 1) := by decide +kernel
theorem dX5_takesBracket_38 : decode cX5_takesBracket 38 = .ok (.putfield 18, 3) := by decide +kernel
theorem dX5_takesBracket_41 : decode cX5_takesBracket 41 = .ok (.iconst 1, 1) := by decide +kernel
theorem dX5_takesBracket_42 : decode cX5_takesBracket 42 = .ok (.ireturn, 1) := by decide +kernel
theorem dX5_takesCaret_0 : decode cX5_takesCaret 0 = .ok (.aload_n 0, 1) := by decide +kernel
theorem dX5_takesCaret_1 : decode cX5_takesCaret 1 = .ok (.invokevirtual 53, 3) := by decide +kernel
theorem dX5_takesCaret_4 : decode cX5_takesCaret 4 = .ok (.ifCond .eq 11, 3) := by decide +kernel
theorem dX5_takesCaret_7 : decode cX5_takesCaret 7 = .ok (.aload_n 0, 1) := by decide +kernel
theorem dX5_takesCaret_8 : decode cX5_takesCaret 8 = .ok (.getfield 22, 3) := by decide +kernel
theorem dX5_takesCaret_11 : decode cX5_takesCaret 11 = .ok (.iconst 3, 1) := by decide +kernel
theorem dX5_takesCaret_12 : decode cX5_takesCaret 12 = .ok (.if_icmp .lt 5, 3) := by decide +kernel
theorem dX5_takesCaret_15 : decode cX5_takesCaret 15 = .ok (.iconst 0, 1) := by decide +kernel
theorem dX5_takesCaret_16 : decode cX5_takesCaret 16 = .ok (.ireturn, 1) := by decide +kernel
theorem dX5_takesCaret_17 : decode cX5_takesCaret 17 = .ok (.aload_n 0, 1) := by decide +kernel
theorem dX5_takesCaret_18 : decode cX5_takesCaret 18 = .ok (.dup, 1) := by decide +kernel
theorem dX5_takesCaret_19 : decode cX5_takesCaret 19 = .ok (.getfield 22, 3) := by decide +kernel
theorem dX5_takesCaret_22 : decode cX5_takesCaret 22 = .ok (.iconst 1, 1) := by decide +kernel
theorem dX5_takesCaret_23 : decode cX5_takesCaret 23 = .ok (.iadd, 1) := by decide +kernel
theorem dX5_takesCaret_24 : decode cX5_takesCaret 24 = .ok (.putfield 22, 3) := by decide +kernel
theorem dX5_takesCaret_27 : decode cX5_takesCaret 27 = .ok (.aload_n 0, 1) := by decide +kernel
theorem dX5_takesCaret_28 : decode cX5_takesCaret 28 = .ok (.iconst 0, 1) := by decide +kernel
theorem dX5_takesCaret_29 : decode cX5_takesCaret 29 = .ok (.putfield 18, 3) := by decide +kernel
theorem dX5_takesCaret_32 : decode cX5_takesCaret 32 = .ok (.iconst 1, 1) := by decide +kernel
theorem dX5_takesCaret_33 : decode cX5_takesCaret 33 = .ok (.ireturn, 1) := by decide +kernel
theorem dX5_lastValue_0 : decode cX5_lastValue 0 = .ok (.aload_n 0, 1) := by decide +kernel
theorem dX5_lastValue_1 : decode cX5_lastValue 1 = .ok (.getfield 12, 3) := by decide +kernel
theorem dX5_lastValue_4 : decode cX5_lastValue 4 = .ok (.aload_n 0, 1) := by decide +kernel
theorem dX5_lastValue_5 : decode cX5_lastValue 5 = .ok (.getfield 22, 3) := by decide +kernel
theorem dX5_lastValue_8 : decode cX5_lastValue 8 = .ok (.invokevirtual 97, 3) := by decide +kernel
theorem dX5_lastValue_11 : decode cX5_lastValue 11 = .ok (.iconst 1, 1) := by decide +kernel
theorem dX5_lastValue_12 : decode cX5_lastValue 12 = .ok (.isub, 1) := by decide +kernel
theorem dX5_lastValue_13 : decode cX5_lastValue 13 = .ok (.ireturn, 1) := by decide +kernel
theorem dX5_lastSub_0 : decode cX5_lastSub 0 = .ok (.aload_n 0, 1) := by decide +kernel
theorem dX5_lastSub_1 : decode cX5_lastSub 1 = .ok (.getfield 12, 3) := by decide +kernel
theorem dX5_lastSub_4 : decode cX5_lastSub 4 = .ok (.aload_n 0, 1) := by decide +kernel
theorem dX5_lastSub_5 : decode cX5_lastSub 5 = .ok (.getfield 22, 3) := by decide +kernel
theorem dX5_lastSub_8 : decode cX5_lastSub 8 = .ok (.aload_n 0, 1) := by decide +kernel
theorem dX5_lastSub_9 : decode cX5_lastSub 9 = .ok (.invokevirtual 79, 3) := by decide +kernel
theorem dX5_lastSub_12 : decode cX5_lastSub 12 = .ok (.invokevirtual 100, 3) := by decide +kernel
theorem dX5_lastSub_15 : decode cX5_lastSub 15 = .ok (.iconst 1, 1) := by decide +kernel
theorem dX5_lastSub_16 : decode cX5_lastSub 16 = .ok (.isub, 1) := by decide +kernel
theorem dX5_lastSub_17 : decode cX5_lastSub 17 = .ok (.ireturn, 1) := by decide +kernel
