theorem dX6_init_0 : decode cX6_init 0 = .ok (.aload_n 0, 1) := by decide +kernel
theorem dX6_init_1 : decode cX6_init 1 = .ok (.invokespecial 3, 3) := by decide +kernel
theorem dX6_init_4 : decode cX6_init 4 = .ok (.aload_n 0, 1) := by decide +kernel
theorem dX6_init_5 : decode cX6_init 5 = .ok (.new 9, 3) := by decide +kernel
theorem dX6_init_8 : decode cX6_init 8 = .ok (.dup, 1) := by decide +kernel
theorem dX6_init_9 : decode cX6_init 9 = .ok (.invokespecial 11, 3) := by decide +kernel
theorem dX6_init_12 : decode cX6_init 12 = .ok (.putfield 12, 3) := by decide +kernel
theorem dX6_init_15 : decode cX6_init 15 = .ok (.aload_n 0, 1) := by decide +kernel
theorem dX6_init_16 : decode cX6_init 16 = .ok (.iconst 4, 1) := by decide +kernel
theorem dX6_init_17 : decode cX6_init 17 = .ok (.anewarray 9, 3) := by decide +kernel
theorem dX6_init_20 : decode cX6_init 20 = .ok (.putfield 16, 3) := by decide +kernel
theorem dX6_init_23 : decode cX6_init 23 = .ok (.iconst 0, 1) := by decide +kernel
theorem dX6_init_24 : decode cX6_init 24 = .ok (.istore_n 1, 1) := by decide +kernel
theorem dX6_init_25 : decode cX6_init 25 = .ok (.iload_n 1, 1) := by decide +kernel
theorem dX6_init_26 : decode cX6_init 26 = .ok (.iconst 4, 1) := by decide +kernel
theorem dX6_init_27 : decode cX6_init 27 = .ok (.if_icmp .ge 22, 3) := by decide +kernel
theorem dX6_init_30 : decode cX6_init 30 = .ok (.aload_n 0, 1) := by decide +kernel
theorem dX6_init_31 : decode cX6_init 31 = .ok (.getfield 16, 3) := by decide +kernel
theorem dX6_init_34 : decode cX6_init 34 = .ok (.iload_n 1, 1) := by decide +kernel
theorem dX6_init_35 : decode cX6_init 35 = .ok (.new 9, 3) := by decide +kernel
theorem dX6_init_38 : decode cX6_init 38 = .ok (.dup, 1) := by decide +kernel
theorem dX6_init_39 : decode cX6_init 39 = .ok (.invokespecial 11, 3) := by decide +kernel
theorem dX6_init_42 : decode cX6_init 42 = .ok (.aastore, 1) := by decide +kernel
theorem dX6_init_43 : decode cX6_init 43 = .ok (.iinc 1 1, 3) := by decide +kernel
theorem dX6_init_46 : decode cX6_init 46 = .ok (.goto (-21), 3) := by decide +kernel
theorem dX6_init_49 : decode cX6_init 49 = .ok (.aload_n 0, 1) := by decide +kernel
theorem dX6_init_50 : decode cX6_init 50 = .ok (.iconst 0, 1) := by decide +kernel
theorem dX6_init_51 : decode cX6_init 51 = .ok (.putfield 20, 3) := by decide +kernel
theorem dX6_init_54 : decode cX6_init 54 = .ok (.aload_n 0, 1) := by decide +kernel
theorem dX6_init_55 : decode cX6_init 55 = .ok (.new 24, 3) := by decide +kernel
theorem dX6_init_58 : decode cX6_init 58 = .ok (.dup, 1) := by decide +kernel
theorem dX6_init_59 : decode cX6_init 59 = .ok (.bipush 90, 2) := by decide +kernel
theorem dX6_init_61 : decode cX6_init 61 = .ok (.invokespecial 26, 3) := by decide +kernel
theorem dX6_init_64 : decode cX6_init 64 = .ok (.putfield 29, 3) := by decide +kernel
theorem dX6_init_67 : decode cX6_init 67 = .ok (.aload_n 0, 1) := by decide +kernel
theorem dX6_init_68 : decode cX6_init 68 = .ok (.new 24, 3) := by decide +kernel
theorem dX6_init_71 : decode cX6_init 71 = .ok (.dup, 1) := by decide +kernel
theorem dX6_init_72 : decode cX6_init 72 = .ok (.sipush 400, 3) := by decide +kernel
theorem dX6_init_75 : decode cX6_init 75 = .ok (.invokespecial 26, 3) := by decide +kernel
theorem dX6_init_78 : decode cX6_init 78 = .ok (.putfield 33, 3) := by decide +kernel
theorem dX6_init_81 : decode cX6_init 81 = .ok (.aload_n 0, 1) := by decide +kernel
theorem dX6_init_82 : decode cX6_init 82 = .ok (.new 36, 3) := by decide +kernel
theorem dX6_init_85 : decode cX6_init 85 = .ok (.dup, 1) := by decide +kernel
theorem dX6_init_86 : decode cX6_init 86 = .ok (.invokespecial 38, 3) := by decide +kernel
theorem dX6_init_89 : decode cX6_init 89 = .ok (.putfield 39, 3) := by decide +kernel
theorem dX6_init_92 : decode cX6_init 92 = .ok (.aload_n 0, 1) := by decide +kernel
theorem dX6_init_93 : decode cX6_init 93 = .ok (.new 43, 3) := by decide +kernel
theorem dX6_init_96 : decode cX6_init 96 = .ok (.dup, 1) := by decide +kernel
theorem dX6_init_97 : decode cX6_init 97 = .ok (.invokespecial 45, 3) := by decide +kernel
theorem dX6_init_100 : decode cX6_init 100 = .ok (.putfield 46, 3) := by decide +kernel
theorem dX6_init_103 : decode cX6_init 103 = .ok (.aload_n 0, 1) := by decide +kernel
theorem dX6_init_104 : decode cX6_init 104 = .ok (.new 50, 3) := by decide +kernel
theorem dX6_init_107 : decode cX6_init 107 = .ok (.dup, 1) := by decide +kernel
theorem dX6_init_108 : decode cX6_init 108 = .ok (.invokespecial 52, 3) := by decide +kernel
theorem dX6_init_111 : decode cX6_init 111 = .ok (.putfield 53, 3) := by decide +kernel
theorem dX6_init_114 : decode cX6_init 114 = .ok (.return_, 1) := by decide +kernel
theorem dX6_create_0 : decode cX6_create 0 = .ok (.iload_n 1, 1) := by decide +kernel
theorem dX6_create_1 : decode cX6_create 1 = .ok (.bipush 100, 2) := by decide +kernel
theorem dX6_create_3 : decode cX6_create 3 = .ok (.invokestatic 57, 3) := by decide +kernel
theorem dX6_create_6 : decode cX6_create 6 = .ok (.ifCond .ne 6, 3) := by decide +kernel
theorem dX6_create_9 : decode cX6_create 9 = .ok (.ldc 61, 2) := by decide +kernel
theorem dX6_create_11 : decode cX6_create 11 = .ok (.ireturn, 1) := by decide +kernel
theorem dX6_create_12 : decode cX6_create 12 = .ok (.aload_n 0, 1) := by decide +kernel
theorem dX6_create_13 : decode cX6_create 13 = .ok (.getfield 12, 3) := by decide +kernel
theorem dX6_create_16 : decode cX6_create 16 = .ok (.iload_n 1, 1) := by decide +kernel
theorem dX6_create_17 : decode cX6_create 17 = .ok (.invokevirtual 62, 3) := by decide +kernel
theorem dX6_create_20 : decode cX6_create 20 = .ok (.ifnull 6, 3) := by decide +kernel
theorem dX6_create_23 : decode cX6_create 23 = .ok (.ldc 66, 2) := by decide +kernel
theorem dX6_create_25 : decode cX6_create 25 = .ok (.ireturn, 1) := by decide +kernel
theorem dX6_create_26 : decode cX6_create 26 = .ok (.aload_n 0, 1) := by decide +kernel
theorem dX6_create_27 : decode cX6_create 27 = .ok (.getfield 12, 3) := by decide +kernel
theorem dX6_create_30 : decode cX6_create 30 = .ok (.getfield 67, 3) := by decide +kernel
theorem dX6_create_33 : decode cX6_create 33 = .ok (.bipush 10, 2) := by decide +kernel
theorem dX6_create_35 : decode cX6_create 35 = .ok (.if_icmp .lt 6, 3) := by decide +kernel
theorem dX6_create_38 : decode cX6_create 38 = .ok (.ldc 70, 2) := by decide +kernel
theorem dX6_create_40 : decode cX6_create 40 = .ok (.ireturn, 1) := by decide +kernel
theorem dX6_create_41 : decode cX6_create 41 = .ok (.aload_n 0, 1) := by decide +kernel
theorem dX6_create_42 : decode cX6_create 42 = .ok (.invokevirtual 71, 3) := by decide +kernel
theorem dX6_create_45 : decode cX6_create 45 = .ok (.aload_n 0, 1) := by decide +kernel
theorem dX6_create_46 : decode cX6_create 46 = .ok (.getfield 12, 3) := by decide +kernel
theorem dX6_create_49 : decode cX6_create 49 = .ok (.iload_n 1, 1) := by decide +kernel
theorem dX6_create_50 : decode cX6_create 50 = .ok (.invokevirtual 74, 3) := by decide +kernel
theorem dX6_create_53 : decode cX6_create 53 = .ok (.aload_n 0, 1) := by decide +kernel
theorem dX6_create_54 : decode cX6_create 54 = .ok (.getfield 12, 3) := by decide +kernel
theorem dX6_create_57 : decode cX6_create 57 = .ok (.getfield 67, 3) := by decide +kernel
theorem dX6_create_60 : decode cX6_create 60 = .ok (.ireturn, 1) := by decide +kernel
theorem dX6_delete_0 : decode cX6_delete 0 = .ok (.aload_n 0, 1) := by decide +kernel
theorem dX6_delete_1 : decode cX6_delete 1 = .ok (.getfield 12, 3) := by decide +kernel
theorem dX6_delete_4 : decode cX6_delete 4 = .ok (.iload_n 2, 1) := by decide +kernel
theorem dX6_delete_5 : decode cX6_delete 5 = .ok (.invokevirtual 62, 3) := by decide +kernel
theorem dX6_delete_8 : decode cX6_delete 8 = .ok (.astore_n 3, 1) := by decide +kernel
theorem dX6_delete_9 : decode cX6_delete 9 = .ok (.iload_n 1, 1) := by decide +kernel
theorem dX6_delete_10 : decode cX6_delete 10 = .ok (.iconst 4, 1) := by decide +kernel
theorem dX6_delete_11 : decode cX6_delete 11 = .ok (.invokestatic 57, 3) := by decide +kernel
theorem dX6_delete_14 : decode cX6_delete 14 = .ok (.ifCond .eq 7, 3) := by decide +kernel
theorem dX6_delete_17 : decode cX6_delete 17 = .ok (.aload_n 3, 1) := by decide +kernel
theorem dX6_delete_18 : decode cX6_delete 18 = .ok (.ifnonnull 6, 3) := by decide +kernel
theorem dX6_delete_21 : decode cX6_delete 21 = .ok (.ldc 77, 2) := by decide +kernel
theorem dX6_delete_23 : decode cX6_delete 23 = .ok (.ireturn, 1) := by decide +kernel
theorem dX6_delete_24 : decode cX6_delete 24 = .ok (.aload_n 3, 1) := by decide +kernel
theorem dX6_delete_25 : decode cX6_delete 25 = .ok (.iload_n 1, 1) := by decide +kernel
theorem dX6_delete_26 : decode cX6_delete 26 = .ok (.invokevirtual 78, 3) := by decide +kernel
theorem dX6_delete_29 : decode cX6_delete 29 = .ok (.ifCond .ne 6, 3) := by decide +kernel
theorem dX6_delete_32 : decode cX6_delete 32 = .ok (.ldc 84, 2) := by decide +kernel
theorem dX6_delete_34 : decode cX6_delete 34 = .ok (.ireturn, 1) := by decide +kernel
theorem dX6_delete_35 : decode cX6_delete 35 = .ok (.aload_n 0, 1) := by decide +kernel
theorem dX6_delete_36 : decode cX6_delete 36 = .ok (.invokevirtual 71, 3) := by decide +kernel
theorem dX6_delete_39 : decode cX6_delete 39 = .ok (.aload_n 0, 1) := by decide +kernel
theorem dX6_delete_40 : decode cX6_delete 40 = .ok (.getfield 12, 3) := by decide +kernel
theorem dX6_delete_43 : decode cX6_delete 43 = .ok (.iload_n 2, 1) := by decide +kernel
theorem dX6_delete_44 : decode cX6_delete 44 = .ok (.invokevirtual 85, 3) := by decide +kernel
theorem dX6_delete_47 : decode cX6_delete 47 = .ok (.aload_n 0, 1) := by decide +kernel
theorem dX6_delete_48 : decode cX6_delete 48 = .ok (.getfield 12, 3) := by decide +kernel
theorem dX6_delete_51 : decode cX6_delete 51 = .ok (.getfield 67, 3) := by decide +kernel
theorem dX6_delete_54 : decode cX6_delete 54 = .ok (.ireturn, 1) := by decide +kernel
theorem dX6_lock_0 : decode cX6_lock 0 = .ok (.aload_n 0, 1) := by decide +kernel
theorem dX6_lock_1 : decode cX6_lock 1 = .ok (.getfield 12, 3) := by decide +kernel
theorem dX6_lock_4 : decode cX6_lock 4 = .ok (.iload_n 2, 1) := by decide +kernel
theorem dX6_lock_5 : decode cX6_lock 5 = .ok (.invokevirtual 62, 3) := by decide +kernel
theorem dX6_lock_8 : decode cX6_lock 8 = .ok (.astore_n 3, 1) := by decide +kernel
theorem dX6_lock_9 : decode cX6_lock 9 = .ok (.iload_n 1, 1) := by decide +kernel
theorem dX6_lock_10 : decode cX6_lock 10 = .ok (.iconst 4, 1) := by decide +kernel
theorem dX6_lock_11 : decode cX6_lock 11 = .ok (.invokestatic 57, 3) := by decide +kernel
theorem dX6_lock_14 : decode cX6_lock 14 = .ok (.ifCond .eq 7, 3) := by decide +kernel
theorem dX6_lock_17 : decode cX6_lock 17 = .ok (.aload_n 3, 1) := by decide +kernel
theorem dX6_lock_18 : decode cX6_lock 18 = .ok (.ifnonnull 6, 3) := by decide +kernel
theorem dX6_lock_21 : decode cX6_lock 21 = .ok (.ldc 77, 2) := by decide +kernel
theorem dX6_lock_23 : decode cX6_lock 23 = .ok (.ireturn, 1) := by decide +kernel
theorem dX6_lock_24 : decode cX6_lock 24 = .ok (.aload_n 3, 1) := by decide +kernel
theorem dX6_lock_25 : decode cX6_lock 25 = .ok (.iload_n 1, 1) := by decide +kernel
theorem dX6_lock_26 : decode cX6_lock 26 = .ok (.invokevirtual 78, 3) := by decide +kernel
theorem dX6_lock_29 : decode cX6_lock 29 = .ok (.ifCond .ne 6, 3) := by decide +kernel
theorem dX6_lock_32 : decode cX6_lock 32 = .ok (.ldc 84, 2) := by decide +kernel
theorem dX6_lock_34 : decode cX6_lock 34 = .ok (.ireturn, 1) := by decide +kernel
theorem dX6_lock_35 : decode cX6_lock 35 = .ok (.aload_n 0, 1) := by decide +kernel
theorem dX6_lock_36 : decode cX6_lock 36 = .ok (.invokevirtual 71, 3) := by decide +kernel
theorem dX6_lock_39 : decode cX6_lock 39 = .ok (.aload_n 3, 1) := by decide +kernel
theorem dX6_lock_40 : decode cX6_lock 40 = .ok (.iload_n 1, 1) := by decide +kernel
theorem dX6_lock_41 : decode cX6_lock 41 = .ok (.putfield 88, 3) := by decide +kernel
theorem dX6_lock_44 : decode cX6_lock 44 = .ok (.aload_n 0, 1) := by decide +kernel
theorem dX6_lock_45 : decode cX6_lock 45 = .ok (.getfield 12, 3) := by decide +kernel
theorem dX6_lock_48 : decode cX6_lock 48 = .ok (.iload_n 1, 1) := by decide +kernel
theorem dX6_lock_49 : decode cX6_lock 49 = .ok (.invokevirtual 91, 3) := by decide +kernel
theorem dX6_lock_52 : decode cX6_lock 52 = .ok (.ireturn, 1) := by decide +kernel
theorem dX6_unlock_0 : decode cX6_unlock 0 = .ok (.aload_n 0, 1) := by decide +kernel
theorem dX6_unlock_1 : decode cX6_unlock 1 = .ok (.getfield 12, 3) := by decide +kernel
theorem dX6_unlock_4 : decode cX6_unlock 4 = .ok (.iload_n 2, 1) := by decide +kernel
theorem dX6_unlock_5 : decode cX6_unlock 5 = .ok (.invokevirtual 62, 3) := by decide +kernel
theorem dX6_unlock_8 : decode cX6_unlock 8 = .ok (.astore_n 3, 1) := by decide +kernel
theorem dX6_unlock_9 : decode cX6_unlock 9 = .ok (.iload_n 1, 1) := by decide +kernel
theorem dX6_unlock_10 : decode cX6_unlock 10 = .ok (.iconst 4, 1) := by decide +kernel
theorem dX6_unlock_11 : decode cX6_unlock 11 = .ok (.invokestatic 57, 3) := by decide +kernel
theorem dX6_unlock_14 : decode cX6_unlock 14 = .ok (.ifCond .eq 7, 3) := by decide +kernel
theorem dX6_unlock_17 : decode cX6_unlock 17 = .ok (.aload_n 3, 1) := by decide +kernel
theorem dX6_unlock_18 : decode cX6_unlock 18 = .ok (.ifnonnull 6, 3) := by decide +kernel
theorem dX6_unlock_21 : decode cX6_unlock 21 = .ok (.ldc 77, 2) := by decide +kernel
theorem dX6_unlock_23 : decode cX6_unlock 23 = .ok (.ireturn, 1) := by decide +kernel
theorem dX6_unlock_24 : decode cX6_unlock 24 = .ok (.aload_n 3, 1) := by decide +kernel
theorem dX6_unlock_25 : decode cX6_unlock 25 = .ok (.iload_n 1, 1) := by decide +kernel
theorem dX6_unlock_26 : decode cX6_unlock 26 = .ok (.invokevirtual 78, 3) := by decide +kernel
theorem dX6_unlock_29 : decode cX6_unlock 29 = .ok (.ifCond .ne 6, 3) := by decide +kernel
theorem dX6_unlock_32 : decode cX6_unlock 32 = .ok (.ldc 84, 2) := by decide +kernel
theorem dX6_unlock_34 : decode cX6_unlock 34 = .ok (.ireturn, 1) := by decide +kernel
theorem dX6_unlock_35 : decode cX6_unlock 35 = .ok (.aload_n 3, 1) := by decide +kernel
theorem dX6_unlock_36 : decode cX6_unlock 36 = .ok (.getfield 88, 3) := by decide +kernel
theorem dX6_unlock_39 : decode cX6_unlock 39 = .ok (.ldc 95, 2) := by decide +kernel
theorem dX6_unlock_41 : decode cX6_unlock 41 = .ok (.if_icmp .ne 6, 3) := by decide +kernel
theorem dX6_unlock_44 : decode cX6_unlock 44 = .ok (.ldc 66, 2) := by decide +kernel
theorem dX6_unlock_46 : decode cX6_unlock 46 = .ok (.ireturn, 1) := by decide +kernel
theorem dX6_unlock_47 : decode cX6_unlock 47 = .ok (.aload_n 0, 1) := by decide +kernel
theorem dX6_unlock_48 : decode cX6_unlock 48 = .ok (.invokevirtual 71, 3) := by decide +kernel
theorem dX6_unlock_51 : decode cX6_unlock 51 = .ok (.aload_n 3, 1) := by decide +kernel
theorem dX6_unlock_52 : decode cX6_unlock 52 = .ok (.ldc 95, 2) := by decide +kernel
theorem dX6_unlock_54 : decode cX6_unlock 54 = .ok (.putfield 88, 3) := by decide +kernel
theorem dX6_unlock_57 : decode cX6_unlock 57 = .ok (.aload_n 0, 1) := by decide +kernel
theorem dX6_unlock_58 : decode cX6_unlock 58 = .ok (.getfield 12, 3) := by decide +kernel
theorem dX6_unlock_61 : decode cX6_unlock 61 = .ok (.iload_n 1, 1) := by decide +kernel
theorem dX6_unlock_62 : decode cX6_unlock 62 = .ok (.invokevirtual 91, 3) := by decide +kernel
theorem dX6_unlock_65 : decode cX6_unlock 65 = .ok (.ireturn, 1) := by decide +kernel
theorem dX6_insert_0 : decode cX6_insert 0 = .ok (.aload_n 0, 1) := by decide +kernel
theorem dX6_insert_1 : decode cX6_insert 1 = .ok (.getfield 12, 3) := by decide +kernel
theorem dX6_insert_4 : decode cX6_insert 4 = .ok (.iload_n 2, 1) := by decide +kernel
theorem dX6_insert_5 : decode cX6_insert 5 = .ok (.invokevirtual 62, 3) := by decide +kernel
theorem dX6_insert_8 : decode cX6_insert 8 = .ok (.astore 7, 2) := by decide +kernel
theorem dX6_insert_10 : decode cX6_insert 10 = .ok (.iload_n 1, 1) := by decide +kernel
theorem dX6_insert_11 : decode cX6_insert 11 = .ok (.iconst 4, 1) := by decide +kernel
theorem dX6_insert_12 : decode cX6_insert 12 = .ok (.invokestatic 57, 3) := by decide +kernel
theorem dX6_insert_15 : decode cX6_insert 15 = .ok (.ifCond .eq 21, 3) := by decide +kernel
theorem dX6_insert_18 : decode cX6_insert 18 = .ok (.aload 7, 2) := by decide +kernel
theorem dX6_insert_20 : decode cX6_insert 20 = .ok (.ifnull 16, 3) := by decide +kernel
theorem dX6_insert_23 : decode cX6_insert 23 = .ok (.aload 7, 2) := by decide +kernel
theorem dX6_insert_25 : decode cX6_insert 25 = .ok (.iload_n 3, 1) := by decide +kernel
theorem dX6_insert_26 : decode cX6_insert 26 = .ok (.iload 4, 2) := by decide +kernel
theorem dX6_insert_28 : decode cX6_insert 28 = .ok (.iload 5, 2) := by decide +kernel
theorem dX6_insert_30 : decode cX6_insert 30 = .ok (.invokevirtual 96, 3) := by decide +kernel
theorem dX6_insert_33 : decode cX6_insert 33 = .ok (.ifCond .ne 6, 3) := by decide +kernel
theorem dX6_insert_36 : decode cX6_insert 36 = .ok (.ldc 77, 2) := by decide +kernel
theorem dX6_insert_38 : decode cX6_insert 38 = .ok (.ireturn, 1) := by decide +kernel
theorem dX6_insert_39 : decode cX6_insert 39 = .ok (.iload 6, 2) := by decide +kernel
theorem dX6_insert_41 : decode cX6_insert 41 = .ok (.invokestatic 100, 3) := by decide +kernel
theorem dX6_insert_44 : decode cX6_insert 44 = .ok (.ifCond .ne 6, 3) := by decide +kernel
theorem dX6_insert_47 : decode cX6_insert 47 = .ok (.ldc 61, 2) := by decide +kernel
theorem dX6_insert_49 : decode cX6_insert 49 = .ok (.ireturn, 1) := by decide +kernel
theorem dX6_insert_50 : decode cX6_insert 50 = .ok (.aload 7, 2) := by decide +kernel
theorem dX6_insert_52 : decode cX6_insert 52 = .ok (.iload_n 1, 1) := by decide +kernel
theorem dX6_insert_53 : decode cX6_insert 53 = .ok (.invokevirtual 78, 3) := by decide +kernel
theorem dX6_insert_56 : decode cX6_insert 56 = .ok (.ifCond .ne 6, 3) := by decide +kernel
theorem dX6_insert_59 : decode cX6_insert 59 = .ok (.ldc 84, 2) := by decide +kernel
theorem dX6_insert_61 : decode cX6_insert 61 = .ok (.ireturn, 1) := by decide +kernel
theorem dX6_insert_62 : decode cX6_insert 62 = .ok (.iload 5, 2) := by decide +kernel
theorem dX6_insert_64 : decode cX6_insert 64 = .ok (.iconst (-1), 1) := by decide +kernel
theorem dX6_insert_65 : decode cX6_insert 65 = .ok (.if_icmp .ne 15, 3) := by decide +kernel
theorem dX6_insert_68 : decode cX6_insert 68 = .ok (.aload_n 0, 1) := by decide +kernel
theorem dX6_insert_69 : decode cX6_insert 69 = .ok (.aload 7, 2) := by decide +kernel
theorem dX6_insert_71 : decode cX6_insert 71 = .ok (.iload_n 3, 1) := by decide +kernel
theorem dX6_insert_72 : decode cX6_insert 72 = .ok (.iload 4, 2) := by decide +kernel
theorem dX6_insert_74 : decode cX6_insert 74 = .ok (.iload 6, 2) := by decide +kernel
theorem dX6_insert_76 : decode cX6_insert 76 = .ok (.invokevirtual 103, 3) := by decide +kernel
theorem dX6_insert_79 : decode cX6_insert 79 = .ok (.ireturn, 1) := by decide +kernel
theorem dX6_insert_80 : decode cX6_insert 80 = .ok (.aload_n 0, 1) := by decide +kernel
theorem dX6_insert_81 : decode cX6_insert 81 = .ok (.aload 7, 2) := by decide +kernel
theorem dX6_insert_83 : decode cX6_insert 83 = .ok (.iload_n 3, 1) := by decide +kernel
theorem dX6_insert_84 : decode cX6_insert 84 = .ok (.iload 4, 2) := by decide +kernel
theorem dX6_insert_86 : decode cX6_insert 86 = .ok (.iload 5, 2) := by decide +kernel
theorem dX6_insert_88 : decode cX6_insert 88 = .ok (.iload 6, 2) := by decide +kernel
theorem dX6_insert_90 : decode cX6_insert 90 = .ok (.invokevirtual 107, 3) := by decide +kernel
theorem dX6_insert_93 : decode cX6_insert 93 = .ok (.ireturn, 1) := by decide +kernel
theorem dX6_insertValue_0 : decode cX6_insertValue 0 = .ok (.aload_n 1, 1) := by decide +kernel
theorem dX6_insertValue_1 : decode cX6_insertValue 1 = .ok (.iload_n 2, 1) := by decide +kernel
theorem dX6_insertValue_2 : decode cX6_insertValue 2 = .ok (.invokevirtual 111, 3) := by decide +kernel
theorem dX6_insertValue_5 : decode cX6_insertValue 5 = .ok (.iconst 5, 1) := by decide +kernel
theorem dX6_insertValue_6 : decode cX6_insertValue 6 = .ok (.if_icmp .lt 6, 3) := by decide +kernel
theorem dX6_insertValue_9 : decode cX6_insertValue 9 = .ok (.ldc 70, 2) := by decide +kernel
theorem dX6_insertValue_11 : decode cX6_insertValue 11 = .ok (.ireturn, 1) := by decide +kernel
theorem dX6_insertValue_12 : decode cX6_insertValue 12 = .ok (.aload_n 0, 1) := by decide +kernel
theorem dX6_insertValue_13 : decode cX6_insertValue 13 = .ok (.invokevirtual 71, 3) := by decide +kernel
theorem dX6_insertValue_16 : decode cX6_insertValue 16 = .ok (.aload_n 1, 1) := by decide +kernel
theorem dX6_insertValue_17 : decode cX6_insertValue 17 = .ok (.iload_n 2, 1) := by decide +kernel
theorem dX6_insertValue_18 : decode cX6_insertValue 18 = .ok (.iload_n 3, 1) := by decide +kernel
theorem dX6_insertValue_19 : decode cX6_insertValue 19 = .ok (.iload 4, 2) := by decide +kernel
theorem dX6_insertValue_21 : decode cX6_insertValue 21 = .ok (.invokevirtual 114, 3) := by decide +kernel
theorem dX6_insertValue_24 : decode cX6_insertValue 24 = .ok (.aload_n 1, 1) := by decide +kernel
theorem dX6_insertValue_25 : decode cX6_insertValue 25 = .ok (.iload_n 2, 1) := by decide +kernel
theorem dX6_insertValue_26 : decode cX6_insertValue 26 = .ok (.invokevirtual 111, 3) := by decide +kernel
theorem dX6_insertValue_29 : decode cX6_insertValue 29 = .ok (.ireturn, 1) := by decide +kernel
theorem dX6_insertSub_0 : decode cX6_insertSub 0 = .ok (.aload_n 1, 1) := by decide +kernel
theorem dX6_insertSub_1 : decode cX6_insertSub 1 = .ok (.iload_n 2, 1) := by decide +kernel
theorem dX6_insertSub_2 : decode cX6_insertSub 2 = .ok (.iload_n 3, 1) := by decide +kernel
theorem dX6_insertSub_3 : decode cX6_insertSub 3 = .ok (.invokevirtual 118, 3) := by decide +kernel
theorem dX6_insertSub_6 : decode cX6_insertSub 6 = .ok (.iconst 4, 1) := by decide +kernel
theorem dX6_insertSub_7 : decode cX6_insertSub 7 = .ok (.if_icmp .lt 6, 3) := by decide +kernel
theorem dX6_insertSub_10 : decode cX6_insertSub 10 = .ok (.ldc 70, 2) := by decide +kernel
theorem dX6_insertSub_12 : decode cX6_insertSub 12 = .ok (.ireturn, 1) := by decide +kernel
theorem dX6_insertSub_13 : decode cX6_insertSub 13 = .ok (.aload_n 0, 1) := by decide +kernel
theorem dX6_insertSub_14 : decode cX6_insertSub 14 = .ok (.invokevirtual 71, 3) := by decide +kernel
theorem dX6_insertSub_17 : decode cX6_insertSub 17 = .ok (.aload_n 1, 1) := by decide +kernel
theorem dX6_insertSub_18 : decode cX6_insertSub 18 = .ok (.iload_n 2, 1) := by decide +kernel
theorem dX6_insertSub_19 : decode cX6_insertSub 19 = .ok (.iload_n 3, 1) := by decide +kernel
theorem dX6_insertSub_20 : decode cX6_insertSub 20 = .ok (.iload 4, 2) := by decide +kernel
theorem dX6_insertSub_22 : decode cX6_insertSub 22 = .ok (.iload 5, 2) := by decide +kernel
theorem dX6_insertSub_24 : decode cX6_insertSub 24 = .ok (.invokevirtual 122, 3) := by decide +kernel
theorem dX6_insertSub_27 : decode cX6_insertSub 27 = .ok (.aload_n 1, 1) := by decide +kernel
theorem dX6_insertSub_28 : decode cX6_insertSub 28 = .ok (.iload_n 2, 1) := by decide +kernel
theorem dX6_insertSub_29 : decode cX6_insertSub 29 = .ok (.iload_n 3, 1) := by decide +kernel
theorem dX6_insertSub_30 : decode cX6_insertSub 30 = .ok (.invokevirtual 118, 3) := by decide +kernel
theorem dX6_insertSub_33 : decode cX6_insertSub 33 = .ok (.ireturn, 1) := by decide +kernel
theorem dX6_change_0 : decode cX6_change 0 = .ok (.aload_n 0, 1) := by decide +kernel
theorem dX6_change_1 : decode cX6_change 1 = .ok (.getfield 12, 3) := by decide +kernel
theorem dX6_change_4 : decode cX6_change 4 = .ok (.iload_n 2, 1) := by decide +kernel
theorem dX6_change_5 : decode cX6_change 5 = .ok (.invokevirtual 62, 3) := by decide +kernel
theorem dX6_change_8 : decode cX6_change 8 = .ok (.astore 7, 2) := by decide +kernel
theorem dX6_change_10 : decode cX6_change 10 = .ok (.iload_n 1, 1) := by decide +kernel
theorem dX6_change_11 : decode cX6_change 11 = .ok (.iconst 4, 1) := by decide +kernel
theorem dX6_change_12 : decode cX6_change 12 = .ok (.invokestatic 57, 3) := by decide +kernel
theorem dX6_change_15 : decode cX6_change 15 = .ok (.ifCond .eq 21, 3) := by decide +kernel
theorem dX6_change_18 : decode cX6_change 18 = .ok (.aload 7, 2) := by decide +kernel
theorem dX6_change_20 : decode cX6_change 20 = .ok (.ifnull 16, 3) := by decide +kernel
theorem dX6_change_23 : decode cX6_change 23 = .ok (.aload 7, 2) := by decide +kernel
theorem dX6_change_25 : decode cX6_change 25 = .ok (.iload_n 3, 1) := by decide +kernel
theorem dX6_change_26 : decode cX6_change 26 = .ok (.iload 4, 2) := by decide +kernel
theorem dX6_change_28 : decode cX6_change 28 = .ok (.iload 5, 2) := by decide +kernel
theorem dX6_change_30 : decode cX6_change 30 = .ok (.invokevirtual 126, 3) := by decide +kernel
theorem dX6_change_33 : decode cX6_change 33 = .ok (.ifCond .ne 6, 3) := by decide +kernel
theorem dX6_change_36 : decode cX6_change 36 = .ok (.ldc 77, 2) := by decide +kernel
theorem dX6_change_38 : decode cX6_change 38 = .ok (.ireturn, 1) := by decide +kernel
theorem dX6_change_39 : decode cX6_change 39 = .ok (.iload 6, 2) := by decide +kernel
theorem dX6_change_41 : decode cX6_change 41 = .ok (.invokestatic 100, 3) := by decide +kernel
theorem dX6_change_44 : decode cX6_change 44 = .ok (.ifCond .ne 6, 3) := by decide +kernel
theorem dX6_change_47 : decode cX6_change 47 = .ok (.ldc 61, 2) := by decide +kernel
theorem dX6_change_49 : decode cX6_change 49 = .ok (.ireturn, 1) := by decide +kernel
theorem dX6_change_50 : decode cX6_change 50 = .ok (.aload 7, 2) := by decide +kernel
theorem dX6_change_52 : decode cX6_change 52 = .ok (.iload_n 1, 1) := by decide +kernel
theorem dX6_change_53 : decode cX6_change 53 = .ok (.invokevirtual 78, 3) := by decide +kernel
theorem dX6_change_56 : decode cX6_change 56 = .ok (.ifCond .ne 6, 3) := by decide +kernel
theorem dX6_change_59 : decode cX6_change 59 = .ok (.ldc 84, 2) := by decide +kernel
theorem dX6_change_61 : decode cX6_change 61 = .ok (.ireturn, 1) := by decide +kernel
theorem dX6_change_62 : decode cX6_change 62 = .ok (.aload 7, 2) := by decide +kernel
theorem dX6_change_64 : decode cX6_change 64 = .ok (.iload_n 3, 1) := by decide +kernel
theorem dX6_change_65 : decode cX6_change 65 = .ok (.iload 4, 2) := by decide +kernel
theorem dX6_change_67 : decode cX6_change 67 = .ok (.iload 5, 2) := by decide +kernel
theorem dX6_change_69 : decode cX6_change 69 = .ok (.invokevirtual 129, 3) := by decide +kernel
theorem dX6_change_72 : decode cX6_change 72 = .ok (.istore 8, 2) := by decide +kernel
theorem dX6_change_74 : decode cX6_change 74 = .ok (.aload_n 0, 1) := by decide +kernel
theorem dX6_change_75 : decode cX6_change 75 = .ok (.invokevirtual 71, 3) := by decide +kernel
theorem dX6_change_78 : decode cX6_change 78 = .ok (.aload 7, 2) := by decide +kernel
theorem dX6_change_80 : decode cX6_change 80 = .ok (.iload_n 3, 1) := by decide +kernel
theorem dX6_change_81 : decode cX6_change 81 = .ok (.iload 4, 2) := by decide +kernel
theorem dX6_change_83 : decode cX6_change 83 = .ok (.iload 5, 2) := by decide +kernel
theorem dX6_change_85 : decode cX6_change 85 = .ok (.iload 6, 2) := by decide +kernel
theorem dX6_change_87 : decode cX6_change 87 = .ok (.invokevirtual 133, 3) := by decide +kernel
theorem dX6_change_90 : decode cX6_change 90 = .ok (.iload 8, 2) := by decide +kernel
theorem dX6_change_92 : decode cX6_change 92 = .ok (.ireturn, 1) := by decide +kernel
theorem dX6_remove_0 : decode cX6_remove 0 = .ok (.aload_n 0, 1) := by decide +kernel
theorem dX6_remove_1 : decode cX6_remove 1 = .ok (.getfield 12, 3) := by decide +kernel
theorem dX6_remove_4 : decode cX6_remove 4 = .ok (.iload_n 2, 1) := by decide +kernel
theorem dX6_remove_5 : decode cX6_remove 5 = .ok (.invokevirtual 62, 3) := by decide +kernel
theorem dX6_remove_8 : decode cX6_remove 8 = .ok (.astore 6, 2) := by decide +kernel
theorem dX6_remove_10 : decode cX6_remove 10 = .ok (.iload_n 1, 1) := by decide +kernel
theorem dX6_remove_11 : decode cX6_remove 11 = .ok (.iconst 4, 1) := by decide +kernel
theorem dX6_remove_12 : decode cX6_remove 12 = .ok (.invokestatic 57, 3) := by decide +kernel
theorem dX6_remove_15 : decode cX6_remove 15 = .ok (.ifCond .eq 21, 3) := by decide +kernel
theorem dX6_remove_18 : decode cX6_remove 18 = .ok (.aload 6, 2) := by decide +kernel
theorem dX6_remove_20 : decode cX6_remove 20 = .ok (.ifnull 16, 3) := by decide +kernel
theorem dX6_remove_23 : decode cX6_remove 23 = .ok (.aload 6, 2) := by decide +kernel
theorem dX6_remove_25 : decode cX6_remove 25 = .ok (.iload_n 3, 1) := by decide +kernel
theorem dX6_remove_26 : decode cX6_remove 26 = .ok (.iload 4, 2) := by decide +kernel
theorem dX6_remove_28 : decode cX6_remove 28 = .ok (.iload 5, 2) := by decide +kernel
theorem dX6_remove_30 : decode cX6_remove 30 = .ok (.invokevirtual 136, 3) := by decide +kernel
theorem dX6_remove_33 : decode cX6_remove 33 = .ok (.ifCond .ne 6, 3) := by decide +kernel
theorem dX6_remove_36 : decode cX6_remove 36 = .ok (.ldc 77, 2) := by decide +kernel
theorem dX6_remove_38 : decode cX6_remove 38 = .ok (.ireturn, 1) := by decide +kernel
theorem dX6_remove_39 : decode cX6_remove 39 = .ok (.aload 6, 2) := by decide +kernel
theorem dX6_remove_41 : decode cX6_remove 41 = .ok (.iload_n 1, 1) := by decide +kernel
theorem dX6_remove_42 : decode cX6_remove 42 = .ok (.invokevirtual 78, 3) := by decide +kernel
theorem dX6_remove_45 : decode cX6_remove 45 = .ok (.ifCond .ne 6, 3) := by decide +kernel
theorem dX6_remove_48 : decode cX6_remove 48 = .ok (.ldc 84, 2) := by decide +kernel
theorem dX6_remove_50 : decode cX6_remove 50 = .ok (.ireturn, 1) := by decide +kernel
theorem dX6_remove_51 : decode cX6_remove 51 = .ok (.aload_n 0, 1) := by decide +kernel
theorem dX6_remove_52 : decode cX6_remove 52 = .ok (.invokevirtual 71, 3) := by decide +kernel
theorem dX6_remove_55 : decode cX6_remove 55 = .ok (.iload 5, 2) := by decide +kernel
theorem dX6_remove_57 : decode cX6_remove 57 = .ok (.iconst (-1), 1) := by decide +kernel
theorem dX6_remove_58 : decode cX6_remove 58 = .ok (.if_icmp .eq 15, 3) := by decide +kernel
theorem dX6_remove_61 : decode cX6_remove 61 = .ok (.aload 6, 2) := by decide +kernel
theorem dX6_remove_63 : decode cX6_remove 63 = .ok (.iload_n 3, 1) := by decide +kernel
theorem dX6_remove_64 : decode cX6_remove 64 = .ok (.iload 4, 2) := by decide +kernel
theorem dX6_remove_66 : decode cX6_remove 66 = .ok (.invokevirtual 118, 3) := by decide +kernel
theorem dX6_remove_69 : decode cX6_remove 69 = .ok (.iconst 1, 1) := by decide +kernel
theorem dX6_remove_70 : decode cX6_remove 70 = .ok (.if_icmp .ne 14, 3) := by decide +kernel
theorem dX6_remove_73 : decode cX6_remove 73 = .ok (.aload 6, 2) := by decide +kernel
theorem dX6_remove_75 : decode cX6_remove 75 = .ok (.iload_n 3, 1) := by decide +kernel
theorem dX6_remove_76 : decode cX6_remove 76 = .ok (.iload 4, 2) := by decide +kernel
theorem dX6_remove_78 : decode cX6_remove 78 = .ok (.invokevirtual 139, 3) := by decide +kernel
theorem dX6_remove_81 : decode cX6_remove 81 = .ok (.goto 13, 3) := by decide +kernel
theorem dX6_remove_84 : decode cX6_remove 84 = .ok (.aload 6, 2) := by decide +kernel
theorem dX6_remove_86 : decode cX6_remove 86 = .ok (.iload_n 3, 1) := by decide +kernel
theorem dX6_remove_87 : decode cX6_remove 87 = .ok (.iload 4, 2) := by decide +kernel
theorem dX6_remove_89 : decode cX6_remove 89 = .ok (.iload 5, 2) := by decide +kernel
theorem dX6_remove_91 : decode cX6_remove 91 = .ok (.invokevirtual 143, 3) := by decide +kernel
theorem dX6_remove_94 : decode cX6_remove 94 = .ok (.aload 6, 2) := by decide +kernel
theorem dX6_remove_96 : decode cX6_remove 96 = .ok (.iload_n 3, 1) := by decide +kernel
theorem dX6_remove_97 : decode cX6_remove 97 = .ok (.invokevirtual 111, 3) := by decide +kernel
theorem dX6_remove_100 : decode cX6_remove 100 = .ok (.ireturn, 1) := by decide +kernel
theorem dX6_removeLine_0 : decode cX6_removeLine 0 = .ok (.aload_n 0, 1) := by decide +kernel
theorem dX6_removeLine_1 : decode cX6_removeLine 1 = .ok (.getfield 12, 3) := by decide +kernel
theorem dX6_removeLine_4 : decode cX6_removeLine 4 = .ok (.iload_n 2, 1) := by decide +kernel
theorem dX6_removeLine_5 : decode cX6_removeLine 5 = .ok (.invokevirtual 62, 3) := by decide +kernel
theorem dX6_removeLine_8 : decode cX6_removeLine 8 = .ok (.astore 4, 2) := by decide +kernel
theorem dX6_removeLine_10 : decode cX6_removeLine 10 = .ok (.iload_n 1, 1) := by decide +kernel
theorem dX6_removeLine_11 : decode cX6_removeLine 11 = .ok (.iconst 4, 1) := by decide +kernel
theorem dX6_removeLine_12 : decode cX6_removeLine 12 = .ok (.invokestatic 57, 3) := by decide +kernel
theorem dX6_removeLine_15 : decode cX6_removeLine 15 = .ok (.ifCond .eq 25, 3) := by decide +kernel
theorem dX6_removeLine_18 : decode cX6_removeLine 18 = .ok (.aload 4, 2) := by decide +kernel
theorem dX6_removeLine_20 : decode cX6_removeLine 20 = .ok (.ifnull 20, 3) := by decide +kernel
theorem dX6_removeLine_23 : decode cX6_removeLine 23 = .ok (.iload_n 3, 1) := by decide +kernel
theorem dX6_removeLine_24 : decode cX6_removeLine 24 = .ok (.ifCond .lt 16, 3) := by decide +kernel
theorem dX6_removeLine_27 : decode cX6_removeLine 27 = .ok (.iload_n 3, 1) := by decide +kernel
theorem dX6_removeLine_28 : decode cX6_removeLine 28 = .ok (.aload_n 0, 1) := by decide +kernel
theorem dX6_removeLine_29 : decode cX6_removeLine 29 = .ok (.getfield 12, 3) := by decide +kernel
theorem dX6_removeLine_32 : decode cX6_removeLine 32 = .ok (.aload 4, 2) := by decide +kernel
theorem dX6_removeLine_34 : decode cX6_removeLine 34 = .ok (.invokevirtual 146, 3) := by decide +kernel
theorem dX6_removeLine_37 : decode cX6_removeLine 37 = .ok (.if_icmp .lt 6, 3) := by decide +kernel
theorem dX6_removeLine_40 : decode cX6_removeLine 40 = .ok (.ldc 77, 2) := by decide +kernel
theorem dX6_removeLine_42 : decode cX6_removeLine 42 = .ok (.ireturn, 1) := by decide +kernel
theorem dX6_removeLine_43 : decode cX6_removeLine 43 = .ok (.aload 4, 2) := by decide +kernel
theorem dX6_removeLine_45 : decode cX6_removeLine 45 = .ok (.iload_n 1, 1) := by decide +kernel
theorem dX6_removeLine_46 : decode cX6_removeLine 46 = .ok (.invokevirtual 78, 3) := by decide +kernel
theorem dX6_removeLine_49 : decode cX6_removeLine 49 = .ok (.ifCond .ne 6, 3) := by decide +kernel
theorem dX6_removeLine_52 : decode cX6_removeLine 52 = .ok (.ldc 84, 2) := by decide +kernel
theorem dX6_removeLine_54 : decode cX6_removeLine 54 = .ok (.ireturn, 1) := by decide +kernel
theorem dX6_removeLine_55 : decode cX6_removeLine 55 = .ok (.aload_n 0, 1) := by decide +kernel
theorem dX6_removeLine_56 : decode cX6_removeLine 56 = .ok (.invokevirtual 71, 3) := by decide +kernel
theorem dX6_removeLine_59 : decode cX6_removeLine 59 = .ok (.iconst 0, 1) := by decide +kernel
theorem dX6_removeLine_60 : decode cX6_removeLine 60 = .ok (.istore 5, 2) := by decide +kernel
theorem dX6_removeLine_62 : decode cX6_removeLine 62 = .ok (.iconst 0, 1) := by decide +kernel
theorem dX6_removeLine_63 : decode cX6_removeLine 63 = .ok (.istore 6, 2) := by decide +kernel
theorem dX6_removeLine_65 : decode cX6_removeLine 65 = .ok (.iload 6, 2) := by decide +kernel
theorem dX6_removeLine_67 : decode cX6_removeLine 67 = .ok (.iconst 4, 1) := by decide +kernel
theorem dX6_removeLine_68 : decode cX6_removeLine 68 = .ok (.if_icmp .ge 44, 3) := by decide +kernel
theorem dX6_removeLine_71 : decode cX6_removeLine 71 = .ok (.aload_n 0, 1) := by decide +kernel
theorem dX6_removeLine_72 : decode cX6_removeLine 72 = .ok (.getfield 12, 3) := by decide +kernel
theorem dX6_removeLine_75 : decode cX6_removeLine 75 = .ok (.getfield 150, 3) := by decide +kernel
theorem dX6_removeLine_78 : decode cX6_removeLine 78 = .ok (.iload 6, 2) := by decide +kernel
theorem dX6_removeLine_80 : decode cX6_removeLine 80 = .ok (.baload, 1) := by decide +kernel
theorem dX6_removeLine_81 : decode cX6_removeLine 81 = .ok (.ifCond .eq 25, 3) := by decide +kernel
theorem dX6_removeLine_84 : decode cX6_removeLine 84 = .ok (.aload 4, 2) := by decide +kernel
theorem dX6_removeLine_86 : decode cX6_removeLine 86 = .ok (.iload 6, 2) := by decide +kernel
theorem dX6_removeLine_88 : decode cX6_removeLine 88 = .ok (.iload_n 3, 1) := by decide +kernel
theorem dX6_removeLine_89 : decode cX6_removeLine 89 = .ok (.invokevirtual 154, 3) := by decide +kernel
theorem dX6_removeLine_92 : decode cX6_removeLine 92 = .ok (.ifCond .eq 14, 3) := by decide +kernel
theorem dX6_removeLine_95 : decode cX6_removeLine 95 = .ok (.aload 4, 2) := by decide +kernel
theorem dX6_removeLine_97 : decode cX6_removeLine 97 = .ok (.iload 6, 2) := by decide +kernel
theorem dX6_removeLine_99 : decode cX6_removeLine 99 = .ok (.iload_n 3, 1) := by decide +kernel
theorem dX6_removeLine_100 : decode cX6_removeLine 100 = .ok (.invokevirtual 139, 3) := by decide +kernel
theorem dX6_removeLine_103 : decode cX6_removeLine 103 = .ok (.iinc 5 1, 3) := by decide +kernel
theorem dX6_removeLine_106 : decode cX6_removeLine 106 = .ok (.iinc 6 1, 3) := by decide +kernel
theorem dX6_removeLine_109 : decode cX6_removeLine 109 = .ok (.goto (-44), 3) := by decide +kernel
theorem dX6_removeLine_112 : decode cX6_removeLine 112 = .ok (.iload 5, 2) := by decide +kernel
theorem dX6_removeLine_114 : decode cX6_removeLine 114 = .ok (.ireturn, 1) := by decide +kernel
theorem dX6_load_0 : decode cX6_load 0 = .ok (.aload_n 0, 1) := by decide +kernel
theorem dX6_load_1 : decode cX6_load 1 = .ok (.getfield 12, 3) := by decide +kernel
theorem dX6_load_4 : decode cX6_load 4 = .ok (.iload_n 2, 1) := by decide +kernel
theorem dX6_load_5 : decode cX6_load 5 = .ok (.invokevirtual 62, 3) := by decide +kernel
theorem dX6_load_8 : decode cX6_load 8 = .ok (.astore_n 3, 1) := by decide +kernel
theorem dX6_load_9 : decode cX6_load 9 = .ok (.iload_n 1, 1) := by decide +kernel
theorem dX6_load_10 : decode cX6_load 10 = .ok (.iconst 4, 1) := by decide +kernel
theorem dX6_load_11 : decode cX6_load 11 = .ok (.invokestatic 57, 3) := by decide +kernel
theorem dX6_load_14 : decode cX6_load 14 = .ok (.ifCond .eq 7, 3) := by decide +kernel
theorem dX6_load_17 : decode cX6_load 17 = .ok (.aload_n 3, 1) := by decide +kernel
theorem dX6_load_18 : decode cX6_load 18 = .ok (.ifnonnull 6, 3) := by decide +kernel
theorem dX6_load_21 : decode cX6_load 21 = .ok (.ldc 77, 2) := by decide +kernel
theorem dX6_load_23 : decode cX6_load 23 = .ok (.ireturn, 1) := by decide +kernel
theorem dX6_load_24 : decode cX6_load 24 = .ok (.aload_n 0, 1) := by decide +kernel
theorem dX6_load_25 : decode cX6_load 25 = .ok (.getfield 39, 3) := by decide +kernel
theorem dX6_load_28 : decode cX6_load 28 = .ok (.aload_n 0, 1) := by decide +kernel
theorem dX6_load_29 : decode cX6_load 29 = .ok (.getfield 29, 3) := by decide +kernel
theorem dX6_load_32 : decode cX6_load 32 = .ok (.invokevirtual 157, 3) := by decide +kernel
theorem dX6_load_35 : decode cX6_load 35 = .ok (.ldc 95, 2) := by decide +kernel
theorem dX6_load_37 : decode cX6_load 37 = .ok (.if_icmp .eq 6, 3) := by decide +kernel
theorem dX6_load_40 : decode cX6_load 40 = .ok (.ldc 161, 2) := by decide +kernel
theorem dX6_load_42 : decode cX6_load 42 = .ok (.ireturn, 1) := by decide +kernel
theorem dX6_load_43 : decode cX6_load 43 = .ok (.aload_n 3, 1) := by decide +kernel
theorem dX6_load_44 : decode cX6_load 44 = .ok (.iload_n 1, 1) := by decide +kernel
theorem dX6_load_45 : decode cX6_load 45 = .ok (.invokevirtual 78, 3) := by decide +kernel
theorem dX6_load_48 : decode cX6_load 48 = .ok (.ifCond .ne 6, 3) := by decide +kernel
theorem dX6_load_51 : decode cX6_load 51 = .ok (.ldc 84, 2) := by decide +kernel
theorem dX6_load_53 : decode cX6_load 53 = .ok (.ireturn, 1) := by decide +kernel
theorem dX6_load_54 : decode cX6_load 54 = .ok (.aload_n 0, 1) := by decide +kernel
theorem dX6_load_55 : decode cX6_load 55 = .ok (.invokevirtual 71, 3) := by decide +kernel
theorem dX6_load_58 : decode cX6_load 58 = .ok (.aload_n 3, 1) := by decide +kernel
theorem dX6_load_59 : decode cX6_load 59 = .ok (.aload_n 0, 1) := by decide +kernel
theorem dX6_load_60 : decode cX6_load 60 = .ok (.getfield 39, 3) := by decide +kernel
theorem dX6_load_63 : decode cX6_load 63 = .ok (.getfield 162, 3) := by decide +kernel
theorem dX6_load_66 : decode cX6_load 66 = .ok (.invokevirtual 166, 3) := by decide +kernel
theorem dX6_load_69 : decode cX6_load 69 = .ok (.aload_n 3, 1) := by decide +kernel
theorem dX6_load_70 : decode cX6_load 70 = .ok (.invokevirtual 170, 3) := by decide +kernel
theorem dX6_load_73 : decode cX6_load 73 = .ok (.ireturn, 1) := by decide +kernel
theorem dX6_associate_0 : decode cX6_associate 0 = .ok (.iload_n 1, 1) := by decide +kernel
theorem dX6_associate_1 : decode cX6_associate 1 = .ok (.iconst 4, 1) := by decide +kernel
theorem dX6_associate_2 : decode cX6_associate 2 = .ok (.invokestatic 57, 3) := by decide +kernel
theorem dX6_associate_5 : decode cX6_associate 5 = .ok (.ifCond .ne 6, 3) := by decide +kernel
theorem dX6_associate_8 : decode cX6_associate 8 = .ok (.ldc 77, 2) := by decide +kernel
theorem dX6_associate_10 : decode cX6_associate 10 = .ok (.ireturn, 1) := by decide +kernel
theorem dX6_associate_11 : decode cX6_associate 11 = .ok (.aload_n 0, 1) := by decide +kernel
theorem dX6_associate_12 : decode cX6_associate 12 = .ok (.invokevirtual 71, 3) := by decide +kernel
theorem dX6_associate_15 : decode cX6_associate 15 = .ok (.aload_n 0, 1) := by decide +kernel
theorem dX6_associate_16 : decode cX6_associate 16 = .ok (.getfield 12, 3) := by decide +kernel
theorem dX6_associate_19 : decode cX6_associate 19 = .ok (.getfield 150, 3) := by decide +kernel
theorem dX6_associate_22 : decode cX6_associate 22 = .ok (.iload_n 1, 1) := by decide +kernel
theorem dX6_associate_23 : decode cX6_associate 23 = .ok (.iload_n 2, 1) := by decide +kernel
theorem dX6_associate_24 : decode cX6_associate 24 = .ok (.bastore, 1) := by decide +kernel
theorem dX6_associate_25 : decode cX6_associate 25 = .ok (.aload_n 0, 1) := by decide +kernel
theorem dX6_associate_26 : decode cX6_associate 26 = .ok (.getfield 12, 3) := by decide +kernel
theorem dX6_associate_29 : decode cX6_associate 29 = .ok (.invokevirtual 174, 3) := by decide +kernel
theorem dX6_associate_32 : decode cX6_associate 32 = .ok (.ireturn, 1) := by decide +kernel
theorem dX6_define_0 : decode cX6_define 0 = .ok (.iload_n 1, 1) := by decide +kernel
theorem dX6_define_1 : decode cX6_define 1 = .ok (.bipush 6, 2) := by decide +kernel
theorem dX6_define_3 : decode cX6_define 3 = .ok (.invokestatic 57, 3) := by decide +kernel
theorem dX6_define_6 : decode cX6_define 6 = .ok (.ifCond .eq 20, 3) := by decide +kernel
theorem dX6_define_9 : decode cX6_define 9 = .ok (.iload_n 3, 1) := by decide +kernel
theorem dX6_define_10 : decode cX6_define 10 = .ok (.iconst 4, 1) := by decide +kernel
theorem dX6_define_11 : decode cX6_define 11 = .ok (.invokestatic 57, 3) := by decide +kernel
theorem dX6_define_14 : decode cX6_define 14 = .ok (.ifCond .eq 12, 3) := by decide +kernel
theorem dX6_define_17 : decode cX6_define 17 = .ok (.iload 4, 2) := by decide +kernel
theorem dX6_define_19 : decode cX6_define 19 = .ok (.iconst 4, 1) := by decide +kernel
theorem dX6_define_20 : decode cX6_define 20 = .ok (.invokestatic 57, 3) := by decide +kernel
theorem dX6_define_23 : decode cX6_define 23 = .ok (.ifCond .ne 6, 3) := by decide +kernel
theorem dX6_define_26 : decode cX6_define 26 = .ok (.ldc 77, 2) := by decide +kernel
theorem dX6_define_28 : decode cX6_define 28 = .ok (.ireturn, 1) := by decide +kernel
theorem dX6_define_29 : decode cX6_define 29 = .ok (.iload_n 2, 1) := by decide +kernel
theorem dX6_define_30 : decode cX6_define 30 = .ok (.ifCond .lt 8, 3) := by decide +kernel
theorem dX6_define_33 : decode cX6_define 33 = .ok (.iload_n 2, 1) := by decide +kernel
theorem dX6_define_34 : decode cX6_define 34 = .ok (.iconst 4, 1) := by decide +kernel
theorem dX6_define_35 : decode cX6_define 35 = .ok (.if_icmp .le 6, 3) := by decide +kernel
theorem dX6_define_38 : decode cX6_define 38 = .ok (.ldc 61, 2) := by decide +kernel
theorem dX6_define_40 : decode cX6_define 40 = .ok (.ireturn, 1) := by decide +kernel
theorem dX6_define_41 : decode cX6_define 41 = .ok (.aload_n 0, 1) := by decide +kernel
theorem dX6_define_42 : decode cX6_define 42 = .ok (.getfield 12, 3) := by decide +kernel
theorem dX6_define_45 : decode cX6_define 45 = .ok (.getfield 177, 3) := by decide +kernel
theorem dX6_define_48 : decode cX6_define 48 = .ok (.iload_n 1, 1) := by decide +kernel
theorem dX6_define_49 : decode cX6_define 49 = .ok (.iaload, 1) := by decide +kernel
theorem dX6_define_50 : decode cX6_define 50 = .ok (.istore 5, 2) := by decide +kernel
theorem dX6_define_52 : decode cX6_define 52 = .ok (.aload_n 0, 1) := by decide +kernel
theorem dX6_define_53 : decode cX6_define 53 = .ok (.invokevirtual 71, 3) := by decide +kernel
theorem dX6_define_56 : decode cX6_define 56 = .ok (.aload_n 0, 1) := by decide +kernel
theorem dX6_define_57 : decode cX6_define 57 = .ok (.getfield 12, 3) := by decide +kernel
theorem dX6_define_60 : decode cX6_define 60 = .ok (.iload_n 1, 1) := by decide +kernel
theorem dX6_define_61 : decode cX6_define 61 = .ok (.iload_n 2, 1) := by decide +kernel
theorem dX6_define_62 : decode cX6_define 62 = .ok (.iload_n 3, 1) := by decide +kernel
theorem dX6_define_63 : decode cX6_define 63 = .ok (.iload 4, 2) := by decide +kernel
theorem dX6_define_65 : decode cX6_define 65 = .ok (.invokevirtual 181, 3) := by decide +kernel
theorem dX6_define_68 : decode cX6_define 68 = .ok (.iload 5, 2) := by decide +kernel
theorem dX6_define_70 : decode cX6_define 70 = .ok (.ireturn, 1) := by decide +kernel
theorem dX6_select_0 : decode cX6_select 0 = .ok (.iload_n 1, 1) := by decide +kernel
theorem dX6_select_1 : decode cX6_select 1 = .ok (.bipush 6, 2) := by decide +kernel
theorem dX6_select_3 : decode cX6_select 3 = .ok (.invokestatic 57, 3) := by decide +kernel
theorem dX6_select_6 : decode cX6_select 6 = .ok (.ifCond .eq 13, 3) := by decide +kernel
theorem dX6_select_9 : decode cX6_select 9 = .ok (.iload 5, 2) := by decide +kernel
theorem dX6_select_11 : decode cX6_select 11 = .ok (.bipush 8, 2) := by decide +kernel
theorem dX6_select_13 : decode cX6_select 13 = .ok (.invokestatic 57, 3) := by decide +kernel
theorem dX6_select_16 : decode cX6_select 16 = .ok (.ifCond .ne 6, 3) := by decide +kernel
theorem dX6_select_19 : decode cX6_select 19 = .ok (.ldc 77, 2) := by decide +kernel
theorem dX6_select_21 : decode cX6_select 21 = .ok (.ireturn, 1) := by decide +kernel
theorem dX6_select_22 : decode cX6_select 22 = .ok (.iload_n 2, 1) := by decide +kernel
theorem dX6_select_23 : decode cX6_select 23 = .ok (.ifCond .lt 20, 3) := by decide +kernel
theorem dX6_select_26 : decode cX6_select 26 = .ok (.iload_n 2, 1) := by decide +kernel
theorem dX6_select_27 : decode cX6_select 27 = .ok (.iconst 2, 1) := by decide +kernel
theorem dX6_select_28 : decode cX6_select 28 = .ok (.if_icmp .gt 15, 3) := by decide +kernel
theorem dX6_select_31 : decode cX6_select 31 = .ok (.iload_n 3, 1) := by decide +kernel
theorem dX6_select_32 : decode cX6_select 32 = .ok (.ldc 184, 2) := by decide +kernel
theorem dX6_select_34 : decode cX6_select 34 = .ok (.if_icmp .lt 9, 3) := by decide +kernel
theorem dX6_select_37 : decode cX6_select 37 = .ok (.iload_n 3, 1) := by decide +kernel
theorem dX6_select_38 : decode cX6_select 38 = .ok (.ldc 185, 2) := by decide +kernel
theorem dX6_select_40 : decode cX6_select 40 = .ok (.if_icmp .le 6, 3) := by decide +kernel
theorem dX6_select_43 : decode cX6_select 43 = .ok (.ldc 61, 2) := by decide +kernel
theorem dX6_select_45 : decode cX6_select 45 = .ok (.ireturn, 1) := by decide +kernel
theorem dX6_select_46 : decode cX6_select 46 = .ok (.aload_n 0, 1) := by decide +kernel
theorem dX6_select_47 : decode cX6_select 47 = .ok (.invokevirtual 71, 3) := by decide +kernel
theorem dX6_select_50 : decode cX6_select 50 = .ok (.aload_n 0, 1) := by decide +kernel
theorem dX6_select_51 : decode cX6_select 51 = .ok (.getfield 12, 3) := by decide +kernel
theorem dX6_select_54 : decode cX6_select 54 = .ok (.iload 5, 2) := by decide +kernel
theorem dX6_select_56 : decode cX6_select 56 = .ok (.invokevirtual 186, 3) := by decide +kernel
theorem dX6_select_59 : decode cX6_select 59 = .ok (.iconst 0, 1) := by decide +kernel
theorem dX6_select_60 : decode cX6_select 60 = .ok (.istore 6, 2) := by decide +kernel
theorem dX6_select_62 : decode cX6_select 62 = .ok (.iload 6, 2) := by decide +kernel
theorem dX6_select_64 : decode cX6_select 64 = .ok (.aload_n 0, 1) := by decide +kernel
theorem dX6_select_65 : decode cX6_select 65 = .ok (.getfield 12, 3) := by decide +kernel
theorem dX6_select_68 : decode cX6_select 68 = .ok (.getfield 67, 3) := by decide +kernel
theorem dX6_select_71 : decode cX6_select 71 = .ok (.if_icmp .ge 61, 3) := by decide +kernel
theorem dX6_select_74 : decode cX6_select 74 = .ok (.aload_n 0, 1) := by decide +kernel
theorem dX6_select_75 : decode cX6_select 75 = .ok (.getfield 12, 3) := by decide +kernel
theorem dX6_select_78 : decode cX6_select 78 = .ok (.getfield 189, 3) := by decide +kernel
theorem dX6_select_81 : decode cX6_select 81 = .ok (.iload 6, 2) := by decide +kernel
theorem dX6_select_83 : decode cX6_select 83 = .ok (.aaload, 1) := by decide +kernel
theorem dX6_select_84 : decode cX6_select 84 = .ok (.astore 7, 2) := by decide +kernel
theorem dX6_select_86 : decode cX6_select 86 = .ok (.aload_n 0, 1) := by decide +kernel
theorem dX6_select_87 : decode cX6_select 87 = .ok (.getfield 12, 3) := by decide +kernel
theorem dX6_select_90 : decode cX6_select 90 = .ok (.aload 7, 2) := by decide +kernel
theorem dX6_select_92 : decode cX6_select 92 = .ok (.iload_n 1, 1) := by decide +kernel
theorem dX6_select_93 : decode cX6_select 93 = .ok (.aload_n 0, 1) := by decide +kernel
theorem dX6_select_94 : decode cX6_select 94 = .ok (.getfield 46, 3) := by decide +kernel
theorem dX6_select_97 : decode cX6_select 97 = .ok (.invokevirtual 193, 3) := by decide +kernel
theorem dX6_select_100 : decode cX6_select 100 = .ok (.aload_n 0, 1) := by decide +kernel
theorem dX6_select_101 : decode cX6_select 101 = .ok (.iload_n 2, 1) := by decide +kernel
theorem dX6_select_102 : decode cX6_select 102 = .ok (.iload_n 3, 1) := by decide +kernel
theorem dX6_select_103 : decode cX6_select 103 = .ok (.iload 4, 2) := by decide +kernel
theorem dX6_select_105 : decode cX6_select 105 = .ok (.invokevirtual 197, 3) := by decide +kernel
theorem dX6_select_108 : decode cX6_select 108 = .ok (.ifCond .eq 18, 3) := by decide +kernel
theorem dX6_select_111 : decode cX6_select 111 = .ok (.aload_n 0, 1) := by decide +kernel
theorem dX6_select_112 : decode cX6_select 112 = .ok (.getfield 12, 3) := by decide +kernel
theorem dX6_select_115 : decode cX6_select 115 = .ok (.iload 5, 2) := by decide +kernel
theorem dX6_select_117 : decode cX6_select 117 = .ok (.aload 7, 2) := by decide +kernel
theorem dX6_select_119 : decode cX6_select 119 = .ok (.getfield 201, 3) := by decide +kernel
theorem dX6_select_122 : decode cX6_select 122 = .ok (.iconst 1, 1) := by decide +kernel
theorem dX6_select_123 : decode cX6_select 123 = .ok (.invokevirtual 204, 3) := by decide +kernel
theorem dX6_select_126 : decode cX6_select 126 = .ok (.iinc 6 1, 3) := by decide +kernel
theorem dX6_select_129 : decode cX6_select 129 = .ok (.goto (-67), 3) := by decide +kernel
theorem dX6_select_132 : decode cX6_select 132 = .ok (.aload_n 0, 1) := by decide +kernel
theorem dX6_select_133 : decode cX6_select 133 = .ok (.getfield 12, 3) := by decide +kernel
theorem dX6_select_136 : decode cX6_select 136 = .ok (.iload 5, 2) := by decide +kernel
theorem dX6_select_138 : decode cX6_select 138 = .ok (.invokevirtual 208, 3) := by decide +kernel
theorem dX6_select_141 : decode cX6_select 141 = .ok (.ireturn, 1) := by decide +kernel
theorem dX6_isSelected_0 : decode cX6_isSelected 0 = .ok (.iconst 0, 1) := by decide +kernel
theorem dX6_isSelected_1 : decode cX6_isSelected 1 = .ok (.istore 4, 2) := by decide +kernel
theorem dX6_isSelected_3 : decode cX6_isSelected 3 = .ok (.iconst 0, 1) := by decide +kernel
theorem dX6_isSelected_4 : decode cX6_isSelected 4 = .ok (.istore 5, 2) := by decide +kernel
theorem dX6_isSelected_6 : decode cX6_isSelected 6 = .ok (.iload 5, 2) := by decide +kernel
theorem dX6_isSelected_8 : decode cX6_isSelected 8 = .ok (.aload_n 0, 1) := by decide +kernel
theorem dX6_isSelected_9 : decode cX6_isSelected 9 = .ok (.getfield 46, 3) := by decide +kernel
theorem dX6_isSelected_12 : decode cX6_isSelected 12 = .ok (.getfield 211, 3) := by decide +kernel
theorem dX6_isSelected_15 : decode cX6_isSelected 15 = .ok (.if_icmp .ge 29, 3) := by decide +kernel
theorem dX6_isSelected_18 : decode cX6_isSelected 18 = .ok (.aload_n 0, 1) := by decide +kernel
theorem dX6_isSelected_19 : decode cX6_isSelected 19 = .ok (.getfield 46, 3) := by decide +kernel
theorem dX6_isSelected_22 : decode cX6_isSelected 22 = .ok (.iload 5, 2) := by decide +kernel
theorem dX6_isSelected_24 : decode cX6_isSelected 24 = .ok (.invokevirtual 214, 3) := by decide +kernel
theorem dX6_isSelected_27 : decode cX6_isSelected 27 = .ok (.iload_n 1, 1) := by decide +kernel
theorem dX6_isSelected_28 : decode cX6_isSelected 28 = .ok (.iload_n 2, 1) := by decide +kernel
theorem dX6_isSelected_29 : decode cX6_isSelected 29 = .ok (.invokestatic 217, 3) := by decide +kernel
theorem dX6_isSelected_32 : decode cX6_isSelected 32 = .ok (.ifCond .eq 6, 3) := by decide +kernel
theorem dX6_isSelected_35 : decode cX6_isSelected 35 = .ok (.iinc 4 1, 3) := by decide +kernel
theorem dX6_isSelected_38 : decode cX6_isSelected 38 = .ok (.iinc 5 1, 3) := by decide +kernel
theorem dX6_isSelected_41 : decode cX6_isSelected 41 = .ok (.goto (-35), 3) := by decide +kernel
theorem dX6_isSelected_44 : decode cX6_isSelected 44 = .ok (.iload 4, 2) := by decide +kernel
theorem dX6_isSelected_46 : decode cX6_isSelected 46 = .ok (.ifCond .le 23, 3) := by decide +kernel
theorem dX6_isSelected_49 : decode cX6_isSelected 49 = .ok (.iload_n 3, 1) := by decide +kernel
theorem dX6_isSelected_50 : decode cX6_isSelected 50 = .ok (.ifCond .eq 15, 3) := by decide +kernel
theorem dX6_isSelected_53 : decode cX6_isSelected 53 = .ok (.iload 4, 2) := by decide +kernel
theorem dX6_isSelected_55 : decode cX6_isSelected 55 = .ok (.aload_n 0, 1) := by decide +kernel
theorem dX6_isSelected_56 : decode cX6_isSelected 56 = .ok (.getfield 46, 3) := by decide +kernel
theorem dX6_isSelected_59 : decode cX6_isSelected 59 = .ok (.getfield 211, 3) := by decide +kernel
theorem dX6_isSelected_62 : decode cX6_isSelected 62 = .ok (.if_icmp .ne 7, 3) := by decide +kernel
theorem dX6_isSelected_65 : decode cX6_isSelected 65 = .ok (.iconst 1, 1) := by decide +kernel
theorem dX6_isSelected_66 : decode cX6_isSelected 66 = .ok (.goto 4, 3) := by decide +kernel
theorem dX6_isSelected_69 : decode cX6_isSelected 69 = .ok (.iconst 0, 1) := by decide +kernel
theorem dX6_isSelected_70 : decode cX6_isSelected 70 = .ok (.ireturn, 1) := by decide +kernel
theorem dX6_passes_0 : decode cX6_passes 0 = .ok (.iload_n 1, 1) := by decide +kernel
theorem dX6_passes_1 : decode cX6_passes 1 = .ok (.lookupswitch 49 #[(0, 27), (1, 38)], 27) := by decide +kernel
theorem dX6_passes_28 : decode cX6_passes 28 = .ok (.iload_n 0, 1) := by decide +kernel
theorem dX6_passes_29 : decode cX6_passes 29 = .ok (.iload_n 2, 1) := by decide +kernel
theorem dX6_passes_30 : decode cX6_passes 30 = .ok (.if_icmp .ge 7, 3) := by decide +kernel
theorem dX6_passes_33 : decode cX6_passes 33 = .ok (.iconst 1, 1) := by decide +kernel
theorem dX6_passes_34 : decode cX6_passes 34 = .ok (.goto 4, 3) := by decide +kernel
theorem dX6_passes_37 : decode cX6_passes 37 = .ok (.iconst 0, 1) := by decide +kernel
theorem dX6_passes_38 : decode cX6_passes 38 = .ok (.ireturn, 1) := by decide +kernel
theorem dX6_passes_39 : decode cX6_passes 39 = .ok (.iload_n 0, 1) := by decide +kernel
theorem dX6_passes_40 : decode cX6_passes 40 = .ok (.iload_n 2, 1) := by decide +kernel
theorem dX6_passes_41 : decode cX6_passes 41 = .ok (.if_icmp .ne 7, 3) := by decide +kernel
theorem dX6_passes_44 : decode cX6_passes 44 = .ok (.iconst 1, 1) := by decide +kernel
theorem dX6_passes_45 : decode cX6_passes 45 = .ok (.goto 4, 3) := by decide +kernel
theorem dX6_passes_48 : decode cX6_passes 48 = .ok (.iconst 0, 1) := by decide +kernel
theorem dX6_passes_49 : decode cX6_passes 49 = .ok (.ireturn, 1) := by decide +kernel
theorem dX6_passes_50 : decode cX6_passes 50 = .ok (.iload_n 0, 1) := by decide +kernel
theorem dX6_passes_51 : decode cX6_passes 51 = .ok (.iload_n 2, 1) := by decide +kernel
theorem dX6_passes_52 : decode cX6_passes 52 = .ok (.if_icmp .le 7, 3) := by decide +kernel
theorem dX6_passes_55 : decode cX6_passes 55 = .ok (.iconst 1, 1) := by decide +kernel
theorem dX6_passes_56 : decode cX6_passes 56 = .ok (.goto 4, 3) := by decide +kernel
theorem dX6_passes_59 : decode cX6_passes 59 = .ok (.iconst 0, 1) := by decide +kernel
theorem dX6_passes_60 : decode cX6_passes 60 = .ok (.ireturn, 1) := by decide +kernel
theorem dX6_combine_0 : decode cX6_combine 0 = .ok (.iload_n 2, 1) := by decide +kernel
theorem dX6_combine_1 : decode cX6_combine 1 = .ok (.bipush 8, 2) := by decide +kernel
theorem dX6_combine_3 : decode cX6_combine 3 = .ok (.invokestatic 57, 3) := by decide +kernel
theorem dX6_combine_6 : decode cX6_combine 6 = .ok (.ifCond .eq 22, 3) := by decide +kernel
theorem dX6_combine_9 : decode cX6_combine 9 = .ok (.iload_n 3, 1) := by decide +kernel
theorem dX6_combine_10 : decode cX6_combine 10 = .ok (.bipush 8, 2) := by decide +kernel
theorem dX6_combine_12 : decode cX6_combine 12 = .ok (.invokestatic 57, 3) := by decide +kernel
theorem dX6_combine_15 : decode cX6_combine 15 = .ok (.ifCond .eq 13, 3) := by decide +kernel
theorem dX6_combine_18 : decode cX6_combine 18 = .ok (.iload 4, 2) := by decide +kernel
theorem dX6_combine_20 : decode cX6_combine 20 = .ok (.bipush 8, 2) := by decide +kernel
theorem dX6_combine_22 : decode cX6_combine 22 = .ok (.invokestatic 57, 3) := by decide +kernel
theorem dX6_combine_25 : decode cX6_combine 25 = .ok (.ifCond .ne 6, 3) := by decide +kernel
theorem dX6_combine_28 : decode cX6_combine 28 = .ok (.ldc 77, 2) := by decide +kernel
theorem dX6_combine_30 : decode cX6_combine 30 = .ok (.ireturn, 1) := by decide +kernel
theorem dX6_combine_31 : decode cX6_combine 31 = .ok (.iload_n 1, 1) := by decide +kernel
theorem dX6_combine_32 : decode cX6_combine 32 = .ok (.ifCond .lt 8, 3) := by decide +kernel
theorem dX6_combine_35 : decode cX6_combine 35 = .ok (.iload_n 1, 1) := by decide +kernel
theorem dX6_combine_36 : decode cX6_combine 36 = .ok (.iconst 2, 1) := by decide +kernel
theorem dX6_combine_37 : decode cX6_combine 37 = .ok (.if_icmp .le 6, 3) := by decide +kernel
theorem dX6_combine_40 : decode cX6_combine 40 = .ok (.ldc 61, 2) := by decide +kernel
theorem dX6_combine_42 : decode cX6_combine 42 = .ok (.ireturn, 1) := by decide +kernel
theorem dX6_combine_43 : decode cX6_combine 43 = .ok (.aload_n 0, 1) := by decide +kernel
theorem dX6_combine_44 : decode cX6_combine 44 = .ok (.invokevirtual 71, 3) := by decide +kernel
theorem dX6_combine_47 : decode cX6_combine 47 = .ok (.iconst 0, 1) := by decide +kernel
theorem dX6_combine_48 : decode cX6_combine 48 = .ok (.istore 5, 2) := by decide +kernel
theorem dX6_combine_50 : decode cX6_combine 50 = .ok (.iload 5, 2) := by decide +kernel
theorem dX6_combine_52 : decode cX6_combine 52 = .ok (.bipush 100, 2) := by decide +kernel
theorem dX6_combine_54 : decode cX6_combine 54 = .ok (.if_icmp .ge 48, 3) := by decide +kernel
theorem dX6_combine_57 : decode cX6_combine 57 = .ok (.iload_n 1, 1) := by decide +kernel
theorem dX6_combine_58 : decode cX6_combine 58 = .ok (.aload_n 0, 1) := by decide +kernel
theorem dX6_combine_59 : decode cX6_combine 59 = .ok (.getfield 12, 3) := by decide +kernel
theorem dX6_combine_62 : decode cX6_combine 62 = .ok (.iload_n 2, 1) := by decide +kernel
theorem dX6_combine_63 : decode cX6_combine 63 = .ok (.iload 5, 2) := by decide +kernel
theorem dX6_combine_65 : decode cX6_combine 65 = .ok (.invokevirtual 220, 3) := by decide +kernel
theorem dX6_combine_68 : decode cX6_combine 68 = .ok (.aload_n 0, 1) := by decide +kernel
theorem dX6_combine_69 : decode cX6_combine 69 = .ok (.getfield 12, 3) := by decide +kernel
theorem dX6_combine_72 : decode cX6_combine 72 = .ok (.iload_n 3, 1) := by decide +kernel
theorem dX6_combine_73 : decode cX6_combine 73 = .ok (.iload 5, 2) := by decide +kernel
theorem dX6_combine_75 : decode cX6_combine 75 = .ok (.invokevirtual 220, 3) := by decide +kernel
theorem dX6_combine_78 : decode cX6_combine 78 = .ok (.invokestatic 223, 3) := by decide +kernel
theorem dX6_combine_81 : decode cX6_combine 81 = .ok (.istore 6, 2) := by decide +kernel
theorem dX6_combine_83 : decode cX6_combine 83 = .ok (.aload_n 0, 1) := by decide +kernel
theorem dX6_combine_84 : decode cX6_combine 84 = .ok (.getfield 12, 3) := by decide +kernel
theorem dX6_combine_87 : decode cX6_combine 87 = .ok (.iload 4, 2) := by decide +kernel
theorem dX6_combine_89 : decode cX6_combine 89 = .ok (.iload 5, 2) := by decide +kernel
theorem dX6_combine_91 : decode cX6_combine 91 = .ok (.iload 6, 2) := by decide +kernel
theorem dX6_combine_93 : decode cX6_combine 93 = .ok (.invokevirtual 204, 3) := by decide +kernel
theorem dX6_combine_96 : decode cX6_combine 96 = .ok (.iinc 5 1, 3) := by decide +kernel
theorem dX6_combine_99 : decode cX6_combine 99 = .ok (.goto (-49), 3) := by decide +kernel
theorem dX6_combine_102 : decode cX6_combine 102 = .ok (.aload_n 0, 1) := by decide +kernel
theorem dX6_combine_103 : decode cX6_combine 103 = .ok (.getfield 12, 3) := by decide +kernel
theorem dX6_combine_106 : decode cX6_combine 106 = .ok (.iload 4, 2) := by decide +kernel
theorem dX6_combine_108 : decode cX6_combine 108 = .ok (.invokevirtual 208, 3) := by decide +kernel
theorem dX6_combine_111 : decode cX6_combine 111 = .ok (.ireturn, 1) := by decide +kernel
theorem dX6_isCombined_0 : decode cX6_isCombined 0 = .ok (.iload_n 0, 1) := by decide +kernel
theorem dX6_isCombined_1 : decode cX6_isCombined 1 = .ok (.lookupswitch 55 #[(0, 27), (1, 41)], 27) := by decide +kernel
theorem dX6_isCombined_28 : decode cX6_isCombined 28 = .ok (.iload_n 1, 1) := by decide +kernel
theorem dX6_isCombined_29 : decode cX6_isCombined 29 = .ok (.ifCond .eq 11, 3) := by decide +kernel
theorem dX6_isCombined_32 : decode cX6_isCombined 32 = .ok (.iload_n 2, 1) := by decide +kernel
theorem dX6_isCombined_33 : decode cX6_isCombined 33 = .ok (.ifCond .eq 7, 3) := by decide +kernel
theorem dX6_isCombined_36 : decode cX6_isCombined 36 = .ok (.iconst 1, 1) := by decide +kernel
theorem dX6_isCombined_37 : decode cX6_isCombined 37 = .ok (.goto 4, 3) := by decide +kernel
theorem dX6_isCombined_40 : decode cX6_isCombined 40 = .ok (.iconst 0, 1) := by decide +kernel
