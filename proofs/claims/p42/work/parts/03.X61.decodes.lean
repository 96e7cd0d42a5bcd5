theorem dX6_isCombined_41 : decode cX6_isCombined 41 = .ok (.ireturn, 1) := by decide +kernel
theorem dX6_isCombined_42 : decode cX6_isCombined 42 = .ok (.iload_n 1, 1) := by decide +kernel
theorem dX6_isCombined_43 : decode cX6_isCombined 43 = .ok (.ifCond .ne 7, 3) := by decide +kernel
theorem dX6_isCombined_46 : decode cX6_isCombined 46 = .ok (.iload_n 2, 1) := by decide +kernel
theorem dX6_isCombined_47 : decode cX6_isCombined 47 = .ok (.ifCond .eq 7, 3) := by decide +kernel
theorem dX6_isCombined_50 : decode cX6_isCombined 50 = .ok (.iconst 1, 1) := by decide +kernel
theorem dX6_isCombined_51 : decode cX6_isCombined 51 = .ok (.goto 4, 3) := by decide +kernel
theorem dX6_isCombined_54 : decode cX6_isCombined 54 = .ok (.iconst 0, 1) := by decide +kernel
theorem dX6_isCombined_55 : decode cX6_isCombined 55 = .ok (.ireturn, 1) := by decide +kernel
theorem dX6_isCombined_56 : decode cX6_isCombined 56 = .ok (.iload_n 1, 1) := by decide +kernel
theorem dX6_isCombined_57 : decode cX6_isCombined 57 = .ok (.ifCond .eq 11, 3) := by decide +kernel
theorem dX6_isCombined_60 : decode cX6_isCombined 60 = .ok (.iload_n 2, 1) := by decide +kernel
theorem dX6_isCombined_61 : decode cX6_isCombined 61 = .ok (.ifCond .ne 7, 3) := by decide +kernel
theorem dX6_isCombined_64 : decode cX6_isCombined 64 = .ok (.iconst 1, 1) := by decide +kernel
theorem dX6_isCombined_65 : decode cX6_isCombined 65 = .ok (.goto 4, 3) := by decide +kernel
theorem dX6_isCombined_68 : decode cX6_isCombined 68 = .ok (.iconst 0, 1) := by decide +kernel
theorem dX6_isCombined_69 : decode cX6_isCombined 69 = .ok (.ireturn, 1) := by decide +kernel
theorem dX6_clearList_0 : decode cX6_clearList 0 = .ok (.iload_n 1, 1) := by decide +kernel
theorem dX6_clearList_1 : decode cX6_clearList 1 = .ok (.bipush 8, 2) := by decide +kernel
theorem dX6_clearList_3 : decode cX6_clearList 3 = .ok (.invokestatic 57, 3) := by decide +kernel
theorem dX6_clearList_6 : decode cX6_clearList 6 = .ok (.ifCond .ne 6, 3) := by decide +kernel
theorem dX6_clearList_9 : decode cX6_clearList 9 = .ok (.ldc 77, 2) := by decide +kernel
theorem dX6_clearList_11 : decode cX6_clearList 11 = .ok (.ireturn, 1) := by decide +kernel
theorem dX6_clearList_12 : decode cX6_clearList 12 = .ok (.aload_n 0, 1) := by decide +kernel
theorem dX6_clearList_13 : decode cX6_clearList 13 = .ok (.getfield 12, 3) := by decide +kernel
theorem dX6_clearList_16 : decode cX6_clearList 16 = .ok (.iload_n 1, 1) := by decide +kernel
theorem dX6_clearList_17 : decode cX6_clearList 17 = .ok (.invokevirtual 208, 3) := by decide +kernel
theorem dX6_clearList_20 : decode cX6_clearList 20 = .ok (.istore_n 2, 1) := by decide +kernel
theorem dX6_clearList_21 : decode cX6_clearList 21 = .ok (.aload_n 0, 1) := by decide +kernel
theorem dX6_clearList_22 : decode cX6_clearList 22 = .ok (.invokevirtual 71, 3) := by decide +kernel
theorem dX6_clearList_25 : decode cX6_clearList 25 = .ok (.aload_n 0, 1) := by decide +kernel
theorem dX6_clearList_26 : decode cX6_clearList 26 = .ok (.getfield 12, 3) := by decide +kernel
theorem dX6_clearList_29 : decode cX6_clearList 29 = .ok (.iload_n 1, 1) := by decide +kernel
theorem dX6_clearList_30 : decode cX6_clearList 30 = .ok (.invokevirtual 186, 3) := by decide +kernel
theorem dX6_clearList_33 : decode cX6_clearList 33 = .ok (.iload_n 2, 1) := by decide +kernel
theorem dX6_clearList_34 : decode cX6_clearList 34 = .ok (.ireturn, 1) := by decide +kernel
theorem dX6_append_0 : decode cX6_append 0 = .ok (.iload_n 1, 1) := by decide +kernel
theorem dX6_append_1 : decode cX6_append 1 = .ok (.bipush 32, 2) := by decide +kernel
theorem dX6_append_3 : decode cX6_append 3 = .ok (.if_icmp .lt 9, 3) := by decide +kernel
theorem dX6_append_6 : decode cX6_append 6 = .ok (.iload_n 1, 1) := by decide +kernel
theorem dX6_append_7 : decode cX6_append 7 = .ok (.bipush 126, 2) := by decide +kernel
theorem dX6_append_9 : decode cX6_append 9 = .ok (.if_icmp .le 6, 3) := by decide +kernel
theorem dX6_append_12 : decode cX6_append 12 = .ok (.ldc 61, 2) := by decide +kernel
theorem dX6_append_14 : decode cX6_append 14 = .ok (.ireturn, 1) := by decide +kernel
theorem dX6_append_15 : decode cX6_append 15 = .ok (.aload_n 0, 1) := by decide +kernel
theorem dX6_append_16 : decode cX6_append 16 = .ok (.getfield 29, 3) := by decide +kernel
theorem dX6_append_19 : decode cX6_append 19 = .ok (.getfield 227, 3) := by decide +kernel
theorem dX6_append_22 : decode cX6_append 22 = .ok (.bipush 90, 2) := by decide +kernel
theorem dX6_append_24 : decode cX6_append 24 = .ok (.if_icmp .lt 6, 3) := by decide +kernel
theorem dX6_append_27 : decode cX6_append 27 = .ok (.ldc 70, 2) := by decide +kernel
theorem dX6_append_29 : decode cX6_append 29 = .ok (.ireturn, 1) := by decide +kernel
theorem dX6_append_30 : decode cX6_append 30 = .ok (.aload_n 0, 1) := by decide +kernel
theorem dX6_append_31 : decode cX6_append 31 = .ok (.getfield 29, 3) := by decide +kernel
theorem dX6_append_34 : decode cX6_append 34 = .ok (.iload_n 1, 1) := by decide +kernel
theorem dX6_append_35 : decode cX6_append 35 = .ok (.invokevirtual 230, 3) := by decide +kernel
theorem dX6_append_38 : decode cX6_append 38 = .ok (.aload_n 0, 1) := by decide +kernel
theorem dX6_append_39 : decode cX6_append 39 = .ok (.getfield 29, 3) := by decide +kernel
theorem dX6_append_42 : decode cX6_append 42 = .ok (.getfield 227, 3) := by decide +kernel
theorem dX6_append_45 : decode cX6_append 45 = .ok (.ireturn, 1) := by decide +kernel
theorem dX6_clearText_0 : decode cX6_clearText 0 = .ok (.aload_n 0, 1) := by decide +kernel
theorem dX6_clearText_1 : decode cX6_clearText 1 = .ok (.getfield 29, 3) := by decide +kernel
theorem dX6_clearText_4 : decode cX6_clearText 4 = .ok (.getfield 227, 3) := by decide +kernel
theorem dX6_clearText_7 : decode cX6_clearText 7 = .ok (.istore_n 1, 1) := by decide +kernel
theorem dX6_clearText_8 : decode cX6_clearText 8 = .ok (.aload_n 0, 1) := by decide +kernel
theorem dX6_clearText_9 : decode cX6_clearText 9 = .ok (.getfield 29, 3) := by decide +kernel
theorem dX6_clearText_12 : decode cX6_clearText 12 = .ok (.iconst 0, 1) := by decide +kernel
theorem dX6_clearText_13 : decode cX6_clearText 13 = .ok (.putfield 227, 3) := by decide +kernel
theorem dX6_clearText_16 : decode cX6_clearText 16 = .ok (.iload_n 1, 1) := by decide +kernel
theorem dX6_clearText_17 : decode cX6_clearText 17 = .ok (.ireturn, 1) := by decide +kernel
theorem dX6_fault_0 : decode cX6_fault 0 = .ok (.aload_n 0, 1) := by decide +kernel
theorem dX6_fault_1 : decode cX6_fault 1 = .ok (.getfield 39, 3) := by decide +kernel
theorem dX6_fault_4 : decode cX6_fault 4 = .ok (.aload_n 0, 1) := by decide +kernel
theorem dX6_fault_5 : decode cX6_fault 5 = .ok (.getfield 29, 3) := by decide +kernel
theorem dX6_fault_8 : decode cX6_fault 8 = .ok (.invokevirtual 157, 3) := by decide +kernel
theorem dX6_fault_11 : decode cX6_fault 11 = .ok (.ireturn, 1) := by decide +kernel
theorem dX6_print_0 : decode cX6_print 0 = .ok (.aload_n 0, 1) := by decide +kernel
theorem dX6_print_1 : decode cX6_print 1 = .ok (.getfield 12, 3) := by decide +kernel
theorem dX6_print_4 : decode cX6_print 4 = .ok (.iload_n 1, 1) := by decide +kernel
theorem dX6_print_5 : decode cX6_print 5 = .ok (.invokevirtual 62, 3) := by decide +kernel
theorem dX6_print_8 : decode cX6_print 8 = .ok (.astore_n 2, 1) := by decide +kernel
theorem dX6_print_9 : decode cX6_print 9 = .ok (.aload_n 2, 1) := by decide +kernel
theorem dX6_print_10 : decode cX6_print 10 = .ok (.ifnonnull 6, 3) := by decide +kernel
theorem dX6_print_13 : decode cX6_print 13 = .ok (.ldc 77, 2) := by decide +kernel
theorem dX6_print_15 : decode cX6_print 15 = .ok (.ireturn, 1) := by decide +kernel
theorem dX6_print_16 : decode cX6_print 16 = .ok (.aload_n 0, 1) := by decide +kernel
theorem dX6_print_17 : decode cX6_print 17 = .ok (.getfield 33, 3) := by decide +kernel
theorem dX6_print_20 : decode cX6_print 20 = .ok (.iconst 0, 1) := by decide +kernel
theorem dX6_print_21 : decode cX6_print 21 = .ok (.putfield 227, 3) := by decide +kernel
theorem dX6_print_24 : decode cX6_print 24 = .ok (.iconst 0, 1) := by decide +kernel
theorem dX6_print_25 : decode cX6_print 25 = .ok (.istore_n 3, 1) := by decide +kernel
theorem dX6_print_26 : decode cX6_print 26 = .ok (.iload_n 3, 1) := by decide +kernel
theorem dX6_print_27 : decode cX6_print 27 = .ok (.iconst 4, 1) := by decide +kernel
theorem dX6_print_28 : decode cX6_print 28 = .ok (.if_icmp .ge 28, 3) := by decide +kernel
theorem dX6_print_31 : decode cX6_print 31 = .ok (.iload_n 3, 1) := by decide +kernel
theorem dX6_print_32 : decode cX6_print 32 = .ok (.ifCond .le 12, 3) := by decide +kernel
theorem dX6_print_35 : decode cX6_print 35 = .ok (.aload_n 0, 1) := by decide +kernel
theorem dX6_print_36 : decode cX6_print 36 = .ok (.getfield 33, 3) := by decide +kernel
theorem dX6_print_39 : decode cX6_print 39 = .ok (.bipush 94, 2) := by decide +kernel
theorem dX6_print_41 : decode cX6_print 41 = .ok (.invokevirtual 230, 3) := by decide +kernel
theorem dX6_print_44 : decode cX6_print 44 = .ok (.aload_n 0, 1) := by decide +kernel
theorem dX6_print_45 : decode cX6_print 45 = .ok (.aload_n 2, 1) := by decide +kernel
theorem dX6_print_46 : decode cX6_print 46 = .ok (.iload_n 3, 1) := by decide +kernel
theorem dX6_print_47 : decode cX6_print 47 = .ok (.invokevirtual 233, 3) := by decide +kernel
theorem dX6_print_50 : decode cX6_print 50 = .ok (.iinc 3 1, 3) := by decide +kernel
theorem dX6_print_53 : decode cX6_print 53 = .ok (.goto (-27), 3) := by decide +kernel
theorem dX6_print_56 : decode cX6_print 56 = .ok (.aload_n 0, 1) := by decide +kernel
theorem dX6_print_57 : decode cX6_print 57 = .ok (.getfield 33, 3) := by decide +kernel
theorem dX6_print_60 : decode cX6_print 60 = .ok (.getfield 227, 3) := by decide +kernel
theorem dX6_print_63 : decode cX6_print 63 = .ok (.ireturn, 1) := by decide +kernel
theorem dX6_printField_0 : decode cX6_printField 0 = .ok (.iconst 0, 1) := by decide +kernel
theorem dX6_printField_1 : decode cX6_printField 1 = .ok (.istore_n 3, 1) := by decide +kernel
theorem dX6_printField_2 : decode cX6_printField 2 = .ok (.iload_n 3, 1) := by decide +kernel
theorem dX6_printField_3 : decode cX6_printField 3 = .ok (.aload_n 1, 1) := by decide +kernel
theorem dX6_printField_4 : decode cX6_printField 4 = .ok (.iload_n 2, 1) := by decide +kernel
theorem dX6_printField_5 : decode cX6_printField 5 = .ok (.invokevirtual 111, 3) := by decide +kernel
theorem dX6_printField_8 : decode cX6_printField 8 = .ok (.if_icmp .ge 74, 3) := by decide +kernel
theorem dX6_printField_11 : decode cX6_printField 11 = .ok (.iconst 0, 1) := by decide +kernel
theorem dX6_printField_12 : decode cX6_printField 12 = .ok (.istore 4, 2) := by decide +kernel
theorem dX6_printField_14 : decode cX6_printField 14 = .ok (.iload 4, 2) := by decide +kernel
theorem dX6_printField_16 : decode cX6_printField 16 = .ok (.aload_n 1, 1) := by decide +kernel
theorem dX6_printField_17 : decode cX6_printField 17 = .ok (.iload_n 2, 1) := by decide +kernel
theorem dX6_printField_18 : decode cX6_printField 18 = .ok (.iload_n 3, 1) := by decide +kernel
theorem dX6_printField_19 : decode cX6_printField 19 = .ok (.invokevirtual 118, 3) := by decide +kernel
theorem dX6_printField_22 : decode cX6_printField 22 = .ok (.if_icmp .ge 54, 3) := by decide +kernel
theorem dX6_printField_25 : decode cX6_printField 25 = .ok (.iload 4, 2) := by decide +kernel
theorem dX6_printField_27 : decode cX6_printField 27 = .ok (.ifCond .le 15, 3) := by decide +kernel
theorem dX6_printField_30 : decode cX6_printField 30 = .ok (.aload_n 0, 1) := by decide +kernel
theorem dX6_printField_31 : decode cX6_printField 31 = .ok (.getfield 33, 3) := by decide +kernel
theorem dX6_printField_34 : decode cX6_printField 34 = .ok (.bipush 47, 2) := by decide +kernel
theorem dX6_printField_36 : decode cX6_printField 36 = .ok (.invokevirtual 230, 3) := by decide +kernel
theorem dX6_printField_39 : decode cX6_printField 39 = .ok (.goto 16, 3) := by decide +kernel
theorem dX6_printField_42 : decode cX6_printField 42 = .ok (.iload_n 3, 1) := by decide +kernel
theorem dX6_printField_43 : decode cX6_printField 43 = .ok (.ifCond .le 12, 3) := by decide +kernel
theorem dX6_printField_46 : decode cX6_printField 46 = .ok (.aload_n 0, 1) := by decide +kernel
theorem dX6_printField_47 : decode cX6_printField 47 = .ok (.getfield 33, 3) := by decide +kernel
theorem dX6_printField_50 : decode cX6_printField 50 = .ok (.bipush 93, 2) := by decide +kernel
theorem dX6_printField_52 : decode cX6_printField 52 = .ok (.invokevirtual 230, 3) := by decide +kernel
theorem dX6_printField_55 : decode cX6_printField 55 = .ok (.aload_n 0, 1) := by decide +kernel
theorem dX6_printField_56 : decode cX6_printField 56 = .ok (.getfield 33, 3) := by decide +kernel
theorem dX6_printField_59 : decode cX6_printField 59 = .ok (.aload_n 1, 1) := by decide +kernel
theorem dX6_printField_60 : decode cX6_printField 60 = .ok (.iload_n 2, 1) := by decide +kernel
theorem dX6_printField_61 : decode cX6_printField 61 = .ok (.iload_n 3, 1) := by decide +kernel
theorem dX6_printField_62 : decode cX6_printField 62 = .ok (.iload 4, 2) := by decide +kernel
theorem dX6_printField_64 : decode cX6_printField 64 = .ok (.invokevirtual 129, 3) := by decide +kernel
theorem dX6_printField_67 : decode cX6_printField 67 = .ok (.invokevirtual 237, 3) := by decide +kernel
theorem dX6_printField_70 : decode cX6_printField 70 = .ok (.iinc 4 1, 3) := by decide +kernel
theorem dX6_printField_73 : decode cX6_printField 73 = .ok (.goto (-59), 3) := by decide +kernel
theorem dX6_printField_76 : decode cX6_printField 76 = .ok (.iinc 3 1, 3) := by decide +kernel
theorem dX6_printField_79 : decode cX6_printField 79 = .ok (.goto (-77), 3) := by decide +kernel
theorem dX6_printField_82 : decode cX6_printField 82 = .ok (.return_, 1) := by decide +kernel
theorem dX6_undo_0 : decode cX6_undo 0 = .ok (.aload_n 0, 1) := by decide +kernel
theorem dX6_undo_1 : decode cX6_undo 1 = .ok (.getfield 20, 3) := by decide +kernel
theorem dX6_undo_4 : decode cX6_undo 4 = .ok (.ifCond .gt 6, 3) := by decide +kernel
theorem dX6_undo_7 : decode cX6_undo 7 = .ok (.ldc 95, 2) := by decide +kernel
theorem dX6_undo_9 : decode cX6_undo 9 = .ok (.ireturn, 1) := by decide +kernel
theorem dX6_undo_10 : decode cX6_undo 10 = .ok (.aload_n 0, 1) := by decide +kernel
theorem dX6_undo_11 : decode cX6_undo 11 = .ok (.dup, 1) := by decide +kernel
theorem dX6_undo_12 : decode cX6_undo 12 = .ok (.getfield 20, 3) := by decide +kernel
theorem dX6_undo_15 : decode cX6_undo 15 = .ok (.iconst 1, 1) := by decide +kernel
theorem dX6_undo_16 : decode cX6_undo 16 = .ok (.isub, 1) := by decide +kernel
theorem dX6_undo_17 : decode cX6_undo 17 = .ok (.putfield 20, 3) := by decide +kernel
theorem dX6_undo_20 : decode cX6_undo 20 = .ok (.aload_n 0, 1) := by decide +kernel
theorem dX6_undo_21 : decode cX6_undo 21 = .ok (.getfield 12, 3) := by decide +kernel
theorem dX6_undo_24 : decode cX6_undo 24 = .ok (.aload_n 0, 1) := by decide +kernel
theorem dX6_undo_25 : decode cX6_undo 25 = .ok (.getfield 16, 3) := by decide +kernel
theorem dX6_undo_28 : decode cX6_undo 28 = .ok (.aload_n 0, 1) := by decide +kernel
theorem dX6_undo_29 : decode cX6_undo 29 = .ok (.getfield 20, 3) := by decide +kernel
theorem dX6_undo_32 : decode cX6_undo 32 = .ok (.aaload, 1) := by decide +kernel
theorem dX6_undo_33 : decode cX6_undo 33 = .ok (.invokevirtual 241, 3) := by decide +kernel
theorem dX6_undo_36 : decode cX6_undo 36 = .ok (.aload_n 0, 1) := by decide +kernel
theorem dX6_undo_37 : decode cX6_undo 37 = .ok (.getfield 20, 3) := by decide +kernel
theorem dX6_undo_40 : decode cX6_undo 40 = .ok (.ireturn, 1) := by decide +kernel
theorem dX6_remember_0 : decode cX6_remember 0 = .ok (.aload_n 0, 1) := by decide +kernel
theorem dX6_remember_1 : decode cX6_remember 1 = .ok (.getfield 20, 3) := by decide +kernel
theorem dX6_remember_4 : decode cX6_remember 4 = .ok (.iconst 4, 1) := by decide +kernel
theorem dX6_remember_5 : decode cX6_remember 5 = .ok (.if_icmp .lt 7, 3) := by decide +kernel
theorem dX6_remember_8 : decode cX6_remember 8 = .ok (.aload_n 0, 1) := by decide +kernel
theorem dX6_remember_9 : decode cX6_remember 9 = .ok (.invokevirtual 245, 3) := by decide +kernel
theorem dX6_remember_12 : decode cX6_remember 12 = .ok (.aload_n 0, 1) := by decide +kernel
theorem dX6_remember_13 : decode cX6_remember 13 = .ok (.getfield 16, 3) := by decide +kernel
theorem dX6_remember_16 : decode cX6_remember 16 = .ok (.aload_n 0, 1) := by decide +kernel
theorem dX6_remember_17 : decode cX6_remember 17 = .ok (.getfield 20, 3) := by decide +kernel
theorem dX6_remember_20 : decode cX6_remember 20 = .ok (.aaload, 1) := by decide +kernel
theorem dX6_remember_21 : decode cX6_remember 21 = .ok (.aload_n 0, 1) := by decide +kernel
theorem dX6_remember_22 : decode cX6_remember 22 = .ok (.getfield 12, 3) := by decide +kernel
theorem dX6_remember_25 : decode cX6_remember 25 = .ok (.invokevirtual 241, 3) := by decide +kernel
theorem dX6_remember_28 : decode cX6_remember 28 = .ok (.aload_n 0, 1) := by decide +kernel
theorem dX6_remember_29 : decode cX6_remember 29 = .ok (.dup, 1) := by decide +kernel
theorem dX6_remember_30 : decode cX6_remember 30 = .ok (.getfield 20, 3) := by decide +kernel
theorem dX6_remember_33 : decode cX6_remember 33 = .ok (.iconst 1, 1) := by decide +kernel
theorem dX6_remember_34 : decode cX6_remember 34 = .ok (.iadd, 1) := by decide +kernel
theorem dX6_remember_35 : decode cX6_remember 35 = .ok (.putfield 20, 3) := by decide +kernel
theorem dX6_remember_38 : decode cX6_remember 38 = .ok (.return_, 1) := by decide +kernel
theorem dX6_dropOldest_0 : decode cX6_dropOldest 0 = .ok (.aload_n 0, 1) := by decide +kernel
theorem dX6_dropOldest_1 : decode cX6_dropOldest 1 = .ok (.getfield 16, 3) := by decide +kernel
theorem dX6_dropOldest_4 : decode cX6_dropOldest 4 = .ok (.iconst 0, 1) := by decide +kernel
theorem dX6_dropOldest_5 : decode cX6_dropOldest 5 = .ok (.aaload, 1) := by decide +kernel
theorem dX6_dropOldest_6 : decode cX6_dropOldest 6 = .ok (.astore_n 1, 1) := by decide +kernel
theorem dX6_dropOldest_7 : decode cX6_dropOldest 7 = .ok (.iconst 1, 1) := by decide +kernel
theorem dX6_dropOldest_8 : decode cX6_dropOldest 8 = .ok (.istore_n 2, 1) := by decide +kernel
theorem dX6_dropOldest_9 : decode cX6_dropOldest 9 = .ok (.iload_n 2, 1) := by decide +kernel
theorem dX6_dropOldest_10 : decode cX6_dropOldest 10 = .ok (.iconst 4, 1) := by decide +kernel
theorem dX6_dropOldest_11 : decode cX6_dropOldest 11 = .ok (.if_icmp .ge 23, 3) := by decide +kernel
theorem dX6_dropOldest_14 : decode cX6_dropOldest 14 = .ok (.aload_n 0, 1) := by decide +kernel
theorem dX6_dropOldest_15 : decode cX6_dropOldest 15 = .ok (.getfield 16, 3) := by decide +kernel
theorem dX6_dropOldest_18 : decode cX6_dropOldest 18 = .ok (.iload_n 2, 1) := by decide +kernel
theorem dX6_dropOldest_19 : decode cX6_dropOldest 19 = .ok (.iconst 1, 1) := by decide +kernel
theorem dX6_dropOldest_20 : decode cX6_dropOldest 20 = .ok (.isub, 1) := by decide +kernel
theorem dX6_dropOldest_21 : decode cX6_dropOldest 21 = .ok (.aload_n 0, 1) := by decide +kernel
theorem dX6_dropOldest_22 : decode cX6_dropOldest 22 = .ok (.getfield 16, 3) := by decide +kernel
theorem dX6_dropOldest_25 : decode cX6_dropOldest 25 = .ok (.iload_n 2, 1) := by decide +kernel
theorem dX6_dropOldest_26 : decode cX6_dropOldest 26 = .ok (.aaload, 1) := by decide +kernel
theorem dX6_dropOldest_27 : decode cX6_dropOldest 27 = .ok (.aastore, 1) := by decide +kernel
theorem dX6_dropOldest_28 : decode cX6_dropOldest 28 = .ok (.iinc 2 1, 3) := by decide +kernel
theorem dX6_dropOldest_31 : decode cX6_dropOldest 31 = .ok (.goto (-22), 3) := by decide +kernel
theorem dX6_dropOldest_34 : decode cX6_dropOldest 34 = .ok (.aload_n 0, 1) := by decide +kernel
theorem dX6_dropOldest_35 : decode cX6_dropOldest 35 = .ok (.getfield 16, 3) := by decide +kernel
theorem dX6_dropOldest_38 : decode cX6_dropOldest 38 = .ok (.iconst 3, 1) := by decide +kernel
theorem dX6_dropOldest_39 : decode cX6_dropOldest 39 = .ok (.aload_n 1, 1) := by decide +kernel
theorem dX6_dropOldest_40 : decode cX6_dropOldest 40 = .ok (.aastore, 1) := by decide +kernel
theorem dX6_dropOldest_41 : decode cX6_dropOldest 41 = .ok (.aload_n 0, 1) := by decide +kernel
theorem dX6_dropOldest_42 : decode cX6_dropOldest 42 = .ok (.iconst 3, 1) := by decide +kernel
theorem dX6_dropOldest_43 : decode cX6_dropOldest 43 = .ok (.putfield 20, 3) := by decide +kernel
theorem dX6_dropOldest_46 : decode cX6_dropOldest 46 = .ok (.return_, 1) := by decide +kernel
theorem dX6_records_0 : decode cX6_records 0 = .ok (.aload_n 0, 1) := by decide +kernel
theorem dX6_records_1 : decode cX6_records 1 = .ok (.getfield 12, 3) := by decide +kernel
theorem dX6_records_4 : decode cX6_records 4 = .ok (.getfield 67, 3) := by decide +kernel
theorem dX6_records_7 : decode cX6_records 7 = .ok (.ireturn, 1) := by decide +kernel
theorem dX6_recordAt_0 : decode cX6_recordAt 0 = .ok (.iload_n 1, 1) := by decide +kernel
theorem dX6_recordAt_1 : decode cX6_recordAt 1 = .ok (.ifCond .ge 6, 3) := by decide +kernel
theorem dX6_recordAt_4 : decode cX6_recordAt 4 = .ok (.ldc 61, 2) := by decide +kernel
theorem dX6_recordAt_6 : decode cX6_recordAt 6 = .ok (.ireturn, 1) := by decide +kernel
theorem dX6_recordAt_7 : decode cX6_recordAt 7 = .ok (.iload_n 1, 1) := by decide +kernel
theorem dX6_recordAt_8 : decode cX6_recordAt 8 = .ok (.aload_n 0, 1) := by decide +kernel
theorem dX6_recordAt_9 : decode cX6_recordAt 9 = .ok (.getfield 12, 3) := by decide +kernel
theorem dX6_recordAt_12 : decode cX6_recordAt 12 = .ok (.getfield 67, 3) := by decide +kernel
theorem dX6_recordAt_15 : decode cX6_recordAt 15 = .ok (.if_icmp .lt 6, 3) := by decide +kernel
theorem dX6_recordAt_18 : decode cX6_recordAt 18 = .ok (.ldc 95, 2) := by decide +kernel
theorem dX6_recordAt_20 : decode cX6_recordAt 20 = .ok (.ireturn, 1) := by decide +kernel
theorem dX6_recordAt_21 : decode cX6_recordAt 21 = .ok (.aload_n 0, 1) := by decide +kernel
theorem dX6_recordAt_22 : decode cX6_recordAt 22 = .ok (.getfield 12, 3) := by decide +kernel
theorem dX6_recordAt_25 : decode cX6_recordAt 25 = .ok (.getfield 189, 3) := by decide +kernel
theorem dX6_recordAt_28 : decode cX6_recordAt 28 = .ok (.iload_n 1, 1) := by decide +kernel
theorem dX6_recordAt_29 : decode cX6_recordAt 29 = .ok (.aaload, 1) := by decide +kernel
theorem dX6_recordAt_30 : decode cX6_recordAt 30 = .ok (.getfield 201, 3) := by decide +kernel
theorem dX6_recordAt_33 : decode cX6_recordAt 33 = .ok (.ireturn, 1) := by decide +kernel
theorem dX6_locker_0 : decode cX6_locker 0 = .ok (.aload_n 0, 1) := by decide +kernel
theorem dX6_locker_1 : decode cX6_locker 1 = .ok (.getfield 12, 3) := by decide +kernel
theorem dX6_locker_4 : decode cX6_locker 4 = .ok (.iload_n 1, 1) := by decide +kernel
theorem dX6_locker_5 : decode cX6_locker 5 = .ok (.invokevirtual 62, 3) := by decide +kernel
theorem dX6_locker_8 : decode cX6_locker 8 = .ok (.astore_n 2, 1) := by decide +kernel
theorem dX6_locker_9 : decode cX6_locker 9 = .ok (.aload_n 2, 1) := by decide +kernel
theorem dX6_locker_10 : decode cX6_locker 10 = .ok (.ifnonnull 6, 3) := by decide +kernel
theorem dX6_locker_13 : decode cX6_locker 13 = .ok (.ldc 77, 2) := by decide +kernel
theorem dX6_locker_15 : decode cX6_locker 15 = .ok (.ireturn, 1) := by decide +kernel
theorem dX6_locker_16 : decode cX6_locker 16 = .ok (.aload_n 2, 1) := by decide +kernel
theorem dX6_locker_17 : decode cX6_locker 17 = .ok (.getfield 88, 3) := by decide +kernel
theorem dX6_locker_20 : decode cX6_locker 20 = .ok (.ireturn, 1) := by decide +kernel
theorem dX6_values_0 : decode cX6_values 0 = .ok (.aload_n 0, 1) := by decide +kernel
theorem dX6_values_1 : decode cX6_values 1 = .ok (.getfield 12, 3) := by decide +kernel
theorem dX6_values_4 : decode cX6_values 4 = .ok (.iload_n 1, 1) := by decide +kernel
theorem dX6_values_5 : decode cX6_values 5 = .ok (.invokevirtual 62, 3) := by decide +kernel
theorem dX6_values_8 : decode cX6_values 8 = .ok (.astore_n 3, 1) := by decide +kernel
theorem dX6_values_9 : decode cX6_values 9 = .ok (.aload_n 3, 1) := by decide +kernel
theorem dX6_values_10 : decode cX6_values 10 = .ok (.ifnull 11, 3) := by decide +kernel
theorem dX6_values_13 : decode cX6_values 13 = .ok (.iload_n 2, 1) := by decide +kernel
theorem dX6_values_14 : decode cX6_values 14 = .ok (.iconst 4, 1) := by decide +kernel
theorem dX6_values_15 : decode cX6_values 15 = .ok (.invokestatic 57, 3) := by decide +kernel
theorem dX6_values_18 : decode cX6_values 18 = .ok (.ifCond .ne 6, 3) := by decide +kernel
theorem dX6_values_21 : decode cX6_values 21 = .ok (.ldc 77, 2) := by decide +kernel
theorem dX6_values_23 : decode cX6_values 23 = .ok (.ireturn, 1) := by decide +kernel
theorem dX6_values_24 : decode cX6_values 24 = .ok (.aload_n 3, 1) := by decide +kernel
theorem dX6_values_25 : decode cX6_values 25 = .ok (.iload_n 2, 1) := by decide +kernel
theorem dX6_values_26 : decode cX6_values 26 = .ok (.invokevirtual 111, 3) := by decide +kernel
theorem dX6_values_29 : decode cX6_values 29 = .ok (.ireturn, 1) := by decide +kernel
theorem dX6_subvalues_0 : decode cX6_subvalues 0 = .ok (.aload_n 0, 1) := by decide +kernel
theorem dX6_subvalues_1 : decode cX6_subvalues 1 = .ok (.getfield 12, 3) := by decide +kernel
theorem dX6_subvalues_4 : decode cX6_subvalues 4 = .ok (.iload_n 1, 1) := by decide +kernel
theorem dX6_subvalues_5 : decode cX6_subvalues 5 = .ok (.invokevirtual 62, 3) := by decide +kernel
theorem dX6_subvalues_8 : decode cX6_subvalues 8 = .ok (.astore 4, 2) := by decide +kernel
theorem dX6_subvalues_10 : decode cX6_subvalues 10 = .ok (.aload 4, 2) := by decide +kernel
theorem dX6_subvalues_12 : decode cX6_subvalues 12 = .ok (.ifnull 13, 3) := by decide +kernel
theorem dX6_subvalues_15 : decode cX6_subvalues 15 = .ok (.aload 4, 2) := by decide +kernel
theorem dX6_subvalues_17 : decode cX6_subvalues 17 = .ok (.iload_n 2, 1) := by decide +kernel
theorem dX6_subvalues_18 : decode cX6_subvalues 18 = .ok (.iload_n 3, 1) := by decide +kernel
theorem dX6_subvalues_19 : decode cX6_subvalues 19 = .ok (.invokevirtual 154, 3) := by decide +kernel
theorem dX6_subvalues_22 : decode cX6_subvalues 22 = .ok (.ifCond .ne 6, 3) := by decide +kernel
theorem dX6_subvalues_25 : decode cX6_subvalues 25 = .ok (.ldc 77, 2) := by decide +kernel
theorem dX6_subvalues_27 : decode cX6_subvalues 27 = .ok (.ireturn, 1) := by decide +kernel
theorem dX6_subvalues_28 : decode cX6_subvalues 28 = .ok (.aload 4, 2) := by decide +kernel
theorem dX6_subvalues_30 : decode cX6_subvalues 30 = .ok (.iload_n 2, 1) := by decide +kernel
theorem dX6_subvalues_31 : decode cX6_subvalues 31 = .ok (.iload_n 3, 1) := by decide +kernel
theorem dX6_subvalues_32 : decode cX6_subvalues 32 = .ok (.invokevirtual 118, 3) := by decide +kernel
theorem dX6_subvalues_35 : decode cX6_subvalues 35 = .ok (.ireturn, 1) := by decide +kernel
theorem dX6_get_0 : decode cX6_get 0 = .ok (.aload_n 0, 1) := by decide +kernel
theorem dX6_get_1 : decode cX6_get 1 = .ok (.getfield 12, 3) := by decide +kernel
theorem dX6_get_4 : decode cX6_get 4 = .ok (.iload_n 1, 1) := by decide +kernel
theorem dX6_get_5 : decode cX6_get 5 = .ok (.invokevirtual 62, 3) := by decide +kernel
theorem dX6_get_8 : decode cX6_get 8 = .ok (.astore 5, 2) := by decide +kernel
theorem dX6_get_10 : decode cX6_get 10 = .ok (.aload 5, 2) := by decide +kernel
theorem dX6_get_12 : decode cX6_get 12 = .ok (.ifnull 15, 3) := by decide +kernel
theorem dX6_get_15 : decode cX6_get 15 = .ok (.aload 5, 2) := by decide +kernel
theorem dX6_get_17 : decode cX6_get 17 = .ok (.iload_n 2, 1) := by decide +kernel
theorem dX6_get_18 : decode cX6_get 18 = .ok (.iload_n 3, 1) := by decide +kernel
theorem dX6_get_19 : decode cX6_get 19 = .ok (.iload 4, 2) := by decide +kernel
theorem dX6_get_21 : decode cX6_get 21 = .ok (.invokevirtual 126, 3) := by decide +kernel
theorem dX6_get_24 : decode cX6_get 24 = .ok (.ifCond .ne 6, 3) := by decide +kernel
theorem dX6_get_27 : decode cX6_get 27 = .ok (.ldc 77, 2) := by decide +kernel
theorem dX6_get_29 : decode cX6_get 29 = .ok (.ireturn, 1) := by decide +kernel
theorem dX6_get_30 : decode cX6_get 30 = .ok (.aload 5, 2) := by decide +kernel
theorem dX6_get_32 : decode cX6_get 32 = .ok (.iload_n 2, 1) := by decide +kernel
theorem dX6_get_33 : decode cX6_get 33 = .ok (.iload_n 3, 1) := by decide +kernel
theorem dX6_get_34 : decode cX6_get 34 = .ok (.iload 4, 2) := by decide +kernel
theorem dX6_get_36 : decode cX6_get 36 = .ok (.invokevirtual 129, 3) := by decide +kernel
theorem dX6_get_39 : decode cX6_get 39 = .ok (.ireturn, 1) := by decide +kernel
theorem dX6_lines_0 : decode cX6_lines 0 = .ok (.aload_n 0, 1) := by decide +kernel
theorem dX6_lines_1 : decode cX6_lines 1 = .ok (.getfield 12, 3) := by decide +kernel
theorem dX6_lines_4 : decode cX6_lines 4 = .ok (.iload_n 1, 1) := by decide +kernel
theorem dX6_lines_5 : decode cX6_lines 5 = .ok (.invokevirtual 62, 3) := by decide +kernel
theorem dX6_lines_8 : decode cX6_lines 8 = .ok (.astore_n 2, 1) := by decide +kernel
theorem dX6_lines_9 : decode cX6_lines 9 = .ok (.aload_n 2, 1) := by decide +kernel
theorem dX6_lines_10 : decode cX6_lines 10 = .ok (.ifnonnull 6, 3) := by decide +kernel
theorem dX6_lines_13 : decode cX6_lines 13 = .ok (.ldc 77, 2) := by decide +kernel
theorem dX6_lines_15 : decode cX6_lines 15 = .ok (.ireturn, 1) := by decide +kernel
theorem dX6_lines_16 : decode cX6_lines 16 = .ok (.aload_n 0, 1) := by decide +kernel
theorem dX6_lines_17 : decode cX6_lines 17 = .ok (.getfield 12, 3) := by decide +kernel
theorem dX6_lines_20 : decode cX6_lines 20 = .ok (.aload_n 2, 1) := by decide +kernel
theorem dX6_lines_21 : decode cX6_lines 21 = .ok (.invokevirtual 146, 3) := by decide +kernel
theorem dX6_lines_24 : decode cX6_lines 24 = .ok (.ireturn, 1) := by decide +kernel
theorem dX6_locate_0 : decode cX6_locate 0 = .ok (.aload_n 0, 1) := by decide +kernel
theorem dX6_locate_1 : decode cX6_locate 1 = .ok (.getfield 12, 3) := by decide +kernel
theorem dX6_locate_4 : decode cX6_locate 4 = .ok (.iload_n 1, 1) := by decide +kernel
theorem dX6_locate_5 : decode cX6_locate 5 = .ok (.invokevirtual 62, 3) := by decide +kernel
theorem dX6_locate_8 : decode cX6_locate 8 = .ok (.astore 4, 2) := by decide +kernel
theorem dX6_locate_10 : decode cX6_locate 10 = .ok (.aload 4, 2) := by decide +kernel
theorem dX6_locate_12 : decode cX6_locate 12 = .ok (.ifnull 11, 3) := by decide +kernel
theorem dX6_locate_15 : decode cX6_locate 15 = .ok (.iload_n 2, 1) := by decide +kernel
theorem dX6_locate_16 : decode cX6_locate 16 = .ok (.iconst 4, 1) := by decide +kernel
theorem dX6_locate_17 : decode cX6_locate 17 = .ok (.invokestatic 57, 3) := by decide +kernel
theorem dX6_locate_20 : decode cX6_locate 20 = .ok (.ifCond .ne 6, 3) := by decide +kernel
theorem dX6_locate_23 : decode cX6_locate 23 = .ok (.ldc 77, 2) := by decide +kernel
theorem dX6_locate_25 : decode cX6_locate 25 = .ok (.ireturn, 1) := by decide +kernel
theorem dX6_locate_26 : decode cX6_locate 26 = .ok (.iload_n 3, 1) := by decide +kernel
theorem dX6_locate_27 : decode cX6_locate 27 = .ok (.invokestatic 100, 3) := by decide +kernel
theorem dX6_locate_30 : decode cX6_locate 30 = .ok (.ifCond .ne 6, 3) := by decide +kernel
theorem dX6_locate_33 : decode cX6_locate 33 = .ok (.ldc 61, 2) := by decide +kernel
theorem dX6_locate_35 : decode cX6_locate 35 = .ok (.ireturn, 1) := by decide +kernel
theorem dX6_locate_36 : decode cX6_locate 36 = .ok (.iconst 0, 1) := by decide +kernel
theorem dX6_locate_37 : decode cX6_locate 37 = .ok (.istore 5, 2) := by decide +kernel
theorem dX6_locate_39 : decode cX6_locate 39 = .ok (.iload 5, 2) := by decide +kernel
theorem dX6_locate_41 : decode cX6_locate 41 = .ok (.aload 4, 2) := by decide +kernel
theorem dX6_locate_43 : decode cX6_locate 43 = .ok (.iload_n 2, 1) := by decide +kernel
theorem dX6_locate_44 : decode cX6_locate 44 = .ok (.invokevirtual 111, 3) := by decide +kernel
theorem dX6_locate_47 : decode cX6_locate 47 = .ok (.if_icmp .ge 54, 3) := by decide +kernel
theorem dX6_locate_50 : decode cX6_locate 50 = .ok (.iconst 0, 1) := by decide +kernel
theorem dX6_locate_51 : decode cX6_locate 51 = .ok (.istore 6, 2) := by decide +kernel
theorem dX6_locate_53 : decode cX6_locate 53 = .ok (.iload 6, 2) := by decide +kernel
theorem dX6_locate_55 : decode cX6_locate 55 = .ok (.aload 4, 2) := by decide +kernel
theorem dX6_locate_57 : decode cX6_locate 57 = .ok (.iload_n 2, 1) := by decide +kernel
theorem dX6_locate_58 : decode cX6_locate 58 = .ok (.iload 5, 2) := by decide +kernel
theorem dX6_locate_60 : decode cX6_locate 60 = .ok (.invokevirtual 118, 3) := by decide +kernel
theorem dX6_locate_63 : decode cX6_locate 63 = .ok (.if_icmp .ge 32, 3) := by decide +kernel
theorem dX6_locate_66 : decode cX6_locate 66 = .ok (.aload 4, 2) := by decide +kernel
theorem dX6_locate_68 : decode cX6_locate 68 = .ok (.iload_n 2, 1) := by decide +kernel
theorem dX6_locate_69 : decode cX6_locate 69 = .ok (.iload 5, 2) := by decide +kernel
theorem dX6_locate_71 : decode cX6_locate 71 = .ok (.iload 6, 2) := by decide +kernel
theorem dX6_locate_73 : decode cX6_locate 73 = .ok (.invokevirtual 129, 3) := by decide +kernel
theorem dX6_locate_76 : decode cX6_locate 76 = .ok (.iload_n 3, 1) := by decide +kernel
theorem dX6_locate_77 : decode cX6_locate 77 = .ok (.if_icmp .ne 12, 3) := by decide +kernel
theorem dX6_locate_80 : decode cX6_locate 80 = .ok (.bipush 10, 2) := by decide +kernel
theorem dX6_locate_82 : decode cX6_locate 82 = .ok (.iload 5, 2) := by decide +kernel
theorem dX6_locate_84 : decode cX6_locate 84 = .ok (.imul, 1) := by decide +kernel
theorem dX6_locate_85 : decode cX6_locate 85 = .ok (.iload 6, 2) := by decide +kernel
theorem dX6_locate_87 : decode cX6_locate 87 = .ok (.iadd, 1) := by decide +kernel
theorem dX6_locate_88 : decode cX6_locate 88 = .ok (.ireturn, 1) := by decide +kernel
theorem dX6_locate_89 : decode cX6_locate 89 = .ok (.iinc 6 1, 3) := by decide +kernel
theorem dX6_locate_92 : decode cX6_locate 92 = .ok (.goto (-39), 3) := by decide +kernel
theorem dX6_locate_95 : decode cX6_locate 95 = .ok (.iinc 5 1, 3) := by decide +kernel
theorem dX6_locate_98 : decode cX6_locate 98 = .ok (.goto (-59), 3) := by decide +kernel
theorem dX6_locate_101 : decode cX6_locate 101 = .ok (.ldc 95, 2) := by decide +kernel
theorem dX6_locate_103 : decode cX6_locate 103 = .ok (.ireturn, 1) := by decide +kernel
theorem dX6_column_0 : decode cX6_column 0 = .ok (.iload_n 1, 1) := by decide +kernel
theorem dX6_column_1 : decode cX6_column 1 = .ok (.bipush 6, 2) := by decide +kernel
theorem dX6_column_3 : decode cX6_column 3 = .ok (.invokestatic 57, 3) := by decide +kernel
theorem dX6_column_6 : decode cX6_column 6 = .ok (.ifCond .ne 6, 3) := by decide +kernel
theorem dX6_column_9 : decode cX6_column 9 = .ok (.ldc 77, 2) := by decide +kernel
theorem dX6_column_11 : decode cX6_column 11 = .ok (.ireturn, 1) := by decide +kernel
theorem dX6_column_12 : decode cX6_column 12 = .ok (.iload_n 2, 1) := by decide +kernel
theorem dX6_column_13 : decode cX6_column 13 = .ok (.tableswitch 57 0 2 #[27, 37, 47], 27) := by decide +kernel
theorem dX6_column_40 : decode cX6_column 40 = .ok (.aload_n 0, 1) := by decide +kernel
theorem dX6_column_41 : decode cX6_column 41 = .ok (.getfield 12, 3) := by decide +kernel
theorem dX6_column_44 : decode cX6_column 44 = .ok (.getfield 177, 3) := by decide +kernel
theorem dX6_column_47 : decode cX6_column 47 = .ok (.iload_n 1, 1) := by decide +kernel
theorem dX6_column_48 : decode cX6_column 48 = .ok (.iaload, 1) := by decide +kernel
theorem dX6_column_49 : decode cX6_column 49 = .ok (.ireturn, 1) := by decide +kernel
theorem dX6_column_50 : decode cX6_column 50 = .ok (.aload_n 0, 1) := by decide +kernel
theorem dX6_column_51 : decode cX6_column 51 = .ok (.getfield 12, 3) := by decide +kernel
theorem dX6_column_54 : decode cX6_column 54 = .ok (.getfield 248, 3) := by decide +kernel
theorem dX6_column_57 : decode cX6_column 57 = .ok (.iload_n 1, 1) := by decide +kernel
theorem dX6_column_58 : decode cX6_column 58 = .ok (.iaload, 1) := by decide +kernel
theorem dX6_column_59 : decode cX6_column 59 = .ok (.ireturn, 1) := by decide +kernel
theorem dX6_column_60 : decode cX6_column 60 = .ok (.aload_n 0, 1) := by decide +kernel
theorem dX6_column_61 : decode cX6_column 61 = .ok (.getfield 12, 3) := by decide +kernel
theorem dX6_column_64 : decode cX6_column 64 = .ok (.getfield 251, 3) := by decide +kernel
theorem dX6_column_67 : decode cX6_column 67 = .ok (.iload_n 1, 1) := by decide +kernel
theorem dX6_column_68 : decode cX6_column 68 = .ok (.iaload, 1) := by decide +kernel
theorem dX6_column_69 : decode cX6_column 69 = .ok (.ireturn, 1) := by decide +kernel
theorem dX6_column_70 : decode cX6_column 70 = .ok (.ldc 61, 2) := by decide +kernel
theorem dX6_column_72 : decode cX6_column 72 = .ok (.ireturn, 1) := by decide +kernel
theorem dX6_associated_0 : decode cX6_associated 0 = .ok (.iload_n 1, 1) := by decide +kernel
theorem dX6_associated_1 : decode cX6_associated 1 = .ok (.iconst 4, 1) := by decide +kernel
theorem dX6_associated_2 : decode cX6_associated 2 = .ok (.invokestatic 57, 3) := by decide +kernel
theorem dX6_associated_5 : decode cX6_associated 5 = .ok (.ifCond .ne 6, 3) := by decide +kernel
theorem dX6_associated_8 : decode cX6_associated 8 = .ok (.ldc 77, 2) := by decide +kernel
theorem dX6_associated_10 : decode cX6_associated 10 = .ok (.ireturn, 1) := by decide +kernel
theorem dX6_associated_11 : decode cX6_associated 11 = .ok (.aload_n 0, 1) := by decide +kernel
theorem dX6_associated_12 : decode cX6_associated 12 = .ok (.getfield 12, 3) := by decide +kernel
theorem dX6_associated_15 : decode cX6_associated 15 = .ok (.getfield 150, 3) := by decide +kernel
theorem dX6_associated_18 : decode cX6_associated 18 = .ok (.iload_n 1, 1) := by decide +kernel
theorem dX6_associated_19 : decode cX6_associated 19 = .ok (.baload, 1) := by decide +kernel
theorem dX6_associated_20 : decode cX6_associated 20 = .ok (.ifCond .eq 7, 3) := by decide +kernel
theorem dX6_associated_23 : decode cX6_associated 23 = .ok (.iconst 1, 1) := by decide +kernel
theorem dX6_associated_24 : decode cX6_associated 24 = .ok (.goto 4, 3) := by decide +kernel
theorem dX6_associated_27 : decode cX6_associated 27 = .ok (.iconst 0, 1) := by decide +kernel
theorem dX6_associated_28 : decode cX6_associated 28 = .ok (.ireturn, 1) := by decide +kernel
theorem dX6_listSize_0 : decode cX6_listSize 0 = .ok (.iload_n 1, 1) := by decide +kernel
theorem dX6_listSize_1 : decode cX6_listSize 1 = .ok (.bipush 8, 2) := by decide +kernel
theorem dX6_listSize_3 : decode cX6_listSize 3 = .ok (.invokestatic 57, 3) := by decide +kernel
theorem dX6_listSize_6 : decode cX6_listSize 6 = .ok (.ifCond .ne 6, 3) := by decide +kernel
theorem dX6_listSize_9 : decode cX6_listSize 9 = .ok (.ldc 77, 2) := by decide +kernel
theorem dX6_listSize_11 : decode cX6_listSize 11 = .ok (.ireturn, 1) := by decide +kernel
theorem dX6_listSize_12 : decode cX6_listSize 12 = .ok (.aload_n 0, 1) := by decide +kernel
theorem dX6_listSize_13 : decode cX6_listSize 13 = .ok (.getfield 12, 3) := by decide +kernel
theorem dX6_listSize_16 : decode cX6_listSize 16 = .ok (.iload_n 1, 1) := by decide +kernel
theorem dX6_listSize_17 : decode cX6_listSize 17 = .ok (.invokevirtual 208, 3) := by decide +kernel
theorem dX6_listSize_20 : decode cX6_listSize 20 = .ok (.ireturn, 1) := by decide +kernel
theorem dX6_listAt_0 : decode cX6_listAt 0 = .ok (.iload_n 1, 1) := by decide +kernel
theorem dX6_listAt_1 : decode cX6_listAt 1 = .ok (.bipush 8, 2) := by decide +kernel
theorem dX6_listAt_3 : decode cX6_listAt 3 = .ok (.invokestatic 57, 3) := by decide +kernel
theorem dX6_listAt_6 : decode cX6_listAt 6 = .ok (.ifCond .ne 6, 3) := by decide +kernel
theorem dX6_listAt_9 : decode cX6_listAt 9 = .ok (.ldc 77, 2) := by decide +kernel
theorem dX6_listAt_11 : decode cX6_listAt 11 = .ok (.ireturn, 1) := by decide +kernel
theorem dX6_listAt_12 : decode cX6_listAt 12 = .ok (.iload_n 2, 1) := by decide +kernel
theorem dX6_listAt_13 : decode cX6_listAt 13 = .ok (.ifCond .ge 6, 3) := by decide +kernel
theorem dX6_listAt_16 : decode cX6_listAt 16 = .ok (.ldc 61, 2) := by decide +kernel
theorem dX6_listAt_18 : decode cX6_listAt 18 = .ok (.ireturn, 1) := by decide +kernel
theorem dX6_listAt_19 : decode cX6_listAt 19 = .ok (.iconst 0, 1) := by decide +kernel
theorem dX6_listAt_20 : decode cX6_listAt 20 = .ok (.istore_n 3, 1) := by decide +kernel
theorem dX6_listAt_21 : decode cX6_listAt 21 = .ok (.iconst 0, 1) := by decide +kernel
theorem dX6_listAt_22 : decode cX6_listAt 22 = .ok (.istore 4, 2) := by decide +kernel
theorem dX6_listAt_24 : decode cX6_listAt 24 = .ok (.iload 4, 2) := by decide +kernel
theorem dX6_listAt_26 : decode cX6_listAt 26 = .ok (.bipush 100, 2) := by decide +kernel
theorem dX6_listAt_28 : decode cX6_listAt 28 = .ok (.if_icmp .ge 33, 3) := by decide +kernel
theorem dX6_listAt_31 : decode cX6_listAt 31 = .ok (.aload_n 0, 1) := by decide +kernel
theorem dX6_listAt_32 : decode cX6_listAt 32 = .ok (.getfield 12, 3) := by decide +kernel
theorem dX6_listAt_35 : decode cX6_listAt 35 = .ok (.iload_n 1, 1) := by decide +kernel
theorem dX6_listAt_36 : decode cX6_listAt 36 = .ok (.iload 4, 2) := by decide +kernel
theorem dX6_listAt_38 : decode cX6_listAt 38 = .ok (.invokevirtual 220, 3) := by decide +kernel
theorem dX6_listAt_41 : decode cX6_listAt 41 = .ok (.ifCond .eq 14, 3) := by decide +kernel
theorem dX6_listAt_44 : decode cX6_listAt 44 = .ok (.iload_n 3, 1) := by decide +kernel
theorem dX6_listAt_45 : decode cX6_listAt 45 = .ok (.iload_n 2, 1) := by decide +kernel
theorem dX6_listAt_46 : decode cX6_listAt 46 = .ok (.if_icmp .ne 6, 3) := by decide +kernel
theorem dX6_listAt_49 : decode cX6_listAt 49 = .ok (.iload 4, 2) := by decide +kernel
theorem dX6_listAt_51 : decode cX6_listAt 51 = .ok (.ireturn, 1) := by decide +kernel
theorem dX6_listAt_52 : decode cX6_listAt 52 = .ok (.iinc 3 1, 3) := by decide +kernel
theorem dX6_listAt_55 : decode cX6_listAt 55 = .ok (.iinc 4 1, 3) := by decide +kernel
theorem dX6_listAt_58 : decode cX6_listAt 58 = .ok (.goto (-34), 3) := by decide +kernel
theorem dX6_listAt_61 : decode cX6_listAt 61 = .ok (.ldc 95, 2) := by decide +kernel
theorem dX6_listAt_63 : decode cX6_listAt 63 = .ok (.ireturn, 1) := by decide +kernel
theorem dX6_numbers_0 : decode cX6_numbers 0 = .ok (.aload_n 0, 1) := by decide +kernel
theorem dX6_numbers_1 : decode cX6_numbers 1 = .ok (.getfield 12, 3) := by decide +kernel
theorem dX6_numbers_4 : decode cX6_numbers 4 = .ok (.iload_n 1, 1) := by decide +kernel
theorem dX6_numbers_5 : decode cX6_numbers 5 = .ok (.invokevirtual 62, 3) := by decide +kernel
theorem dX6_numbers_8 : decode cX6_numbers 8 = .ok (.astore_n 3, 1) := by decide +kernel
theorem dX6_numbers_9 : decode cX6_numbers 9 = .ok (.aload_n 3, 1) := by decide +kernel
theorem dX6_numbers_10 : decode cX6_numbers 10 = .ok (.ifnull 12, 3) := by decide +kernel
theorem dX6_numbers_13 : decode cX6_numbers 13 = .ok (.iload_n 2, 1) := by decide +kernel
theorem dX6_numbers_14 : decode cX6_numbers 14 = .ok (.bipush 6, 2) := by decide +kernel
theorem dX6_numbers_16 : decode cX6_numbers 16 = .ok (.invokestatic 57, 3) := by decide +kernel
theorem dX6_numbers_19 : decode cX6_numbers 19 = .ok (.ifCond .ne 6, 3) := by decide +kernel
theorem dX6_numbers_22 : decode cX6_numbers 22 = .ok (.ldc 77, 2) := by decide +kernel
theorem dX6_numbers_24 : decode cX6_numbers 24 = .ok (.ireturn, 1) := by decide +kernel
theorem dX6_numbers_25 : decode cX6_numbers 25 = .ok (.aload_n 0, 1) := by decide +kernel
theorem dX6_numbers_26 : decode cX6_numbers 26 = .ok (.getfield 12, 3) := by decide +kernel
theorem dX6_numbers_29 : decode cX6_numbers 29 = .ok (.aload_n 3, 1) := by decide +kernel
theorem dX6_numbers_30 : decode cX6_numbers 30 = .ok (.iload_n 2, 1) := by decide +kernel
theorem dX6_numbers_31 : decode cX6_numbers 31 = .ok (.aload_n 0, 1) := by decide +kernel
theorem dX6_numbers_32 : decode cX6_numbers 32 = .ok (.getfield 46, 3) := by decide +kernel
theorem dX6_numbers_35 : decode cX6_numbers 35 = .ok (.invokevirtual 193, 3) := by decide +kernel
theorem dX6_numbers_38 : decode cX6_numbers 38 = .ok (.aload_n 0, 1) := by decide +kernel
theorem dX6_numbers_39 : decode cX6_numbers 39 = .ok (.getfield 46, 3) := by decide +kernel
theorem dX6_numbers_42 : decode cX6_numbers 42 = .ok (.getfield 211, 3) := by decide +kernel
theorem dX6_numbers_45 : decode cX6_numbers 45 = .ok (.ireturn, 1) := by decide +kernel
theorem dX6_numberAt_0 : decode cX6_numberAt 0 = .ok (.aload_n 0, 1) := by decide +kernel
theorem dX6_numberAt_1 : decode cX6_numberAt 1 = .ok (.getfield 12, 3) := by decide +kernel
theorem dX6_numberAt_4 : decode cX6_numberAt 4 = .ok (.iload_n 1, 1) := by decide +kernel
theorem dX6_numberAt_5 : decode cX6_numberAt 5 = .ok (.invokevirtual 62, 3) := by decide +kernel
theorem dX6_numberAt_8 : decode cX6_numberAt 8 = .ok (.astore 4, 2) := by decide +kernel
theorem dX6_numberAt_10 : decode cX6_numberAt 10 = .ok (.aload 4, 2) := by decide +kernel
theorem dX6_numberAt_12 : decode cX6_numberAt 12 = .ok (.ifnull 12, 3) := by decide +kernel
theorem dX6_numberAt_15 : decode cX6_numberAt 15 = .ok (.iload_n 2, 1) := by decide +kernel
theorem dX6_numberAt_16 : decode cX6_numberAt 16 = .ok (.bipush 6, 2) := by decide +kernel
theorem dX6_numberAt_18 : decode cX6_numberAt 18 = .ok (.invokestatic 57, 3) := by decide +kernel
theorem dX6_numberAt_21 : decode cX6_numberAt 21 = .ok (.ifCond .ne 6, 3) := by decide +kernel
theorem dX6_numberAt_24 : decode cX6_numberAt 24 = .ok (.ldc 77, 2) := by decide +kernel
theorem dX6_numberAt_26 : decode cX6_numberAt 26 = .ok (.ireturn, 1) := by decide +kernel
theorem dX6_numberAt_27 : decode cX6_numberAt 27 = .ok (.iload_n 3, 1) := by decide +kernel
theorem dX6_numberAt_28 : decode cX6_numberAt 28 = .ok (.ifCond .ge 6, 3) := by decide +kernel
theorem dX6_numberAt_31 : decode cX6_numberAt 31 = .ok (.ldc 61, 2) := by decide +kernel
theorem dX6_numberAt_33 : decode cX6_numberAt 33 = .ok (.ireturn, 1) := by decide +kernel
theorem dX6_numberAt_34 : decode cX6_numberAt 34 = .ok (.aload_n 0, 1) := by decide +kernel
theorem dX6_numberAt_35 : decode cX6_numberAt 35 = .ok (.getfield 12, 3) := by decide +kernel
theorem dX6_numberAt_38 : decode cX6_numberAt 38 = .ok (.aload 4, 2) := by decide +kernel
theorem dX6_numberAt_40 : decode cX6_numberAt 40 = .ok (.iload_n 2, 1) := by decide +kernel
theorem dX6_numberAt_41 : decode cX6_numberAt 41 = .ok (.aload_n 0, 1) := by decide +kernel
theorem dX6_numberAt_42 : decode cX6_numberAt 42 = .ok (.getfield 46, 3) := by decide +kernel
theorem dX6_numberAt_45 : decode cX6_numberAt 45 = .ok (.invokevirtual 193, 3) := by decide +kernel
theorem dX6_numberAt_48 : decode cX6_numberAt 48 = .ok (.iload_n 3, 1) := by decide +kernel
theorem dX6_numberAt_49 : decode cX6_numberAt 49 = .ok (.aload_n 0, 1) := by decide +kernel
theorem dX6_numberAt_50 : decode cX6_numberAt 50 = .ok (.getfield 46, 3) := by decide +kernel
theorem dX6_numberAt_53 : decode cX6_numberAt 53 = .ok (.getfield 211, 3) := by decide +kernel
theorem dX6_numberAt_56 : decode cX6_numberAt 56 = .ok (.if_icmp .lt 6, 3) := by decide +kernel
theorem dX6_numberAt_59 : decode cX6_numberAt 59 = .ok (.ldc 95, 2) := by decide +kernel
theorem dX6_numberAt_61 : decode cX6_numberAt 61 = .ok (.ireturn, 1) := by decide +kernel
theorem dX6_numberAt_62 : decode cX6_numberAt 62 = .ok (.aload_n 0, 1) := by decide +kernel
theorem dX6_numberAt_63 : decode cX6_numberAt 63 = .ok (.getfield 46, 3) := by decide +kernel
theorem dX6_numberAt_66 : decode cX6_numberAt 66 = .ok (.iload_n 3, 1) := by decide +kernel
theorem dX6_numberAt_67 : decode cX6_numberAt 67 = .ok (.invokevirtual 214, 3) := by decide +kernel
theorem dX6_numberAt_70 : decode cX6_numberAt 70 = .ok (.ireturn, 1) := by decide +kernel
theorem dX6_exploded_0 : decode cX6_exploded 0 = .ok (.iload_n 1, 1) := by decide +kernel
theorem dX6_exploded_1 : decode cX6_exploded 1 = .ok (.bipush 6, 2) := by decide +kernel
theorem dX6_exploded_3 : decode cX6_exploded 3 = .ok (.invokestatic 57, 3) := by decide +kernel
theorem dX6_exploded_6 : decode cX6_exploded 6 = .ok (.ifCond .ne 6, 3) := by decide +kernel
theorem dX6_exploded_9 : decode cX6_exploded 9 = .ok (.ldc 77, 2) := by decide +kernel
theorem dX6_exploded_11 : decode cX6_exploded 11 = .ok (.ireturn, 1) := by decide +kernel
theorem dX6_exploded_12 : decode cX6_exploded 12 = .ok (.aload_n 0, 1) := by decide +kernel
theorem dX6_exploded_13 : decode cX6_exploded 13 = .ok (.iload_n 1, 1) := by decide +kernel
theorem dX6_exploded_14 : decode cX6_exploded 14 = .ok (.invokevirtual 254, 3) := by decide +kernel
theorem dX6_exploded_17 : decode cX6_exploded 17 = .ok (.ireturn, 1) := by decide +kernel
theorem dX6_explodedAt_0 : decode cX6_explodedAt 0 = .ok (.iload_n 1, 1) := by decide +kernel
theorem dX6_explodedAt_1 : decode cX6_explodedAt 1 = .ok (.bipush 6, 2) := by decide +kernel
theorem dX6_explodedAt_3 : decode cX6_explodedAt 3 = .ok (.invokestatic 57, 3) := by decide +kernel
theorem dX6_explodedAt_6 : decode cX6_explodedAt 6 = .ok (.ifCond .ne 6, 3) := by decide +kernel
theorem dX6_explodedAt_9 : decode cX6_explodedAt 9 = .ok (.ldc 77, 2) := by decide +kernel
theorem dX6_explodedAt_11 : decode cX6_explodedAt 11 = .ok (.ireturn, 1) := by decide +kernel
theorem dX6_explodedAt_12 : decode cX6_explodedAt 12 = .ok (.iload_n 3, 1) := by decide +kernel
theorem dX6_explodedAt_13 : decode cX6_explodedAt 13 = .ok (.ifCond .lt 14, 3) := by decide +kernel
theorem dX6_explodedAt_16 : decode cX6_explodedAt 16 = .ok (.iload 4, 2) := by decide +kernel
theorem dX6_explodedAt_18 : decode cX6_explodedAt 18 = .ok (.ifCond .lt 9, 3) := by decide +kernel
theorem dX6_explodedAt_21 : decode cX6_explodedAt 21 = .ok (.iload 4, 2) := by decide +kernel
theorem dX6_explodedAt_23 : decode cX6_explodedAt 23 = .ok (.iconst 2, 1) := by decide +kernel
theorem dX6_explodedAt_24 : decode cX6_explodedAt 24 = .ok (.if_icmp .le 6, 3) := by decide +kernel
theorem dX6_explodedAt_27 : decode cX6_explodedAt 27 = .ok (.ldc 61, 2) := by decide +kernel
theorem dX6_explodedAt_29 : decode cX6_explodedAt 29 = .ok (.ireturn, 1) := by decide +kernel
theorem dX6_explodedAt_30 : decode cX6_explodedAt 30 = .ok (.aload_n 0, 1) := by decide +kernel
theorem dX6_explodedAt_31 : decode cX6_explodedAt 31 = .ok (.iload_n 1, 1) := by decide +kernel
theorem dX6_explodedAt_32 : decode cX6_explodedAt 32 = .ok (.iload_n 2, 1) := by decide +kernel
theorem dX6_explodedAt_33 : decode cX6_explodedAt 33 = .ok (.invokevirtual 257, 3) := by decide +kernel
theorem dX6_explodedAt_36 : decode cX6_explodedAt 36 = .ok (.iload_n 3, 1) := by decide +kernel
theorem dX6_explodedAt_37 : decode cX6_explodedAt 37 = .ok (.aload_n 0, 1) := by decide +kernel
theorem dX6_explodedAt_38 : decode cX6_explodedAt 38 = .ok (.getfield 53, 3) := by decide +kernel
theorem dX6_explodedAt_41 : decode cX6_explodedAt 41 = .ok (.getfield 261, 3) := by decide +kernel
theorem dX6_explodedAt_44 : decode cX6_explodedAt 44 = .ok (.if_icmp .lt 6, 3) := by decide +kernel
theorem dX6_explodedAt_47 : decode cX6_explodedAt 47 = .ok (.ldc 95, 2) := by decide +kernel
theorem dX6_explodedAt_49 : decode cX6_explodedAt 49 = .ok (.ireturn, 1) := by decide +kernel
theorem dX6_explodedAt_50 : decode cX6_explodedAt 50 = .ok (.iload 4, 2) := by decide +kernel
theorem dX6_explodedAt_52 : decode cX6_explodedAt 52 = .ok (.lookupswitch 48 #[(0, 28), (1, 38)], 28) := by decide +kernel
theorem dX6_explodedAt_80 : decode cX6_explodedAt 80 = .ok (.aload_n 0, 1) := by decide +kernel
theorem dX6_explodedAt_81 : decode cX6_explodedAt 81 = .ok (.getfield 53, 3) := by decide +kernel
theorem dX6_explodedAt_84 : decode cX6_explodedAt 84 = .ok (.getfield 262, 3) := by decide +kernel
theorem dX6_explodedAt_87 : decode cX6_explodedAt 87 = .ok (.iload_n 3, 1) := by decide +kernel
theorem dX6_explodedAt_88 : decode cX6_explodedAt 88 = .ok (.iaload, 1) := by decide +kernel
theorem dX6_explodedAt_89 : decode cX6_explodedAt 89 = .ok (.ireturn, 1) := by decide +kernel
theorem dX6_explodedAt_90 : decode cX6_explodedAt 90 = .ok (.aload_n 0, 1) := by decide +kernel
theorem dX6_explodedAt_91 : decode cX6_explodedAt 91 = .ok (.getfield 53, 3) := by decide +kernel
theorem dX6_explodedAt_94 : decode cX6_explodedAt 94 = .ok (.getfield 265, 3) := by decide +kernel
theorem dX6_explodedAt_97 : decode cX6_explodedAt 97 = .ok (.iload_n 3, 1) := by decide +kernel
theorem dX6_explodedAt_98 : decode cX6_explodedAt 98 = .ok (.iaload, 1) := by decide +kernel
theorem dX6_explodedAt_99 : decode cX6_explodedAt 99 = .ok (.ireturn, 1) := by decide +kernel
theorem dX6_explodedAt_100 : decode cX6_explodedAt 100 = .ok (.aload_n 0, 1) := by decide +kernel
theorem dX6_explodedAt_101 : decode cX6_explodedAt 101 = .ok (.getfield 53, 3) := by decide +kernel
theorem dX6_explodedAt_104 : decode cX6_explodedAt 104 = .ok (.getfield 268, 3) := by decide +kernel
theorem dX6_explodedAt_107 : decode cX6_explodedAt 107 = .ok (.iload_n 3, 1) := by decide +kernel
theorem dX6_explodedAt_108 : decode cX6_explodedAt 108 = .ok (.iaload, 1) := by decide +kernel
theorem dX6_explodedAt_109 : decode cX6_explodedAt 109 = .ok (.ireturn, 1) := by decide +kernel
theorem dX6_total_0 : decode cX6_total 0 = .ok (.iload_n 1, 1) := by decide +kernel
theorem dX6_total_1 : decode cX6_total 1 = .ok (.bipush 6, 2) := by decide +kernel
theorem dX6_total_3 : decode cX6_total 3 = .ok (.invokestatic 57, 3) := by decide +kernel
theorem dX6_total_6 : decode cX6_total 6 = .ok (.ifCond .eq 17, 3) := by decide +kernel
theorem dX6_total_9 : decode cX6_total 9 = .ok (.iload_n 2, 1) := by decide +kernel
theorem dX6_total_10 : decode cX6_total 10 = .ok (.iconst (-1), 1) := by decide +kernel
theorem dX6_total_11 : decode cX6_total 11 = .ok (.if_icmp .eq 15, 3) := by decide +kernel
theorem dX6_total_14 : decode cX6_total 14 = .ok (.iload_n 2, 1) := by decide +kernel
theorem dX6_total_15 : decode cX6_total 15 = .ok (.bipush 8, 2) := by decide +kernel
theorem dX6_total_17 : decode cX6_total 17 = .ok (.invokestatic 57, 3) := by decide +kernel
theorem dX6_total_20 : decode cX6_total 20 = .ok (.ifCond .ne 6, 3) := by decide +kernel
theorem dX6_total_23 : decode cX6_total 23 = .ok (.ldc 77, 2) := by decide +kernel
theorem dX6_total_25 : decode cX6_total 25 = .ok (.ireturn, 1) := by decide +kernel
theorem dX6_total_26 : decode cX6_total 26 = .ok (.aload_n 0, 1) := by decide +kernel
theorem dX6_total_27 : decode cX6_total 27 = .ok (.iload_n 1, 1) := by decide +kernel
theorem dX6_total_28 : decode cX6_total 28 = .ok (.iload_n 2, 1) := by decide +kernel
theorem dX6_total_29 : decode cX6_total 29 = .ok (.invokevirtual 271, 3) := by decide +kernel
theorem dX6_total_32 : decode cX6_total 32 = .ok (.ireturn, 1) := by decide +kernel
theorem dX6_mean_0 : decode cX6_mean 0 = .ok (.iload_n 1, 1) := by decide +kernel
theorem dX6_mean_1 : decode cX6_mean 1 = .ok (.bipush 6, 2) := by decide +kernel
theorem dX6_mean_3 : decode cX6_mean 3 = .ok (.invokestatic 57, 3) := by decide +kernel
theorem dX6_mean_6 : decode cX6_mean 6 = .ok (.ifCond .ne 7, 3) := by decide +kernel
theorem dX6_mean_9 : decode cX6_mean 9 = .ok (.ldc_w 274, 3) := by decide +kernel
theorem dX6_mean_12 : decode cX6_mean 12 = .ok (.freturn, 1) := by decide +kernel
theorem dX6_mean_13 : decode cX6_mean 13 = .ok (.aload_n 0, 1) := by decide +kernel
theorem dX6_mean_14 : decode cX6_mean 14 = .ok (.iload_n 1, 1) := by decide +kernel
theorem dX6_mean_15 : decode cX6_mean 15 = .ok (.invokevirtual 254, 3) := by decide +kernel
theorem dX6_mean_18 : decode cX6_mean 18 = .ok (.istore_n 2, 1) := by decide +kernel
theorem dX6_mean_19 : decode cX6_mean 19 = .ok (.iload_n 2, 1) := by decide +kernel
theorem dX6_mean_20 : decode cX6_mean 20 = .ok (.ifCond .ne 5, 3) := by decide +kernel
theorem dX6_mean_23 : decode cX6_mean 23 = .ok (.fconst 0, 1) := by decide +kernel
theorem dX6_mean_24 : decode cX6_mean 24 = .ok (.freturn, 1) := by decide +kernel
theorem dX6_mean_25 : decode cX6_mean 25 = .ok (.aload_n 0, 1) := by decide +kernel
theorem dX6_mean_26 : decode cX6_mean 26 = .ok (.iload_n 1, 1) := by decide +kernel
theorem dX6_mean_27 : decode cX6_mean 27 = .ok (.iconst (-1), 1) := by decide +kernel
theorem dX6_mean_28 : decode cX6_mean 28 = .ok (.invokevirtual 271, 3) := by decide +kernel
theorem dX6_mean_31 : decode cX6_mean 31 = .ok (.i2f, 1) := by decide +kernel
theorem dX6_mean_32 : decode cX6_mean 32 = .ok (.iload_n 2, 1) := by decide +kernel
theorem dX6_mean_33 : decode cX6_mean 33 = .ok (.i2f, 1) := by decide +kernel
theorem dX6_mean_34 : decode cX6_mean 34 = .ok (.fdiv, 1) := by decide +kernel
theorem dX6_mean_35 : decode cX6_mean 35 = .ok (.freturn, 1) := by decide +kernel
theorem dX6_repeated_0 : decode cX6_repeated 0 = .ok (.iload_n 1, 1) := by decide +kernel
theorem dX6_repeated_1 : decode cX6_repeated 1 = .ok (.bipush 6, 2) := by decide +kernel
theorem dX6_repeated_3 : decode cX6_repeated 3 = .ok (.invokestatic 57, 3) := by decide +kernel
theorem dX6_repeated_6 : decode cX6_repeated 6 = .ok (.ifCond .ne 6, 3) := by decide +kernel
theorem dX6_repeated_9 : decode cX6_repeated 9 = .ok (.ldc 77, 2) := by decide +kernel
theorem dX6_repeated_11 : decode cX6_repeated 11 = .ok (.ireturn, 1) := by decide +kernel
theorem dX6_repeated_12 : decode cX6_repeated 12 = .ok (.aload_n 0, 1) := by decide +kernel
theorem dX6_repeated_13 : decode cX6_repeated 13 = .ok (.iload_n 1, 1) := by decide +kernel
theorem dX6_repeated_14 : decode cX6_repeated 14 = .ok (.iconst 0, 1) := by decide +kernel
theorem dX6_repeated_15 : decode cX6_repeated 15 = .ok (.invokevirtual 257, 3) := by decide +kernel
theorem dX6_repeated_18 : decode cX6_repeated 18 = .ok (.iconst 0, 1) := by decide +kernel
theorem dX6_repeated_19 : decode cX6_repeated 19 = .ok (.istore_n 2, 1) := by decide +kernel
theorem dX6_repeated_20 : decode cX6_repeated 20 = .ok (.iconst 1, 1) := by decide +kernel
theorem dX6_repeated_21 : decode cX6_repeated 21 = .ok (.istore_n 3, 1) := by decide +kernel
theorem dX6_repeated_22 : decode cX6_repeated 22 = .ok (.iconst 1, 1) := by decide +kernel
theorem dX6_repeated_23 : decode cX6_repeated 23 = .ok (.istore 4, 2) := by decide +kernel
theorem dX6_repeated_25 : decode cX6_repeated 25 = .ok (.iload 4, 2) := by decide +kernel
theorem dX6_repeated_27 : decode cX6_repeated 27 = .ok (.aload_n 0, 1) := by decide +kernel
theorem dX6_repeated_28 : decode cX6_repeated 28 = .ok (.getfield 53, 3) := by decide +kernel
theorem dX6_repeated_31 : decode cX6_repeated 31 = .ok (.getfield 261, 3) := by decide +kernel
theorem dX6_repeated_34 : decode cX6_repeated 34 = .ok (.if_icmp .ge 62, 3) := by decide +kernel
theorem dX6_repeated_37 : decode cX6_repeated 37 = .ok (.aload_n 0, 1) := by decide +kernel
theorem dX6_repeated_38 : decode cX6_repeated 38 = .ok (.getfield 53, 3) := by decide +kernel
theorem dX6_repeated_41 : decode cX6_repeated 41 = .ok (.getfield 262, 3) := by decide +kernel
theorem dX6_repeated_44 : decode cX6_repeated 44 = .ok (.iload 4, 2) := by decide +kernel
theorem dX6_repeated_46 : decode cX6_repeated 46 = .ok (.iaload, 1) := by decide +kernel
theorem dX6_repeated_47 : decode cX6_repeated 47 = .ok (.aload_n 0, 1) := by decide +kernel
theorem dX6_repeated_48 : decode cX6_repeated 48 = .ok (.getfield 53, 3) := by decide +kernel
theorem dX6_repeated_51 : decode cX6_repeated 51 = .ok (.getfield 262, 3) := by decide +kernel
theorem dX6_repeated_54 : decode cX6_repeated 54 = .ok (.iload 4, 2) := by decide +kernel
theorem dX6_repeated_56 : decode cX6_repeated 56 = .ok (.iconst 1, 1) := by decide +kernel
theorem dX6_repeated_57 : decode cX6_repeated 57 = .ok (.isub, 1) := by decide +kernel
theorem dX6_repeated_58 : decode cX6_repeated 58 = .ok (.iaload, 1) := by decide +kernel
theorem dX6_repeated_59 : decode cX6_repeated 59 = .ok (.if_icmp .ne 7, 3) := by decide +kernel
theorem dX6_repeated_62 : decode cX6_repeated 62 = .ok (.iconst 1, 1) := by decide +kernel
theorem dX6_repeated_63 : decode cX6_repeated 63 = .ok (.goto 4, 3) := by decide +kernel
theorem dX6_repeated_66 : decode cX6_repeated 66 = .ok (.iconst 0, 1) := by decide +kernel
theorem dX6_repeated_67 : decode cX6_repeated 67 = .ok (.istore 5, 2) := by decide +kernel
theorem dX6_repeated_69 : decode cX6_repeated 69 = .ok (.iload 5, 2) := by decide +kernel
theorem dX6_repeated_71 : decode cX6_repeated 71 = .ok (.ifCond .eq 9, 3) := by decide +kernel
theorem dX6_repeated_74 : decode cX6_repeated 74 = .ok (.iload_n 3, 1) := by decide +kernel
theorem dX6_repeated_75 : decode cX6_repeated 75 = .ok (.iconst 1, 1) := by decide +kernel
theorem dX6_repeated_76 : decode cX6_repeated 76 = .ok (.iadd, 1) := by decide +kernel
theorem dX6_repeated_77 : decode cX6_repeated 77 = .ok (.goto 4, 3) := by decide +kernel
theorem dX6_repeated_80 : decode cX6_repeated 80 = .ok (.iconst 1, 1) := by decide +kernel
theorem dX6_repeated_81 : decode cX6_repeated 81 = .ok (.istore_n 3, 1) := by decide +kernel
theorem dX6_repeated_82 : decode cX6_repeated 82 = .ok (.iload_n 3, 1) := by decide +kernel
theorem dX6_repeated_83 : decode cX6_repeated 83 = .ok (.iconst 2, 1) := by decide +kernel
theorem dX6_repeated_84 : decode cX6_repeated 84 = .ok (.if_icmp .ne 6, 3) := by decide +kernel
theorem dX6_repeated_87 : decode cX6_repeated 87 = .ok (.iinc 2 1, 3) := by decide +kernel
theorem dX6_repeated_90 : decode cX6_repeated 90 = .ok (.iinc 4 1, 3) := by decide +kernel
theorem dX6_repeated_93 : decode cX6_repeated 93 = .ok (.goto (-68), 3) := by decide +kernel
theorem dX6_repeated_96 : decode cX6_repeated 96 = .ok (.iload_n 2, 1) := by decide +kernel
theorem dX6_repeated_97 : decode cX6_repeated 97 = .ok (.ireturn, 1) := by decide +kernel
theorem dX6_entryCount_0 : decode cX6_entryCount 0 = .ok (.iconst 0, 1) := by decide +kernel
theorem dX6_entryCount_1 : decode cX6_entryCount 1 = .ok (.istore_n 2, 1) := by decide +kernel
theorem dX6_entryCount_2 : decode cX6_entryCount 2 = .ok (.iconst 0, 1) := by decide +kernel
theorem dX6_entryCount_3 : decode cX6_entryCount 3 = .ok (.istore_n 3, 1) := by decide +kernel
theorem dX6_entryCount_4 : decode cX6_entryCount 4 = .ok (.iload_n 3, 1) := by decide +kernel
theorem dX6_entryCount_5 : decode cX6_entryCount 5 = .ok (.aload_n 0, 1) := by decide +kernel
theorem dX6_entryCount_6 : decode cX6_entryCount 6 = .ok (.getfield 12, 3) := by decide +kernel
theorem dX6_entryCount_9 : decode cX6_entryCount 9 = .ok (.getfield 67, 3) := by decide +kernel
theorem dX6_entryCount_12 : decode cX6_entryCount 12 = .ok (.if_icmp .ge 40, 3) := by decide +kernel
theorem dX6_entryCount_15 : decode cX6_entryCount 15 = .ok (.aload_n 0, 1) := by decide +kernel
theorem dX6_entryCount_16 : decode cX6_entryCount 16 = .ok (.getfield 12, 3) := by decide +kernel
theorem dX6_entryCount_19 : decode cX6_entryCount 19 = .ok (.aload_n 0, 1) := by decide +kernel
theorem dX6_entryCount_20 : decode cX6_entryCount 20 = .ok (.getfield 12, 3) := by decide +kernel
theorem dX6_entryCount_23 : decode cX6_entryCount 23 = .ok (.getfield 189, 3) := by decide +kernel
theorem dX6_entryCount_26 : decode cX6_entryCount 26 = .ok (.iload_n 3, 1) := by decide +kernel
theorem dX6_entryCount_27 : decode cX6_entryCount 27 = .ok (.aaload, 1) := by decide +kernel
theorem dX6_entryCount_28 : decode cX6_entryCount 28 = .ok (.iload_n 1, 1) := by decide +kernel
theorem dX6_entryCount_29 : decode cX6_entryCount 29 = .ok (.aload_n 0, 1) := by decide +kernel
theorem dX6_entryCount_30 : decode cX6_entryCount 30 = .ok (.getfield 46, 3) := by decide +kernel
theorem dX6_entryCount_33 : decode cX6_entryCount 33 = .ok (.invokevirtual 193, 3) := by decide +kernel
