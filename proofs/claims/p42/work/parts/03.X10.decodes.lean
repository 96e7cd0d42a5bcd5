theorem dX1_init_0 : decode cX1_init 0 = .ok (.aload_n 0, 1) := by decide +kernel
theorem dX1_init_1 : decode cX1_init 1 = .ok (.invokespecial 3, 3) := by decide +kernel
theorem dX1_init_4 : decode cX1_init 4 = .ok (.aload_n 0, 1) := by decide +kernel
theorem dX1_init_5 : decode cX1_init 5 = .ok (.iconst 0, 1) := by decide +kernel
theorem dX1_init_6 : decode cX1_init 6 = .ok (.putfield 9, 3) := by decide +kernel
theorem dX1_init_9 : decode cX1_init 9 = .ok (.aload_n 0, 1) := by decide +kernel
theorem dX1_init_10 : decode cX1_init 10 = .ok (.ldc 15, 2) := by decide +kernel
theorem dX1_init_12 : decode cX1_init 12 = .ok (.putfield 16, 3) := by decide +kernel
theorem dX1_init_15 : decode cX1_init 15 = .ok (.aload_n 0, 1) := by decide +kernel
theorem dX1_init_16 : decode cX1_init 16 = .ok (.iconst 4, 1) := by decide +kernel
theorem dX1_init_17 : decode cX1_init 17 = .ok (.newarray .int, 2) := by decide +kernel
theorem dX1_init_19 : decode cX1_init 19 = .ok (.putfield 19, 3) := by decide +kernel
theorem dX1_init_22 : decode cX1_init 22 = .ok (.aload_n 0, 1) := by decide +kernel
theorem dX1_init_23 : decode cX1_init 23 = .ok (.bipush 20, 2) := by decide +kernel
theorem dX1_init_25 : decode cX1_init 25 = .ok (.newarray .int, 2) := by decide +kernel
theorem dX1_init_27 : decode cX1_init 27 = .ok (.putfield 23, 3) := by decide +kernel
theorem dX1_init_30 : decode cX1_init 30 = .ok (.aload_n 0, 1) := by decide +kernel
theorem dX1_init_31 : decode cX1_init 31 = .ok (.bipush 80, 2) := by decide +kernel
theorem dX1_init_33 : decode cX1_init 33 = .ok (.newarray .int, 2) := by decide +kernel
theorem dX1_init_35 : decode cX1_init 35 = .ok (.putfield 26, 3) := by decide +kernel
theorem dX1_init_38 : decode cX1_init 38 = .ok (.return_, 1) := by decide +kernel
theorem dX1_begin_0 : decode cX1_begin 0 = .ok (.aload_n 0, 1) := by decide +kernel
theorem dX1_begin_1 : decode cX1_begin 1 = .ok (.iload_n 1, 1) := by decide +kernel
theorem dX1_begin_2 : decode cX1_begin 2 = .ok (.putfield 9, 3) := by decide +kernel
theorem dX1_begin_5 : decode cX1_begin 5 = .ok (.aload_n 0, 1) := by decide +kernel
theorem dX1_begin_6 : decode cX1_begin 6 = .ok (.ldc 15, 2) := by decide +kernel
theorem dX1_begin_8 : decode cX1_begin 8 = .ok (.putfield 16, 3) := by decide +kernel
theorem dX1_begin_11 : decode cX1_begin 11 = .ok (.aload_n 0, 1) := by decide +kernel
theorem dX1_begin_12 : decode cX1_begin 12 = .ok (.invokevirtual 29, 3) := by decide +kernel
theorem dX1_begin_15 : decode cX1_begin 15 = .ok (.return_, 1) := by decide +kernel
theorem dX1_emptyFields_0 : decode cX1_emptyFields 0 = .ok (.iconst 0, 1) := by decide +kernel
theorem dX1_emptyFields_1 : decode cX1_emptyFields 1 = .ok (.istore_n 1, 1) := by decide +kernel
theorem dX1_emptyFields_2 : decode cX1_emptyFields 2 = .ok (.iload_n 1, 1) := by decide +kernel
theorem dX1_emptyFields_3 : decode cX1_emptyFields 3 = .ok (.iconst 4, 1) := by decide +kernel
theorem dX1_emptyFields_4 : decode cX1_emptyFields 4 = .ok (.if_icmp .ge 16, 3) := by decide +kernel
theorem dX1_emptyFields_7 : decode cX1_emptyFields 7 = .ok (.aload_n 0, 1) := by decide +kernel
theorem dX1_emptyFields_8 : decode cX1_emptyFields 8 = .ok (.getfield 19, 3) := by decide +kernel
theorem dX1_emptyFields_11 : decode cX1_emptyFields 11 = .ok (.iload_n 1, 1) := by decide +kernel
theorem dX1_emptyFields_12 : decode cX1_emptyFields 12 = .ok (.iconst 0, 1) := by decide +kernel
theorem dX1_emptyFields_13 : decode cX1_emptyFields 13 = .ok (.iastore, 1) := by decide +kernel
theorem dX1_emptyFields_14 : decode cX1_emptyFields 14 = .ok (.iinc 1 1, 3) := by decide +kernel
theorem dX1_emptyFields_17 : decode cX1_emptyFields 17 = .ok (.goto (-15), 3) := by decide +kernel
theorem dX1_emptyFields_20 : decode cX1_emptyFields 20 = .ok (.return_, 1) := by decide +kernel
theorem dX1_copyRecord_0 : decode cX1_copyRecord 0 = .ok (.aload_n 0, 1) := by decide +kernel
theorem dX1_copyRecord_1 : decode cX1_copyRecord 1 = .ok (.aload_n 1, 1) := by decide +kernel
theorem dX1_copyRecord_2 : decode cX1_copyRecord 2 = .ok (.getfield 9, 3) := by decide +kernel
theorem dX1_copyRecord_5 : decode cX1_copyRecord 5 = .ok (.putfield 9, 3) := by decide +kernel
theorem dX1_copyRecord_8 : decode cX1_copyRecord 8 = .ok (.aload_n 0, 1) := by decide +kernel
theorem dX1_copyRecord_9 : decode cX1_copyRecord 9 = .ok (.aload_n 1, 1) := by decide +kernel
theorem dX1_copyRecord_10 : decode cX1_copyRecord 10 = .ok (.getfield 16, 3) := by decide +kernel
theorem dX1_copyRecord_13 : decode cX1_copyRecord 13 = .ok (.putfield 16, 3) := by decide +kernel
theorem dX1_copyRecord_16 : decode cX1_copyRecord 16 = .ok (.aload_n 0, 1) := by decide +kernel
theorem dX1_copyRecord_17 : decode cX1_copyRecord 17 = .ok (.aload_n 1, 1) := by decide +kernel
theorem dX1_copyRecord_18 : decode cX1_copyRecord 18 = .ok (.invokevirtual 32, 3) := by decide +kernel
theorem dX1_copyRecord_21 : decode cX1_copyRecord 21 = .ok (.return_, 1) := by decide +kernel
theorem dX1_copyFields_0 : decode cX1_copyFields 0 = .ok (.aload_n 1, 1) := by decide +kernel
theorem dX1_copyFields_1 : decode cX1_copyFields 1 = .ok (.getfield 19, 3) := by decide +kernel
theorem dX1_copyFields_4 : decode cX1_copyFields 4 = .ok (.iconst 0, 1) := by decide +kernel
theorem dX1_copyFields_5 : decode cX1_copyFields 5 = .ok (.aload_n 0, 1) := by decide +kernel
theorem dX1_copyFields_6 : decode cX1_copyFields 6 = .ok (.getfield 19, 3) := by decide +kernel
theorem dX1_copyFields_9 : decode cX1_copyFields 9 = .ok (.iconst 0, 1) := by decide +kernel
theorem dX1_copyFields_10 : decode cX1_copyFields 10 = .ok (.iconst 4, 1) := by decide +kernel
theorem dX1_copyFields_11 : decode cX1_copyFields 11 = .ok (.invokestatic 36, 3) := by decide +kernel
theorem dX1_copyFields_14 : decode cX1_copyFields 14 = .ok (.aload_n 1, 1) := by decide +kernel
theorem dX1_copyFields_15 : decode cX1_copyFields 15 = .ok (.getfield 23, 3) := by decide +kernel
theorem dX1_copyFields_18 : decode cX1_copyFields 18 = .ok (.iconst 0, 1) := by decide +kernel
theorem dX1_copyFields_19 : decode cX1_copyFields 19 = .ok (.aload_n 0, 1) := by decide +kernel
theorem dX1_copyFields_20 : decode cX1_copyFields 20 = .ok (.getfield 23, 3) := by decide +kernel
theorem dX1_copyFields_23 : decode cX1_copyFields 23 = .ok (.iconst 0, 1) := by decide +kernel
theorem dX1_copyFields_24 : decode cX1_copyFields 24 = .ok (.bipush 20, 2) := by decide +kernel
theorem dX1_copyFields_26 : decode cX1_copyFields 26 = .ok (.invokestatic 36, 3) := by decide +kernel
theorem dX1_copyFields_29 : decode cX1_copyFields 29 = .ok (.aload_n 1, 1) := by decide +kernel
theorem dX1_copyFields_30 : decode cX1_copyFields 30 = .ok (.getfield 26, 3) := by decide +kernel
theorem dX1_copyFields_33 : decode cX1_copyFields 33 = .ok (.iconst 0, 1) := by decide +kernel
theorem dX1_copyFields_34 : decode cX1_copyFields 34 = .ok (.aload_n 0, 1) := by decide +kernel
theorem dX1_copyFields_35 : decode cX1_copyFields 35 = .ok (.getfield 26, 3) := by decide +kernel
theorem dX1_copyFields_38 : decode cX1_copyFields 38 = .ok (.iconst 0, 1) := by decide +kernel
theorem dX1_copyFields_39 : decode cX1_copyFields 39 = .ok (.bipush 80, 2) := by decide +kernel
theorem dX1_copyFields_41 : decode cX1_copyFields 41 = .ok (.invokestatic 36, 3) := by decide +kernel
theorem dX1_copyFields_44 : decode cX1_copyFields 44 = .ok (.return_, 1) := by decide +kernel
theorem dX1_isOpenTo_0 : decode cX1_isOpenTo 0 = .ok (.aload_n 0, 1) := by decide +kernel
theorem dX1_isOpenTo_1 : decode cX1_isOpenTo 1 = .ok (.getfield 16, 3) := by decide +kernel
theorem dX1_isOpenTo_4 : decode cX1_isOpenTo 4 = .ok (.ldc 15, 2) := by decide +kernel
theorem dX1_isOpenTo_6 : decode cX1_isOpenTo 6 = .ok (.if_icmp .eq 11, 3) := by decide +kernel
theorem dX1_isOpenTo_9 : decode cX1_isOpenTo 9 = .ok (.aload_n 0, 1) := by decide +kernel
theorem dX1_isOpenTo_10 : decode cX1_isOpenTo 10 = .ok (.getfield 16, 3) := by decide +kernel
theorem dX1_isOpenTo_13 : decode cX1_isOpenTo 13 = .ok (.iload_n 1, 1) := by decide +kernel
theorem dX1_isOpenTo_14 : decode cX1_isOpenTo 14 = .ok (.if_icmp .ne 7, 3) := by decide +kernel
theorem dX1_isOpenTo_17 : decode cX1_isOpenTo 17 = .ok (.iconst 1, 1) := by decide +kernel
theorem dX1_isOpenTo_18 : decode cX1_isOpenTo 18 = .ok (.goto 4, 3) := by decide +kernel
theorem dX1_isOpenTo_21 : decode cX1_isOpenTo 21 = .ok (.iconst 0, 1) := by decide +kernel
theorem dX1_isOpenTo_22 : decode cX1_isOpenTo 22 = .ok (.ireturn, 1) := by decide +kernel
theorem dX1_hasValue_0 : decode cX1_hasValue 0 = .ok (.iload_n 1, 1) := by decide +kernel
theorem dX1_hasValue_1 : decode cX1_hasValue 1 = .ok (.iconst 4, 1) := by decide +kernel
theorem dX1_hasValue_2 : decode cX1_hasValue 2 = .ok (.invokestatic 42, 3) := by decide +kernel
theorem dX1_hasValue_5 : decode cX1_hasValue 5 = .ok (.ifCond .eq 20, 3) := by decide +kernel
theorem dX1_hasValue_8 : decode cX1_hasValue 8 = .ok (.iload_n 2, 1) := by decide +kernel
theorem dX1_hasValue_9 : decode cX1_hasValue 9 = .ok (.aload_n 0, 1) := by decide +kernel
theorem dX1_hasValue_10 : decode cX1_hasValue 10 = .ok (.getfield 19, 3) := by decide +kernel
theorem dX1_hasValue_13 : decode cX1_hasValue 13 = .ok (.iload_n 1, 1) := by decide +kernel
theorem dX1_hasValue_14 : decode cX1_hasValue 14 = .ok (.iaload, 1) := by decide +kernel
theorem dX1_hasValue_15 : decode cX1_hasValue 15 = .ok (.invokestatic 42, 3) := by decide +kernel
theorem dX1_hasValue_18 : decode cX1_hasValue 18 = .ok (.ifCond .eq 7, 3) := by decide +kernel
theorem dX1_hasValue_21 : decode cX1_hasValue 21 = .ok (.iconst 1, 1) := by decide +kernel
theorem dX1_hasValue_22 : decode cX1_hasValue 22 = .ok (.goto 4, 3) := by decide +kernel
theorem dX1_hasValue_25 : decode cX1_hasValue 25 = .ok (.iconst 0, 1) := by decide +kernel
theorem dX1_hasValue_26 : decode cX1_hasValue 26 = .ok (.ireturn, 1) := by decide +kernel
theorem dX1_hasSub_0 : decode cX1_hasSub 0 = .ok (.aload_n 0, 1) := by decide +kernel
theorem dX1_hasSub_1 : decode cX1_hasSub 1 = .ok (.iload_n 1, 1) := by decide +kernel
theorem dX1_hasSub_2 : decode cX1_hasSub 2 = .ok (.iload_n 2, 1) := by decide +kernel
theorem dX1_hasSub_3 : decode cX1_hasSub 3 = .ok (.invokevirtual 46, 3) := by decide +kernel
theorem dX1_hasSub_6 : decode cX1_hasSub 6 = .ok (.ifCond .eq 20, 3) := by decide +kernel
theorem dX1_hasSub_9 : decode cX1_hasSub 9 = .ok (.iload_n 3, 1) := by decide +kernel
theorem dX1_hasSub_10 : decode cX1_hasSub 10 = .ok (.aload_n 0, 1) := by decide +kernel
theorem dX1_hasSub_11 : decode cX1_hasSub 11 = .ok (.iload_n 1, 1) := by decide +kernel
theorem dX1_hasSub_12 : decode cX1_hasSub 12 = .ok (.iload_n 2, 1) := by decide +kernel
theorem dX1_hasSub_13 : decode cX1_hasSub 13 = .ok (.invokevirtual 49, 3) := by decide +kernel
theorem dX1_hasSub_16 : decode cX1_hasSub 16 = .ok (.invokestatic 42, 3) := by decide +kernel
theorem dX1_hasSub_19 : decode cX1_hasSub 19 = .ok (.ifCond .eq 7, 3) := by decide +kernel
theorem dX1_hasSub_22 : decode cX1_hasSub 22 = .ok (.iconst 1, 1) := by decide +kernel
theorem dX1_hasSub_23 : decode cX1_hasSub 23 = .ok (.goto 4, 3) := by decide +kernel
theorem dX1_hasSub_26 : decode cX1_hasSub 26 = .ok (.iconst 0, 1) := by decide +kernel
theorem dX1_hasSub_27 : decode cX1_hasSub 27 = .ok (.ireturn, 1) := by decide +kernel
theorem dX1_hasPart_0 : decode cX1_hasPart 0 = .ok (.iload_n 3, 1) := by decide +kernel
theorem dX1_hasPart_1 : decode cX1_hasPart 1 = .ok (.iconst (-1), 1) := by decide +kernel
theorem dX1_hasPart_2 : decode cX1_hasPart 2 = .ok (.if_icmp .ne 10, 3) := by decide +kernel
theorem dX1_hasPart_5 : decode cX1_hasPart 5 = .ok (.aload_n 0, 1) := by decide +kernel
theorem dX1_hasPart_6 : decode cX1_hasPart 6 = .ok (.iload_n 1, 1) := by decide +kernel
theorem dX1_hasPart_7 : decode cX1_hasPart 7 = .ok (.iload_n 2, 1) := by decide +kernel
theorem dX1_hasPart_8 : decode cX1_hasPart 8 = .ok (.invokevirtual 46, 3) := by decide +kernel
theorem dX1_hasPart_11 : decode cX1_hasPart 11 = .ok (.ireturn, 1) := by decide +kernel
theorem dX1_hasPart_12 : decode cX1_hasPart 12 = .ok (.aload_n 0, 1) := by decide +kernel
theorem dX1_hasPart_13 : decode cX1_hasPart 13 = .ok (.iload_n 1, 1) := by decide +kernel
theorem dX1_hasPart_14 : decode cX1_hasPart 14 = .ok (.iload_n 2, 1) := by decide +kernel
theorem dX1_hasPart_15 : decode cX1_hasPart 15 = .ok (.iload_n 3, 1) := by decide +kernel
theorem dX1_hasPart_16 : decode cX1_hasPart 16 = .ok (.invokevirtual 53, 3) := by decide +kernel
theorem dX1_hasPart_19 : decode cX1_hasPart 19 = .ok (.ireturn, 1) := by decide +kernel
theorem dX1_hasRoomPlace_0 : decode cX1_hasRoomPlace 0 = .ok (.iload_n 3, 1) := by decide +kernel
theorem dX1_hasRoomPlace_1 : decode cX1_hasRoomPlace 1 = .ok (.iconst (-1), 1) := by decide +kernel
theorem dX1_hasRoomPlace_2 : decode cX1_hasRoomPlace 2 = .ok (.if_icmp .ne 32, 3) := by decide +kernel
theorem dX1_hasRoomPlace_5 : decode cX1_hasRoomPlace 5 = .ok (.iload_n 1, 1) := by decide +kernel
theorem dX1_hasRoomPlace_6 : decode cX1_hasRoomPlace 6 = .ok (.iconst 4, 1) := by decide +kernel
theorem dX1_hasRoomPlace_7 : decode cX1_hasRoomPlace 7 = .ok (.invokestatic 42, 3) := by decide +kernel
theorem dX1_hasRoomPlace_10 : decode cX1_hasRoomPlace 10 = .ok (.ifCond .eq 22, 3) := by decide +kernel
theorem dX1_hasRoomPlace_13 : decode cX1_hasRoomPlace 13 = .ok (.iload_n 2, 1) := by decide +kernel
theorem dX1_hasRoomPlace_14 : decode cX1_hasRoomPlace 14 = .ok (.aload_n 0, 1) := by decide +kernel
theorem dX1_hasRoomPlace_15 : decode cX1_hasRoomPlace 15 = .ok (.getfield 19, 3) := by decide +kernel
theorem dX1_hasRoomPlace_18 : decode cX1_hasRoomPlace 18 = .ok (.iload_n 1, 1) := by decide +kernel
theorem dX1_hasRoomPlace_19 : decode cX1_hasRoomPlace 19 = .ok (.iaload, 1) := by decide +kernel
theorem dX1_hasRoomPlace_20 : decode cX1_hasRoomPlace 20 = .ok (.iconst 1, 1) := by decide +kernel
theorem dX1_hasRoomPlace_21 : decode cX1_hasRoomPlace 21 = .ok (.iadd, 1) := by decide +kernel
theorem dX1_hasRoomPlace_22 : decode cX1_hasRoomPlace 22 = .ok (.invokestatic 42, 3) := by decide +kernel
theorem dX1_hasRoomPlace_25 : decode cX1_hasRoomPlace 25 = .ok (.ifCond .eq 7, 3) := by decide +kernel
theorem dX1_hasRoomPlace_28 : decode cX1_hasRoomPlace 28 = .ok (.iconst 1, 1) := by decide +kernel
theorem dX1_hasRoomPlace_29 : decode cX1_hasRoomPlace 29 = .ok (.goto 4, 3) := by decide +kernel
theorem dX1_hasRoomPlace_32 : decode cX1_hasRoomPlace 32 = .ok (.iconst 0, 1) := by decide +kernel
theorem dX1_hasRoomPlace_33 : decode cX1_hasRoomPlace 33 = .ok (.ireturn, 1) := by decide +kernel
theorem dX1_hasRoomPlace_34 : decode cX1_hasRoomPlace 34 = .ok (.aload_n 0, 1) := by decide +kernel
theorem dX1_hasRoomPlace_35 : decode cX1_hasRoomPlace 35 = .ok (.iload_n 1, 1) := by decide +kernel
theorem dX1_hasRoomPlace_36 : decode cX1_hasRoomPlace 36 = .ok (.iload_n 2, 1) := by decide +kernel
theorem dX1_hasRoomPlace_37 : decode cX1_hasRoomPlace 37 = .ok (.invokevirtual 46, 3) := by decide +kernel
theorem dX1_hasRoomPlace_40 : decode cX1_hasRoomPlace 40 = .ok (.ifCond .eq 22, 3) := by decide +kernel
theorem dX1_hasRoomPlace_43 : decode cX1_hasRoomPlace 43 = .ok (.iload_n 3, 1) := by decide +kernel
theorem dX1_hasRoomPlace_44 : decode cX1_hasRoomPlace 44 = .ok (.aload_n 0, 1) := by decide +kernel
theorem dX1_hasRoomPlace_45 : decode cX1_hasRoomPlace 45 = .ok (.iload_n 1, 1) := by decide +kernel
theorem dX1_hasRoomPlace_46 : decode cX1_hasRoomPlace 46 = .ok (.iload_n 2, 1) := by decide +kernel
theorem dX1_hasRoomPlace_47 : decode cX1_hasRoomPlace 47 = .ok (.invokevirtual 49, 3) := by decide +kernel
theorem dX1_hasRoomPlace_50 : decode cX1_hasRoomPlace 50 = .ok (.iconst 1, 1) := by decide +kernel
theorem dX1_hasRoomPlace_51 : decode cX1_hasRoomPlace 51 = .ok (.iadd, 1) := by decide +kernel
theorem dX1_hasRoomPlace_52 : decode cX1_hasRoomPlace 52 = .ok (.invokestatic 42, 3) := by decide +kernel
theorem dX1_hasRoomPlace_55 : decode cX1_hasRoomPlace 55 = .ok (.ifCond .eq 7, 3) := by decide +kernel
theorem dX1_hasRoomPlace_58 : decode cX1_hasRoomPlace 58 = .ok (.iconst 1, 1) := by decide +kernel
theorem dX1_hasRoomPlace_59 : decode cX1_hasRoomPlace 59 = .ok (.goto 4, 3) := by decide +kernel
theorem dX1_hasRoomPlace_62 : decode cX1_hasRoomPlace 62 = .ok (.iconst 0, 1) := by decide +kernel
theorem dX1_hasRoomPlace_63 : decode cX1_hasRoomPlace 63 = .ok (.ireturn, 1) := by decide +kernel
theorem dX1_valueCount_0 : decode cX1_valueCount 0 = .ok (.aload_n 0, 1) := by decide +kernel
theorem dX1_valueCount_1 : decode cX1_valueCount 1 = .ok (.getfield 19, 3) := by decide +kernel
theorem dX1_valueCount_4 : decode cX1_valueCount 4 = .ok (.iload_n 1, 1) := by decide +kernel
theorem dX1_valueCount_5 : decode cX1_valueCount 5 = .ok (.iaload, 1) := by decide +kernel
theorem dX1_valueCount_6 : decode cX1_valueCount 6 = .ok (.ireturn, 1) := by decide +kernel
theorem dX1_subCount_0 : decode cX1_subCount 0 = .ok (.aload_n 0, 1) := by decide +kernel
theorem dX1_subCount_1 : decode cX1_subCount 1 = .ok (.getfield 23, 3) := by decide +kernel
theorem dX1_subCount_4 : decode cX1_subCount 4 = .ok (.iload_n 1, 1) := by decide +kernel
theorem dX1_subCount_5 : decode cX1_subCount 5 = .ok (.iconst 5, 1) := by decide +kernel
theorem dX1_subCount_6 : decode cX1_subCount 6 = .ok (.imul, 1) := by decide +kernel
theorem dX1_subCount_7 : decode cX1_subCount 7 = .ok (.iload_n 2, 1) := by decide +kernel
theorem dX1_subCount_8 : decode cX1_subCount 8 = .ok (.iadd, 1) := by decide +kernel
theorem dX1_subCount_9 : decode cX1_subCount 9 = .ok (.iaload, 1) := by decide +kernel
theorem dX1_subCount_10 : decode cX1_subCount 10 = .ok (.ireturn, 1) := by decide +kernel
theorem dX1_allSubCount_0 : decode cX1_allSubCount 0 = .ok (.iconst 0, 1) := by decide +kernel
theorem dX1_allSubCount_1 : decode cX1_allSubCount 1 = .ok (.istore_n 1, 1) := by decide +kernel
theorem dX1_allSubCount_2 : decode cX1_allSubCount 2 = .ok (.iconst 0, 1) := by decide +kernel
theorem dX1_allSubCount_3 : decode cX1_allSubCount 3 = .ok (.istore_n 2, 1) := by decide +kernel
theorem dX1_allSubCount_4 : decode cX1_allSubCount 4 = .ok (.iload_n 2, 1) := by decide +kernel
theorem dX1_allSubCount_5 : decode cX1_allSubCount 5 = .ok (.iconst 4, 1) := by decide +kernel
theorem dX1_allSubCount_6 : decode cX1_allSubCount 6 = .ok (.if_icmp .ge 36, 3) := by decide +kernel
theorem dX1_allSubCount_9 : decode cX1_allSubCount 9 = .ok (.iconst 0, 1) := by decide +kernel
theorem dX1_allSubCount_10 : decode cX1_allSubCount 10 = .ok (.istore_n 3, 1) := by decide +kernel
theorem dX1_allSubCount_11 : decode cX1_allSubCount 11 = .ok (.iload_n 3, 1) := by decide +kernel
theorem dX1_allSubCount_12 : decode cX1_allSubCount 12 = .ok (.aload_n 0, 1) := by decide +kernel
theorem dX1_allSubCount_13 : decode cX1_allSubCount 13 = .ok (.getfield 19, 3) := by decide +kernel
theorem dX1_allSubCount_16 : decode cX1_allSubCount 16 = .ok (.iload_n 2, 1) := by decide +kernel
theorem dX1_allSubCount_17 : decode cX1_allSubCount 17 = .ok (.iaload, 1) := by decide +kernel
theorem dX1_allSubCount_18 : decode cX1_allSubCount 18 = .ok (.if_icmp .ge 18, 3) := by decide +kernel
theorem dX1_allSubCount_21 : decode cX1_allSubCount 21 = .ok (.iload_n 1, 1) := by decide +kernel
theorem dX1_allSubCount_22 : decode cX1_allSubCount 22 = .ok (.aload_n 0, 1) := by decide +kernel
theorem dX1_allSubCount_23 : decode cX1_allSubCount 23 = .ok (.iload_n 2, 1) := by decide +kernel
theorem dX1_allSubCount_24 : decode cX1_allSubCount 24 = .ok (.iload_n 3, 1) := by decide +kernel
theorem dX1_allSubCount_25 : decode cX1_allSubCount 25 = .ok (.invokevirtual 49, 3) := by decide +kernel
theorem dX1_allSubCount_28 : decode cX1_allSubCount 28 = .ok (.iadd, 1) := by decide +kernel
theorem dX1_allSubCount_29 : decode cX1_allSubCount 29 = .ok (.istore_n 1, 1) := by decide +kernel
theorem dX1_allSubCount_30 : decode cX1_allSubCount 30 = .ok (.iinc 3 1, 3) := by decide +kernel
theorem dX1_allSubCount_33 : decode cX1_allSubCount 33 = .ok (.goto (-22), 3) := by decide +kernel
theorem dX1_allSubCount_36 : decode cX1_allSubCount 36 = .ok (.iinc 2 1, 3) := by decide +kernel
theorem dX1_allSubCount_39 : decode cX1_allSubCount 39 = .ok (.goto (-35), 3) := by decide +kernel
theorem dX1_allSubCount_42 : decode cX1_allSubCount 42 = .ok (.iload_n 1, 1) := by decide +kernel
theorem dX1_allSubCount_43 : decode cX1_allSubCount 43 = .ok (.ireturn, 1) := by decide +kernel
theorem dX1_numberOf_0 : decode cX1_numberOf 0 = .ok (.aload_n 0, 1) := by decide +kernel
theorem dX1_numberOf_1 : decode cX1_numberOf 1 = .ok (.getfield 26, 3) := by decide +kernel
theorem dX1_numberOf_4 : decode cX1_numberOf 4 = .ok (.iload_n 1, 1) := by decide +kernel
theorem dX1_numberOf_5 : decode cX1_numberOf 5 = .ok (.bipush 20, 2) := by decide +kernel
theorem dX1_numberOf_7 : decode cX1_numberOf 7 = .ok (.imul, 1) := by decide +kernel
theorem dX1_numberOf_8 : decode cX1_numberOf 8 = .ok (.iload_n 2, 1) := by decide +kernel
theorem dX1_numberOf_9 : decode cX1_numberOf 9 = .ok (.iconst 4, 1) := by decide +kernel
theorem dX1_numberOf_10 : decode cX1_numberOf 10 = .ok (.imul, 1) := by decide +kernel
theorem dX1_numberOf_11 : decode cX1_numberOf 11 = .ok (.iadd, 1) := by decide +kernel
theorem dX1_numberOf_12 : decode cX1_numberOf 12 = .ok (.iload_n 3, 1) := by decide +kernel
theorem dX1_numberOf_13 : decode cX1_numberOf 13 = .ok (.iadd, 1) := by decide +kernel
theorem dX1_numberOf_14 : decode cX1_numberOf 14 = .ok (.iaload, 1) := by decide +kernel
theorem dX1_numberOf_15 : decode cX1_numberOf 15 = .ok (.ireturn, 1) := by decide +kernel
theorem dX1_setNumber_0 : decode cX1_setNumber 0 = .ok (.aload_n 0, 1) := by decide +kernel
theorem dX1_setNumber_1 : decode cX1_setNumber 1 = .ok (.getfield 26, 3) := by decide +kernel
theorem dX1_setNumber_4 : decode cX1_setNumber 4 = .ok (.iload_n 1, 1) := by decide +kernel
theorem dX1_setNumber_5 : decode cX1_setNumber 5 = .ok (.bipush 20, 2) := by decide +kernel
theorem dX1_setNumber_7 : decode cX1_setNumber 7 = .ok (.imul, 1) := by decide +kernel
theorem dX1_setNumber_8 : decode cX1_setNumber 8 = .ok (.iload_n 2, 1) := by decide +kernel
theorem dX1_setNumber_9 : decode cX1_setNumber 9 = .ok (.iconst 4, 1) := by decide +kernel
theorem dX1_setNumber_10 : decode cX1_setNumber 10 = .ok (.imul, 1) := by decide +kernel
theorem dX1_setNumber_11 : decode cX1_setNumber 11 = .ok (.iadd, 1) := by decide +kernel
theorem dX1_setNumber_12 : decode cX1_setNumber 12 = .ok (.iload_n 3, 1) := by decide +kernel
theorem dX1_setNumber_13 : decode cX1_setNumber 13 = .ok (.iadd, 1) := by decide +kernel
theorem dX1_setNumber_14 : decode cX1_setNumber 14 = .ok (.iload 4, 2) := by decide +kernel
theorem dX1_setNumber_16 : decode cX1_setNumber 16 = .ok (.iastore, 1) := by decide +kernel
theorem dX1_setNumber_17 : decode cX1_setNumber 17 = .ok (.return_, 1) := by decide +kernel
theorem dX1_addValue_0 : decode cX1_addValue 0 = .ok (.aload_n 0, 1) := by decide +kernel
theorem dX1_addValue_1 : decode cX1_addValue 1 = .ok (.getfield 19, 3) := by decide +kernel
theorem dX1_addValue_4 : decode cX1_addValue 4 = .ok (.iload_n 1, 1) := by decide +kernel
theorem dX1_addValue_5 : decode cX1_addValue 5 = .ok (.iaload, 1) := by decide +kernel
theorem dX1_addValue_6 : decode cX1_addValue 6 = .ok (.iconst 5, 1) := by decide +kernel
theorem dX1_addValue_7 : decode cX1_addValue 7 = .ok (.if_icmp .lt 4, 3) := by decide +kernel
theorem dX1_addValue_10 : decode cX1_addValue 10 = .ok (.return_, 1) := by decide +kernel
theorem dX1_addValue_11 : decode cX1_addValue 11 = .ok (.aload_n 0, 1) := by decide +kernel
theorem dX1_addValue_12 : decode cX1_addValue 12 = .ok (.getfield 19, 3) := by decide +kernel
theorem dX1_addValue_15 : decode cX1_addValue 15 = .ok (.iload_n 1, 1) := by decide +kernel
theorem dX1_addValue_16 : decode cX1_addValue 16 = .ok (.iaload, 1) := by decide +kernel
theorem dX1_addValue_17 : decode cX1_addValue 17 = .ok (.istore 4, 2) := by decide +kernel
theorem dX1_addValue_19 : decode cX1_addValue 19 = .ok (.iload 4, 2) := by decide +kernel
theorem dX1_addValue_21 : decode cX1_addValue 21 = .ok (.iload_n 2, 1) := by decide +kernel
theorem dX1_addValue_22 : decode cX1_addValue 22 = .ok (.if_icmp .le 20, 3) := by decide +kernel
theorem dX1_addValue_25 : decode cX1_addValue 25 = .ok (.aload_n 0, 1) := by decide +kernel
theorem dX1_addValue_26 : decode cX1_addValue 26 = .ok (.iload_n 1, 1) := by decide +kernel
theorem dX1_addValue_27 : decode cX1_addValue 27 = .ok (.iload 4, 2) := by decide +kernel
theorem dX1_addValue_29 : decode cX1_addValue 29 = .ok (.iconst 1, 1) := by decide +kernel
theorem dX1_addValue_30 : decode cX1_addValue 30 = .ok (.isub, 1) := by decide +kernel
theorem dX1_addValue_31 : decode cX1_addValue 31 = .ok (.iload 4, 2) := by decide +kernel
theorem dX1_addValue_33 : decode cX1_addValue 33 = .ok (.invokevirtual 57, 3) := by decide +kernel
theorem dX1_addValue_36 : decode cX1_addValue 36 = .ok (.iinc 4 (-1), 3) := by decide +kernel
theorem dX1_addValue_39 : decode cX1_addValue 39 = .ok (.goto (-20), 3) := by decide +kernel
theorem dX1_addValue_42 : decode cX1_addValue 42 = .ok (.aload_n 0, 1) := by decide +kernel
theorem dX1_addValue_43 : decode cX1_addValue 43 = .ok (.getfield 19, 3) := by decide +kernel
theorem dX1_addValue_46 : decode cX1_addValue 46 = .ok (.iload_n 1, 1) := by decide +kernel
theorem dX1_addValue_47 : decode cX1_addValue 47 = .ok (.dup2, 1) := by decide +kernel
theorem dX1_addValue_48 : decode cX1_addValue 48 = .ok (.iaload, 1) := by decide +kernel
theorem dX1_addValue_49 : decode cX1_addValue 49 = .ok (.iconst 1, 1) := by decide +kernel
theorem dX1_addValue_50 : decode cX1_addValue 50 = .ok (.iadd, 1) := by decide +kernel
theorem dX1_addValue_51 : decode cX1_addValue 51 = .ok (.iastore, 1) := by decide +kernel
theorem dX1_addValue_52 : decode cX1_addValue 52 = .ok (.aload_n 0, 1) := by decide +kernel
theorem dX1_addValue_53 : decode cX1_addValue 53 = .ok (.getfield 23, 3) := by decide +kernel
theorem dX1_addValue_56 : decode cX1_addValue 56 = .ok (.iload_n 1, 1) := by decide +kernel
theorem dX1_addValue_57 : decode cX1_addValue 57 = .ok (.iconst 5, 1) := by decide +kernel
theorem dX1_addValue_58 : decode cX1_addValue 58 = .ok (.imul, 1) := by decide +kernel
theorem dX1_addValue_59 : decode cX1_addValue 59 = .ok (.iload_n 2, 1) := by decide +kernel
theorem dX1_addValue_60 : decode cX1_addValue 60 = .ok (.iadd, 1) := by decide +kernel
theorem dX1_addValue_61 : decode cX1_addValue 61 = .ok (.iconst 1, 1) := by decide +kernel
theorem dX1_addValue_62 : decode cX1_addValue 62 = .ok (.iastore, 1) := by decide +kernel
theorem dX1_addValue_63 : decode cX1_addValue 63 = .ok (.aload_n 0, 1) := by decide +kernel
theorem dX1_addValue_64 : decode cX1_addValue 64 = .ok (.iload_n 1, 1) := by decide +kernel
theorem dX1_addValue_65 : decode cX1_addValue 65 = .ok (.iload_n 2, 1) := by decide +kernel
theorem dX1_addValue_66 : decode cX1_addValue 66 = .ok (.iconst 0, 1) := by decide +kernel
theorem dX1_addValue_67 : decode cX1_addValue 67 = .ok (.iload_n 3, 1) := by decide +kernel
theorem dX1_addValue_68 : decode cX1_addValue 68 = .ok (.invokevirtual 61, 3) := by decide +kernel
theorem dX1_addValue_71 : decode cX1_addValue 71 = .ok (.return_, 1) := by decide +kernel
theorem dX1_addSub_0 : decode cX1_addSub 0 = .ok (.aload_n 0, 1) := by decide +kernel
theorem dX1_addSub_1 : decode cX1_addSub 1 = .ok (.iload_n 1, 1) := by decide +kernel
theorem dX1_addSub_2 : decode cX1_addSub 2 = .ok (.iload_n 2, 1) := by decide +kernel
theorem dX1_addSub_3 : decode cX1_addSub 3 = .ok (.invokevirtual 49, 3) := by decide +kernel
theorem dX1_addSub_6 : decode cX1_addSub 6 = .ok (.istore 5, 2) := by decide +kernel
theorem dX1_addSub_8 : decode cX1_addSub 8 = .ok (.iload 5, 2) := by decide +kernel
theorem dX1_addSub_10 : decode cX1_addSub 10 = .ok (.iconst 4, 1) := by decide +kernel
theorem dX1_addSub_11 : decode cX1_addSub 11 = .ok (.if_icmp .lt 4, 3) := by decide +kernel
theorem dX1_addSub_14 : decode cX1_addSub 14 = .ok (.return_, 1) := by decide +kernel
theorem dX1_addSub_15 : decode cX1_addSub 15 = .ok (.iload 5, 2) := by decide +kernel
theorem dX1_addSub_17 : decode cX1_addSub 17 = .ok (.istore 6, 2) := by decide +kernel
theorem dX1_addSub_19 : decode cX1_addSub 19 = .ok (.iload 6, 2) := by decide +kernel
theorem dX1_addSub_21 : decode cX1_addSub 21 = .ok (.iload_n 3, 1) := by decide +kernel
theorem dX1_addSub_22 : decode cX1_addSub 22 = .ok (.if_icmp .le 27, 3) := by decide +kernel
theorem dX1_addSub_25 : decode cX1_addSub 25 = .ok (.aload_n 0, 1) := by decide +kernel
theorem dX1_addSub_26 : decode cX1_addSub 26 = .ok (.iload_n 1, 1) := by decide +kernel
theorem dX1_addSub_27 : decode cX1_addSub 27 = .ok (.iload_n 2, 1) := by decide +kernel
theorem dX1_addSub_28 : decode cX1_addSub 28 = .ok (.iload 6, 2) := by decide +kernel
theorem dX1_addSub_30 : decode cX1_addSub 30 = .ok (.aload_n 0, 1) := by decide +kernel
theorem dX1_addSub_31 : decode cX1_addSub 31 = .ok (.iload_n 1, 1) := by decide +kernel
theorem dX1_addSub_32 : decode cX1_addSub 32 = .ok (.iload_n 2, 1) := by decide +kernel
theorem dX1_addSub_33 : decode cX1_addSub 33 = .ok (.iload 6, 2) := by decide +kernel
theorem dX1_addSub_35 : decode cX1_addSub 35 = .ok (.iconst 1, 1) := by decide +kernel
theorem dX1_addSub_36 : decode cX1_addSub 36 = .ok (.isub, 1) := by decide +kernel
theorem dX1_addSub_37 : decode cX1_addSub 37 = .ok (.invokevirtual 65, 3) := by decide +kernel
theorem dX1_addSub_40 : decode cX1_addSub 40 = .ok (.invokevirtual 61, 3) := by decide +kernel
theorem dX1_addSub_43 : decode cX1_addSub 43 = .ok (.iinc 6 (-1), 3) := by decide +kernel
theorem dX1_addSub_46 : decode cX1_addSub 46 = .ok (.goto (-27), 3) := by decide +kernel
theorem dX1_addSub_49 : decode cX1_addSub 49 = .ok (.aload_n 0, 1) := by decide +kernel
theorem dX1_addSub_50 : decode cX1_addSub 50 = .ok (.getfield 23, 3) := by decide +kernel
theorem dX1_addSub_53 : decode cX1_addSub 53 = .ok (.iload_n 1, 1) := by decide +kernel
theorem dX1_addSub_54 : decode cX1_addSub 54 = .ok (.iconst 5, 1) := by decide +kernel
theorem dX1_addSub_55 : decode cX1_addSub 55 = .ok (.imul, 1) := by decide +kernel
theorem dX1_addSub_56 : decode cX1_addSub 56 = .ok (.iload_n 2, 1) := by decide +kernel
theorem dX1_addSub_57 : decode cX1_addSub 57 = .ok (.iadd, 1) := by decide +kernel
theorem dX1_addSub_58 : decode cX1_addSub 58 = .ok (.iload 5, 2) := by decide +kernel
theorem dX1_addSub_60 : decode cX1_addSub 60 = .ok (.iconst 1, 1) := by decide +kernel
theorem dX1_addSub_61 : decode cX1_addSub 61 = .ok (.iadd, 1) := by decide +kernel
theorem dX1_addSub_62 : decode cX1_addSub 62 = .ok (.iastore, 1) := by decide +kernel
theorem dX1_addSub_63 : decode cX1_addSub 63 = .ok (.aload_n 0, 1) := by decide +kernel
theorem dX1_addSub_64 : decode cX1_addSub 64 = .ok (.iload_n 1, 1) := by decide +kernel
theorem dX1_addSub_65 : decode cX1_addSub 65 = .ok (.iload_n 2, 1) := by decide +kernel
theorem dX1_addSub_66 : decode cX1_addSub 66 = .ok (.iload_n 3, 1) := by decide +kernel
theorem dX1_addSub_67 : decode cX1_addSub 67 = .ok (.iload 4, 2) := by decide +kernel
theorem dX1_addSub_69 : decode cX1_addSub 69 = .ok (.invokevirtual 61, 3) := by decide +kernel
theorem dX1_addSub_72 : decode cX1_addSub 72 = .ok (.return_, 1) := by decide +kernel
theorem dX1_dropValue_0 : decode cX1_dropValue 0 = .ok (.iload_n 2, 1) := by decide +kernel
theorem dX1_dropValue_1 : decode cX1_dropValue 1 = .ok (.iconst 1, 1) := by decide +kernel
theorem dX1_dropValue_2 : decode cX1_dropValue 2 = .ok (.iadd, 1) := by decide +kernel
theorem dX1_dropValue_3 : decode cX1_dropValue 3 = .ok (.istore_n 3, 1) := by decide +kernel
theorem dX1_dropValue_4 : decode cX1_dropValue 4 = .ok (.iload_n 3, 1) := by decide +kernel
theorem dX1_dropValue_5 : decode cX1_dropValue 5 = .ok (.aload_n 0, 1) := by decide +kernel
theorem dX1_dropValue_6 : decode cX1_dropValue 6 = .ok (.getfield 19, 3) := by decide +kernel
theorem dX1_dropValue_9 : decode cX1_dropValue 9 = .ok (.iload_n 1, 1) := by decide +kernel
theorem dX1_dropValue_10 : decode cX1_dropValue 10 = .ok (.iaload, 1) := by decide +kernel
theorem dX1_dropValue_11 : decode cX1_dropValue 11 = .ok (.if_icmp .ge 18, 3) := by decide +kernel
theorem dX1_dropValue_14 : decode cX1_dropValue 14 = .ok (.aload_n 0, 1) := by decide +kernel
theorem dX1_dropValue_15 : decode cX1_dropValue 15 = .ok (.iload_n 1, 1) := by decide +kernel
theorem dX1_dropValue_16 : decode cX1_dropValue 16 = .ok (.iload_n 3, 1) := by decide +kernel
theorem dX1_dropValue_17 : decode cX1_dropValue 17 = .ok (.iload_n 3, 1) := by decide +kernel
theorem dX1_dropValue_18 : decode cX1_dropValue 18 = .ok (.iconst 1, 1) := by decide +kernel
theorem dX1_dropValue_19 : decode cX1_dropValue 19 = .ok (.isub, 1) := by decide +kernel
theorem dX1_dropValue_20 : decode cX1_dropValue 20 = .ok (.invokevirtual 57, 3) := by decide +kernel
theorem dX1_dropValue_23 : decode cX1_dropValue 23 = .ok (.iinc 3 1, 3) := by decide +kernel
theorem dX1_dropValue_26 : decode cX1_dropValue 26 = .ok (.goto (-22), 3) := by decide +kernel
theorem dX1_dropValue_29 : decode cX1_dropValue 29 = .ok (.aload_n 0, 1) := by decide +kernel
theorem dX1_dropValue_30 : decode cX1_dropValue 30 = .ok (.getfield 19, 3) := by decide +kernel
theorem dX1_dropValue_33 : decode cX1_dropValue 33 = .ok (.iload_n 1, 1) := by decide +kernel
theorem dX1_dropValue_34 : decode cX1_dropValue 34 = .ok (.dup2, 1) := by decide +kernel
theorem dX1_dropValue_35 : decode cX1_dropValue 35 = .ok (.iaload, 1) := by decide +kernel
theorem dX1_dropValue_36 : decode cX1_dropValue 36 = .ok (.iconst 1, 1) := by decide +kernel
theorem dX1_dropValue_37 : decode cX1_dropValue 37 = .ok (.isub, 1) := by decide +kernel
theorem dX1_dropValue_38 : decode cX1_dropValue 38 = .ok (.iastore, 1) := by decide +kernel
theorem dX1_dropValue_39 : decode cX1_dropValue 39 = .ok (.return_, 1) := by decide +kernel
theorem dX1_dropSub_0 : decode cX1_dropSub 0 = .ok (.aload_n 0, 1) := by decide +kernel
theorem dX1_dropSub_1 : decode cX1_dropSub 1 = .ok (.iload_n 1, 1) := by decide +kernel
theorem dX1_dropSub_2 : decode cX1_dropSub 2 = .ok (.iload_n 2, 1) := by decide +kernel
theorem dX1_dropSub_3 : decode cX1_dropSub 3 = .ok (.invokevirtual 49, 3) := by decide +kernel
theorem dX1_dropSub_6 : decode cX1_dropSub 6 = .ok (.istore 4, 2) := by decide +kernel
theorem dX1_dropSub_8 : decode cX1_dropSub 8 = .ok (.iload_n 3, 1) := by decide +kernel
theorem dX1_dropSub_9 : decode cX1_dropSub 9 = .ok (.iconst 1, 1) := by decide +kernel
theorem dX1_dropSub_10 : decode cX1_dropSub 10 = .ok (.iadd, 1) := by decide +kernel
theorem dX1_dropSub_11 : decode cX1_dropSub 11 = .ok (.istore 5, 2) := by decide +kernel
theorem dX1_dropSub_13 : decode cX1_dropSub 13 = .ok (.iload 5, 2) := by decide +kernel
theorem dX1_dropSub_15 : decode cX1_dropSub 15 = .ok (.iload 4, 2) := by decide +kernel
theorem dX1_dropSub_17 : decode cX1_dropSub 17 = .ok (.if_icmp .ge 27, 3) := by decide +kernel
theorem dX1_dropSub_20 : decode cX1_dropSub 20 = .ok (.aload_n 0, 1) := by decide +kernel
theorem dX1_dropSub_21 : decode cX1_dropSub 21 = .ok (.iload_n 1, 1) := by decide +kernel
theorem dX1_dropSub_22 : decode cX1_dropSub 22 = .ok (.iload_n 2, 1) := by decide +kernel
theorem dX1_dropSub_23 : decode cX1_dropSub 23 = .ok (.iload 5, 2) := by decide +kernel
theorem dX1_dropSub_25 : decode cX1_dropSub 25 = .ok (.iconst 1, 1) := by decide +kernel
theorem dX1_dropSub_26 : decode cX1_dropSub 26 = .ok (.isub, 1) := by decide +kernel
theorem dX1_dropSub_27 : decode cX1_dropSub 27 = .ok (.aload_n 0, 1) := by decide +kernel
theorem dX1_dropSub_28 : decode cX1_dropSub 28 = .ok (.iload_n 1, 1) := by decide +kernel
theorem dX1_dropSub_29 : decode cX1_dropSub 29 = .ok (.iload_n 2, 1) := by decide +kernel
theorem dX1_dropSub_30 : decode cX1_dropSub 30 = .ok (.iload 5, 2) := by decide +kernel
theorem dX1_dropSub_32 : decode cX1_dropSub 32 = .ok (.invokevirtual 65, 3) := by decide +kernel
theorem dX1_dropSub_35 : decode cX1_dropSub 35 = .ok (.invokevirtual 61, 3) := by decide +kernel
theorem dX1_dropSub_38 : decode cX1_dropSub 38 = .ok (.iinc 5 1, 3) := by decide +kernel
theorem dX1_dropSub_41 : decode cX1_dropSub 41 = .ok (.goto (-28), 3) := by decide +kernel
theorem dX1_dropSub_44 : decode cX1_dropSub 44 = .ok (.aload_n 0, 1) := by decide +kernel
theorem dX1_dropSub_45 : decode cX1_dropSub 45 = .ok (.getfield 23, 3) := by decide +kernel
theorem dX1_dropSub_48 : decode cX1_dropSub 48 = .ok (.iload_n 1, 1) := by decide +kernel
theorem dX1_dropSub_49 : decode cX1_dropSub 49 = .ok (.iconst 5, 1) := by decide +kernel
theorem dX1_dropSub_50 : decode cX1_dropSub 50 = .ok (.imul, 1) := by decide +kernel
theorem dX1_dropSub_51 : decode cX1_dropSub 51 = .ok (.iload_n 2, 1) := by decide +kernel
theorem dX1_dropSub_52 : decode cX1_dropSub 52 = .ok (.iadd, 1) := by decide +kernel
theorem dX1_dropSub_53 : decode cX1_dropSub 53 = .ok (.iload 4, 2) := by decide +kernel
theorem dX1_dropSub_55 : decode cX1_dropSub 55 = .ok (.iconst 1, 1) := by decide +kernel
theorem dX1_dropSub_56 : decode cX1_dropSub 56 = .ok (.isub, 1) := by decide +kernel
theorem dX1_dropSub_57 : decode cX1_dropSub 57 = .ok (.iastore, 1) := by decide +kernel
theorem dX1_dropSub_58 : decode cX1_dropSub 58 = .ok (.return_, 1) := by decide +kernel
theorem dX1_moveValue_0 : decode cX1_moveValue 0 = .ok (.iload_n 1, 1) := by decide +kernel
theorem dX1_moveValue_1 : decode cX1_moveValue 1 = .ok (.iconst 5, 1) := by decide +kernel
theorem dX1_moveValue_2 : decode cX1_moveValue 2 = .ok (.imul, 1) := by decide +kernel
theorem dX1_moveValue_3 : decode cX1_moveValue 3 = .ok (.iload_n 2, 1) := by decide +kernel
theorem dX1_moveValue_4 : decode cX1_moveValue 4 = .ok (.iadd, 1) := by decide +kernel
theorem dX1_moveValue_5 : decode cX1_moveValue 5 = .ok (.istore 4, 2) := by decide +kernel
theorem dX1_moveValue_7 : decode cX1_moveValue 7 = .ok (.iload_n 1, 1) := by decide +kernel
theorem dX1_moveValue_8 : decode cX1_moveValue 8 = .ok (.iconst 5, 1) := by decide +kernel
theorem dX1_moveValue_9 : decode cX1_moveValue 9 = .ok (.imul, 1) := by decide +kernel
theorem dX1_moveValue_10 : decode cX1_moveValue 10 = .ok (.iload_n 3, 1) := by decide +kernel
theorem dX1_moveValue_11 : decode cX1_moveValue 11 = .ok (.iadd, 1) := by decide +kernel
theorem dX1_moveValue_12 : decode cX1_moveValue 12 = .ok (.istore 5, 2) := by decide +kernel
theorem dX1_moveValue_14 : decode cX1_moveValue 14 = .ok (.aload_n 0, 1) := by decide +kernel
theorem dX1_moveValue_15 : decode cX1_moveValue 15 = .ok (.getfield 23, 3) := by decide +kernel
theorem dX1_moveValue_18 : decode cX1_moveValue 18 = .ok (.iload 5, 2) := by decide +kernel
theorem dX1_moveValue_20 : decode cX1_moveValue 20 = .ok (.aload_n 0, 1) := by decide +kernel
theorem dX1_moveValue_21 : decode cX1_moveValue 21 = .ok (.getfield 23, 3) := by decide +kernel
theorem dX1_moveValue_24 : decode cX1_moveValue 24 = .ok (.iload 4, 2) := by decide +kernel
theorem dX1_moveValue_26 : decode cX1_moveValue 26 = .ok (.iaload, 1) := by decide +kernel
theorem dX1_moveValue_27 : decode cX1_moveValue 27 = .ok (.iastore, 1) := by decide +kernel
theorem dX1_moveValue_28 : decode cX1_moveValue 28 = .ok (.aload_n 0, 1) := by decide +kernel
theorem dX1_moveValue_29 : decode cX1_moveValue 29 = .ok (.getfield 26, 3) := by decide +kernel
theorem dX1_moveValue_32 : decode cX1_moveValue 32 = .ok (.iload 4, 2) := by decide +kernel
theorem dX1_moveValue_34 : decode cX1_moveValue 34 = .ok (.iconst 4, 1) := by decide +kernel
theorem dX1_moveValue_35 : decode cX1_moveValue 35 = .ok (.imul, 1) := by decide +kernel
theorem dX1_moveValue_36 : decode cX1_moveValue 36 = .ok (.aload_n 0, 1) := by decide +kernel
theorem dX1_moveValue_37 : decode cX1_moveValue 37 = .ok (.getfield 26, 3) := by decide +kernel
theorem dX1_moveValue_40 : decode cX1_moveValue 40 = .ok (.iload 5, 2) := by decide +kernel
theorem dX1_moveValue_42 : decode cX1_moveValue 42 = .ok (.iconst 4, 1) := by decide +kernel
theorem dX1_moveValue_43 : decode cX1_moveValue 43 = .ok (.imul, 1) := by decide +kernel
theorem dX1_moveValue_44 : decode cX1_moveValue 44 = .ok (.iconst 4, 1) := by decide +kernel
theorem dX1_moveValue_45 : decode cX1_moveValue 45 = .ok (.invokestatic 36, 3) := by decide +kernel
theorem dX1_moveValue_48 : decode cX1_moveValue 48 = .ok (.return_, 1) := by decide +kernel
theorem dX1_giveSubs_0 : decode cX1_giveSubs 0 = .ok (.iconst 0, 1) := by decide +kernel
theorem dX1_giveSubs_1 : decode cX1_giveSubs 1 = .ok (.istore_n 3, 1) := by decide +kernel
theorem dX1_giveSubs_2 : decode cX1_giveSubs 2 = .ok (.iload_n 3, 1) := by decide +kernel
theorem dX1_giveSubs_3 : decode cX1_giveSubs 3 = .ok (.aload_n 0, 1) := by decide +kernel
theorem dX1_giveSubs_4 : decode cX1_giveSubs 4 = .ok (.getfield 19, 3) := by decide +kernel
theorem dX1_giveSubs_7 : decode cX1_giveSubs 7 = .ok (.iload_n 1, 1) := by decide +kernel
theorem dX1_giveSubs_8 : decode cX1_giveSubs 8 = .ok (.iaload, 1) := by decide +kernel
theorem dX1_giveSubs_9 : decode cX1_giveSubs 9 = .ok (.if_icmp .ge 41, 3) := by decide +kernel
theorem dX1_giveSubs_12 : decode cX1_giveSubs 12 = .ok (.iconst 0, 1) := by decide +kernel
theorem dX1_giveSubs_13 : decode cX1_giveSubs 13 = .ok (.istore 4, 2) := by decide +kernel
theorem dX1_giveSubs_15 : decode cX1_giveSubs 15 = .ok (.iload 4, 2) := by decide +kernel
theorem dX1_giveSubs_17 : decode cX1_giveSubs 17 = .ok (.aload_n 0, 1) := by decide +kernel
theorem dX1_giveSubs_18 : decode cX1_giveSubs 18 = .ok (.iload_n 1, 1) := by decide +kernel
theorem dX1_giveSubs_19 : decode cX1_giveSubs 19 = .ok (.iload_n 3, 1) := by decide +kernel
theorem dX1_giveSubs_20 : decode cX1_giveSubs 20 = .ok (.invokevirtual 49, 3) := by decide +kernel
theorem dX1_giveSubs_23 : decode cX1_giveSubs 23 = .ok (.if_icmp .ge 21, 3) := by decide +kernel
theorem dX1_giveSubs_26 : decode cX1_giveSubs 26 = .ok (.aload_n 2, 1) := by decide +kernel
theorem dX1_giveSubs_27 : decode cX1_giveSubs 27 = .ok (.aload_n 0, 1) := by decide +kernel
theorem dX1_giveSubs_28 : decode cX1_giveSubs 28 = .ok (.iload_n 1, 1) := by decide +kernel
theorem dX1_giveSubs_29 : decode cX1_giveSubs 29 = .ok (.iload_n 3, 1) := by decide +kernel
theorem dX1_giveSubs_30 : decode cX1_giveSubs 30 = .ok (.iload 4, 2) := by decide +kernel
theorem dX1_giveSubs_32 : decode cX1_giveSubs 32 = .ok (.invokevirtual 65, 3) := by decide +kernel
theorem dX1_giveSubs_35 : decode cX1_giveSubs 35 = .ok (.invokevirtual 69, 3) := by decide +kernel
theorem dX1_giveSubs_38 : decode cX1_giveSubs 38 = .ok (.iinc 4 1, 3) := by decide +kernel
theorem dX1_giveSubs_41 : decode cX1_giveSubs 41 = .ok (.goto (-26), 3) := by decide +kernel
theorem dX1_giveSubs_44 : decode cX1_giveSubs 44 = .ok (.iinc 3 1, 3) := by decide +kernel
theorem dX1_giveSubs_47 : decode cX1_giveSubs 47 = .ok (.goto (-45), 3) := by decide +kernel
theorem dX1_giveSubs_50 : decode cX1_giveSubs 50 = .ok (.return_, 1) := by decide +kernel
theorem dX1_giveSum_0 : decode cX1_giveSum 0 = .ok (.aload_n 0, 1) := by decide +kernel
theorem dX1_giveSum_1 : decode cX1_giveSum 1 = .ok (.iload_n 1, 1) := by decide +kernel
theorem dX1_giveSum_2 : decode cX1_giveSum 2 = .ok (.aload_n 2, 1) := by decide +kernel
theorem dX1_giveSum_3 : decode cX1_giveSum 3 = .ok (.invokevirtual 75, 3) := by decide +kernel
theorem dX1_giveSum_6 : decode cX1_giveSum 6 = .ok (.aload_n 2, 1) := by decide +kernel
theorem dX1_giveSum_7 : decode cX1_giveSum 7 = .ok (.invokevirtual 79, 3) := by decide +kernel
theorem dX1_giveSum_10 : decode cX1_giveSum 10 = .ok (.istore_n 3, 1) := by decide +kernel
theorem dX1_giveSum_11 : decode cX1_giveSum 11 = .ok (.aload_n 2, 1) := by decide +kernel
theorem dX1_giveSum_12 : decode cX1_giveSum 12 = .ok (.iconst 0, 1) := by decide +kernel
theorem dX1_giveSum_13 : decode cX1_giveSum 13 = .ok (.putfield 83, 3) := by decide +kernel
theorem dX1_giveSum_16 : decode cX1_giveSum 16 = .ok (.aload_n 2, 1) := by decide +kernel
theorem dX1_giveSum_17 : decode cX1_giveSum 17 = .ok (.iload_n 3, 1) := by decide +kernel
theorem dX1_giveSum_18 : decode cX1_giveSum 18 = .ok (.invokevirtual 69, 3) := by decide +kernel
theorem dX1_giveSum_21 : decode cX1_giveSum 21 = .ok (.return_, 1) := by decide +kernel
theorem dX1_giveGreatest_0 : decode cX1_giveGreatest 0 = .ok (.iconst 0, 1) := by decide +kernel
theorem dX1_giveGreatest_1 : decode cX1_giveGreatest 1 = .ok (.istore_n 3, 1) := by decide +kernel
theorem dX1_giveGreatest_2 : decode cX1_giveGreatest 2 = .ok (.iload_n 3, 1) := by decide +kernel
theorem dX1_giveGreatest_3 : decode cX1_giveGreatest 3 = .ok (.aload_n 0, 1) := by decide +kernel
theorem dX1_giveGreatest_4 : decode cX1_giveGreatest 4 = .ok (.getfield 19, 3) := by decide +kernel
theorem dX1_giveGreatest_7 : decode cX1_giveGreatest 7 = .ok (.iload_n 1, 1) := by decide +kernel
theorem dX1_giveGreatest_8 : decode cX1_giveGreatest 8 = .ok (.iaload, 1) := by decide +kernel
theorem dX1_giveGreatest_9 : decode cX1_giveGreatest 9 = .ok (.if_icmp .ge 59, 3) := by decide +kernel
theorem dX1_giveGreatest_12 : decode cX1_giveGreatest 12 = .ok (.aload_n 0, 1) := by decide +kernel
theorem dX1_giveGreatest_13 : decode cX1_giveGreatest 13 = .ok (.iload_n 1, 1) := by decide +kernel
theorem dX1_giveGreatest_14 : decode cX1_giveGreatest 14 = .ok (.iload_n 3, 1) := by decide +kernel
theorem dX1_giveGreatest_15 : decode cX1_giveGreatest 15 = .ok (.iconst 0, 1) := by decide +kernel
theorem dX1_giveGreatest_16 : decode cX1_giveGreatest 16 = .ok (.invokevirtual 65, 3) := by decide +kernel
theorem dX1_giveGreatest_19 : decode cX1_giveGreatest 19 = .ok (.istore 4, 2) := by decide +kernel
theorem dX1_giveGreatest_21 : decode cX1_giveGreatest 21 = .ok (.iconst 1, 1) := by decide +kernel
theorem dX1_giveGreatest_22 : decode cX1_giveGreatest 22 = .ok (.istore 5, 2) := by decide +kernel
theorem dX1_giveGreatest_24 : decode cX1_giveGreatest 24 = .ok (.iload 5, 2) := by decide +kernel
theorem dX1_giveGreatest_26 : decode cX1_giveGreatest 26 = .ok (.aload_n 0, 1) := by decide +kernel
theorem dX1_giveGreatest_27 : decode cX1_giveGreatest 27 = .ok (.iload_n 1, 1) := by decide +kernel
theorem dX1_giveGreatest_28 : decode cX1_giveGreatest 28 = .ok (.iload_n 3, 1) := by decide +kernel
theorem dX1_giveGreatest_29 : decode cX1_giveGreatest 29 = .ok (.invokevirtual 49, 3) := by decide +kernel
theorem dX1_giveGreatest_32 : decode cX1_giveGreatest 32 = .ok (.if_icmp .ge 24, 3) := by decide +kernel
theorem dX1_giveGreatest_35 : decode cX1_giveGreatest 35 = .ok (.iload 4, 2) := by decide +kernel
theorem dX1_giveGreatest_37 : decode cX1_giveGreatest 37 = .ok (.aload_n 0, 1) := by decide +kernel
theorem dX1_giveGreatest_38 : decode cX1_giveGreatest 38 = .ok (.iload_n 1, 1) := by decide +kernel
theorem dX1_giveGreatest_39 : decode cX1_giveGreatest 39 = .ok (.iload_n 3, 1) := by decide +kernel
theorem dX1_giveGreatest_40 : decode cX1_giveGreatest 40 = .ok (.iload 5, 2) := by decide +kernel
theorem dX1_giveGreatest_42 : decode cX1_giveGreatest 42 = .ok (.invokevirtual 65, 3) := by decide +kernel
theorem dX1_giveGreatest_45 : decode cX1_giveGreatest 45 = .ok (.invokestatic 86, 3) := by decide +kernel
theorem dX1_giveGreatest_48 : decode cX1_giveGreatest 48 = .ok (.istore 4, 2) := by decide +kernel
theorem dX1_giveGreatest_50 : decode cX1_giveGreatest 50 = .ok (.iinc 5 1, 3) := by decide +kernel
theorem dX1_giveGreatest_53 : decode cX1_giveGreatest 53 = .ok (.goto (-29), 3) := by decide +kernel
theorem dX1_giveGreatest_56 : decode cX1_giveGreatest 56 = .ok (.aload_n 2, 1) := by decide +kernel
theorem dX1_giveGreatest_57 : decode cX1_giveGreatest 57 = .ok (.iload 4, 2) := by decide +kernel
theorem dX1_giveGreatest_59 : decode cX1_giveGreatest 59 = .ok (.invokevirtual 69, 3) := by decide +kernel
theorem dX1_giveGreatest_62 : decode cX1_giveGreatest 62 = .ok (.iinc 3 1, 3) := by decide +kernel
theorem dX1_giveGreatest_65 : decode cX1_giveGreatest 65 = .ok (.goto (-63), 3) := by decide +kernel
theorem dX1_giveGreatest_68 : decode cX1_giveGreatest 68 = .ok (.return_, 1) := by decide +kernel
theorem dX1_giveProducts_0 : decode cX1_giveProducts 0 = .ok (.aload_n 0, 1) := by decide +kernel
theorem dX1_giveProducts_1 : decode cX1_giveProducts 1 = .ok (.getfield 19, 3) := by decide +kernel
theorem dX1_giveProducts_4 : decode cX1_giveProducts 4 = .ok (.iload_n 1, 1) := by decide +kernel
theorem dX1_giveProducts_5 : decode cX1_giveProducts 5 = .ok (.iaload, 1) := by decide +kernel
theorem dX1_giveProducts_6 : decode cX1_giveProducts 6 = .ok (.aload_n 0, 1) := by decide +kernel
theorem dX1_giveProducts_7 : decode cX1_giveProducts 7 = .ok (.getfield 19, 3) := by decide +kernel
theorem dX1_giveProducts_10 : decode cX1_giveProducts 10 = .ok (.iload_n 2, 1) := by decide +kernel
theorem dX1_giveProducts_11 : decode cX1_giveProducts 11 = .ok (.iaload, 1) := by decide +kernel
theorem dX1_giveProducts_12 : decode cX1_giveProducts 12 = .ok (.invokestatic 91, 3) := by decide +kernel
theorem dX1_giveProducts_15 : decode cX1_giveProducts 15 = .ok (.istore 4, 2) := by decide +kernel
theorem dX1_giveProducts_17 : decode cX1_giveProducts 17 = .ok (.iconst 0, 1) := by decide +kernel
theorem dX1_giveProducts_18 : decode cX1_giveProducts 18 = .ok (.istore 5, 2) := by decide +kernel
theorem dX1_giveProducts_20 : decode cX1_giveProducts 20 = .ok (.iload 5, 2) := by decide +kernel
theorem dX1_giveProducts_22 : decode cX1_giveProducts 22 = .ok (.iload 4, 2) := by decide +kernel
theorem dX1_giveProducts_24 : decode cX1_giveProducts 24 = .ok (.if_icmp .ge 30, 3) := by decide +kernel
theorem dX1_giveProducts_27 : decode cX1_giveProducts 27 = .ok (.aload_n 3, 1) := by decide +kernel
theorem dX1_giveProducts_28 : decode cX1_giveProducts 28 = .ok (.aload_n 0, 1) := by decide +kernel
theorem dX1_giveProducts_29 : decode cX1_giveProducts 29 = .ok (.iload_n 1, 1) := by decide +kernel
theorem dX1_giveProducts_30 : decode cX1_giveProducts 30 = .ok (.iload 5, 2) := by decide +kernel
theorem dX1_giveProducts_32 : decode cX1_giveProducts 32 = .ok (.iconst 0, 1) := by decide +kernel
theorem dX1_giveProducts_33 : decode cX1_giveProducts 33 = .ok (.invokevirtual 65, 3) := by decide +kernel
theorem dX1_giveProducts_36 : decode cX1_giveProducts 36 = .ok (.aload_n 0, 1) := by decide +kernel
theorem dX1_giveProducts_37 : decode cX1_giveProducts 37 = .ok (.iload_n 2, 1) := by decide +kernel
theorem dX1_giveProducts_38 : decode cX1_giveProducts 38 = .ok (.iload 5, 2) := by decide +kernel
theorem dX1_giveProducts_40 : decode cX1_giveProducts 40 = .ok (.iconst 0, 1) := by decide +kernel
theorem dX1_giveProducts_41 : decode cX1_giveProducts 41 = .ok (.invokevirtual 65, 3) := by decide +kernel
theorem dX1_giveProducts_44 : decode cX1_giveProducts 44 = .ok (.imul, 1) := by decide +kernel
theorem dX1_giveProducts_45 : decode cX1_giveProducts 45 = .ok (.invokevirtual 69, 3) := by decide +kernel
theorem dX1_giveProducts_48 : decode cX1_giveProducts 48 = .ok (.iinc 5 1, 3) := by decide +kernel
theorem dX1_giveProducts_51 : decode cX1_giveProducts 51 = .ok (.goto (-31), 3) := by decide +kernel
theorem dX1_giveProducts_54 : decode cX1_giveProducts 54 = .ok (.return_, 1) := by decide +kernel
