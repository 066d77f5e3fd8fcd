theorem dX0_init_0 : decode cX0_init 0 = .ok (.aload_n 0, 1) := by decide +kernel
theorem dX0_init_1 : decode cX0_init 1 = .ok (.invokespecial 3, 3) := by decide +kernel
theorem dX0_init_4 : decode cX0_init 4 = .ok (.aload_n 0, 1) := by decide +kernel
theorem dX0_init_5 : decode cX0_init 5 = .ok (.bipush 120, 2) := by decide +kernel
theorem dX0_init_7 : decode cX0_init 7 = .ok (.newarray .int, 2) := by decide +kernel
theorem dX0_init_9 : decode cX0_init 9 = .ok (.putfield 9, 3) := by decide +kernel
theorem dX0_init_12 : decode cX0_init 12 = .ok (.return_, 1) := by decide +kernel
theorem dX0_has_0 : decode cX0_has 0 = .ok (.aload_n 0, 1) := by decide +kernel
theorem dX0_has_1 : decode cX0_has 1 = .ok (.getfield 9, 3) := by decide +kernel
theorem dX0_has_4 : decode cX0_has 4 = .ok (.iload_n 1, 1) := by decide +kernel
theorem dX0_has_5 : decode cX0_has 5 = .ok (.iaload, 1) := by decide +kernel
theorem dX0_has_6 : decode cX0_has 6 = .ok (.ifCond .eq 7, 3) := by decide +kernel
theorem dX0_has_9 : decode cX0_has 9 = .ok (.iconst 1, 1) := by decide +kernel
theorem dX0_has_10 : decode cX0_has 10 = .ok (.goto 4, 3) := by decide +kernel
theorem dX0_has_13 : decode cX0_has 13 = .ok (.iconst 0, 1) := by decide +kernel
theorem dX0_has_14 : decode cX0_has 14 = .ok (.ireturn, 1) := by decide +kernel
theorem dX0_take_0 : decode cX0_take 0 = .ok (.aload_n 0, 1) := by decide +kernel
theorem dX0_take_1 : decode cX0_take 1 = .ok (.getfield 15, 3) := by decide +kernel
theorem dX0_take_4 : decode cX0_take 4 = .ok (.ifCond .eq 23, 3) := by decide +kernel
theorem dX0_take_7 : decode cX0_take 7 = .ok (.aload_n 0, 1) := by decide +kernel
theorem dX0_take_8 : decode cX0_take 8 = .ok (.getfield 9, 3) := by decide +kernel
theorem dX0_take_11 : decode cX0_take 11 = .ok (.iload_n 1, 1) := by decide +kernel
theorem dX0_take_12 : decode cX0_take 12 = .ok (.iconst (-1), 1) := by decide +kernel
theorem dX0_take_13 : decode cX0_take 13 = .ok (.iastore, 1) := by decide +kernel
theorem dX0_take_14 : decode cX0_take 14 = .ok (.aload_n 0, 1) := by decide +kernel
theorem dX0_take_15 : decode cX0_take 15 = .ok (.dup, 1) := by decide +kernel
theorem dX0_take_16 : decode cX0_take 16 = .ok (.getfield 19, 3) := by decide +kernel
theorem dX0_take_19 : decode cX0_take 19 = .ok (.iconst 1, 1) := by decide +kernel
theorem dX0_take_20 : decode cX0_take 20 = .ok (.iadd, 1) := by decide +kernel
theorem dX0_take_21 : decode cX0_take 21 = .ok (.putfield 19, 3) := by decide +kernel
theorem dX0_take_24 : decode cX0_take 24 = .ok (.goto 33, 3) := by decide +kernel
theorem dX0_take_27 : decode cX0_take 27 = .ok (.aload_n 0, 1) := by decide +kernel
theorem dX0_take_28 : decode cX0_take 28 = .ok (.dup, 1) := by decide +kernel
theorem dX0_take_29 : decode cX0_take 29 = .ok (.getfield 23, 3) := by decide +kernel
theorem dX0_take_32 : decode cX0_take 32 = .ok (.iconst 1, 1) := by decide +kernel
theorem dX0_take_33 : decode cX0_take 33 = .ok (.iadd, 1) := by decide +kernel
theorem dX0_take_34 : decode cX0_take 34 = .ok (.putfield 23, 3) := by decide +kernel
theorem dX0_take_37 : decode cX0_take 37 = .ok (.aload_n 0, 1) := by decide +kernel
theorem dX0_take_38 : decode cX0_take 38 = .ok (.getfield 9, 3) := by decide +kernel
theorem dX0_take_41 : decode cX0_take 41 = .ok (.iload_n 1, 1) := by decide +kernel
theorem dX0_take_42 : decode cX0_take 42 = .ok (.aload_n 0, 1) := by decide +kernel
theorem dX0_take_43 : decode cX0_take 43 = .ok (.getfield 23, 3) := by decide +kernel
theorem dX0_take_46 : decode cX0_take 46 = .ok (.iastore, 1) := by decide +kernel
theorem dX0_take_47 : decode cX0_take 47 = .ok (.aload_n 0, 1) := by decide +kernel
theorem dX0_take_48 : decode cX0_take 48 = .ok (.dup, 1) := by decide +kernel
theorem dX0_take_49 : decode cX0_take 49 = .ok (.getfield 26, 3) := by decide +kernel
theorem dX0_take_52 : decode cX0_take 52 = .ok (.iconst 1, 1) := by decide +kernel
theorem dX0_take_53 : decode cX0_take 53 = .ok (.iadd, 1) := by decide +kernel
theorem dX0_take_54 : decode cX0_take 54 = .ok (.putfield 26, 3) := by decide +kernel
theorem dX0_take_57 : decode cX0_take 57 = .ok (.return_, 1) := by decide +kernel
theorem dX0_hasSeen_0 : decode cX0_hasSeen 0 = .ok (.aload_n 0, 1) := by decide +kernel
theorem dX0_hasSeen_1 : decode cX0_hasSeen 1 = .ok (.getfield 9, 3) := by decide +kernel
theorem dX0_hasSeen_4 : decode cX0_hasSeen 4 = .ok (.iload_n 1, 1) := by decide +kernel
theorem dX0_hasSeen_5 : decode cX0_hasSeen 5 = .ok (.iaload, 1) := by decide +kernel
theorem dX0_hasSeen_6 : decode cX0_hasSeen 6 = .ok (.ifCond .le 7, 3) := by decide +kernel
theorem dX0_hasSeen_9 : decode cX0_hasSeen 9 = .ok (.iconst 1, 1) := by decide +kernel
theorem dX0_hasSeen_10 : decode cX0_hasSeen 10 = .ok (.goto 4, 3) := by decide +kernel
theorem dX0_hasSeen_13 : decode cX0_hasSeen 13 = .ok (.iconst 0, 1) := by decide +kernel
theorem dX0_hasSeen_14 : decode cX0_hasSeen 14 = .ok (.ireturn, 1) := by decide +kernel
theorem dX0_endBatch_0 : decode cX0_endBatch 0 = .ok (.aload_n 0, 1) := by decide +kernel
theorem dX0_endBatch_1 : decode cX0_endBatch 1 = .ok (.iconst 0, 1) := by decide +kernel
theorem dX0_endBatch_2 : decode cX0_endBatch 2 = .ok (.putfield 15, 3) := by decide +kernel
theorem dX0_endBatch_5 : decode cX0_endBatch 5 = .ok (.aload_n 0, 1) := by decide +kernel
theorem dX0_endBatch_6 : decode cX0_endBatch 6 = .ok (.getfield 19, 3) := by decide +kernel
theorem dX0_endBatch_9 : decode cX0_endBatch 9 = .ok (.ifCond .ne 4, 3) := by decide +kernel
theorem dX0_endBatch_12 : decode cX0_endBatch 12 = .ok (.return_, 1) := by decide +kernel
theorem dX0_endBatch_13 : decode cX0_endBatch 13 = .ok (.aload_n 0, 1) := by decide +kernel
theorem dX0_endBatch_14 : decode cX0_endBatch 14 = .ok (.dup, 1) := by decide +kernel
theorem dX0_endBatch_15 : decode cX0_endBatch 15 = .ok (.getfield 23, 3) := by decide +kernel
theorem dX0_endBatch_18 : decode cX0_endBatch 18 = .ok (.iconst 1, 1) := by decide +kernel
theorem dX0_endBatch_19 : decode cX0_endBatch 19 = .ok (.iadd, 1) := by decide +kernel
theorem dX0_endBatch_20 : decode cX0_endBatch 20 = .ok (.putfield 23, 3) := by decide +kernel
theorem dX0_endBatch_23 : decode cX0_endBatch 23 = .ok (.iconst 0, 1) := by decide +kernel
theorem dX0_endBatch_24 : decode cX0_endBatch 24 = .ok (.istore_n 1, 1) := by decide +kernel
theorem dX0_endBatch_25 : decode cX0_endBatch 25 = .ok (.iload_n 1, 1) := by decide +kernel
theorem dX0_endBatch_26 : decode cX0_endBatch 26 = .ok (.bipush 120, 2) := by decide +kernel
theorem dX0_endBatch_28 : decode cX0_endBatch 28 = .ok (.if_icmp .ge 29, 3) := by decide +kernel
theorem dX0_endBatch_31 : decode cX0_endBatch 31 = .ok (.aload_n 0, 1) := by decide +kernel
theorem dX0_endBatch_32 : decode cX0_endBatch 32 = .ok (.getfield 9, 3) := by decide +kernel
theorem dX0_endBatch_35 : decode cX0_endBatch 35 = .ok (.iload_n 1, 1) := by decide +kernel
theorem dX0_endBatch_36 : decode cX0_endBatch 36 = .ok (.iaload, 1) := by decide +kernel
theorem dX0_endBatch_37 : decode cX0_endBatch 37 = .ok (.iconst (-1), 1) := by decide +kernel
theorem dX0_endBatch_38 : decode cX0_endBatch 38 = .ok (.if_icmp .ne 13, 3) := by decide +kernel
theorem dX0_endBatch_41 : decode cX0_endBatch 41 = .ok (.aload_n 0, 1) := by decide +kernel
theorem dX0_endBatch_42 : decode cX0_endBatch 42 = .ok (.getfield 9, 3) := by decide +kernel
theorem dX0_endBatch_45 : decode cX0_endBatch 45 = .ok (.iload_n 1, 1) := by decide +kernel
theorem dX0_endBatch_46 : decode cX0_endBatch 46 = .ok (.aload_n 0, 1) := by decide +kernel
theorem dX0_endBatch_47 : decode cX0_endBatch 47 = .ok (.getfield 23, 3) := by decide +kernel
theorem dX0_endBatch_50 : decode cX0_endBatch 50 = .ok (.iastore, 1) := by decide +kernel
theorem dX0_endBatch_51 : decode cX0_endBatch 51 = .ok (.iinc 1 1, 3) := by decide +kernel
theorem dX0_endBatch_54 : decode cX0_endBatch 54 = .ok (.goto (-29), 3) := by decide +kernel
theorem dX0_endBatch_57 : decode cX0_endBatch 57 = .ok (.aload_n 0, 1) := by decide +kernel
theorem dX0_endBatch_58 : decode cX0_endBatch 58 = .ok (.dup, 1) := by decide +kernel
theorem dX0_endBatch_59 : decode cX0_endBatch 59 = .ok (.getfield 26, 3) := by decide +kernel
theorem dX0_endBatch_62 : decode cX0_endBatch 62 = .ok (.aload_n 0, 1) := by decide +kernel
theorem dX0_endBatch_63 : decode cX0_endBatch 63 = .ok (.getfield 19, 3) := by decide +kernel
theorem dX0_endBatch_66 : decode cX0_endBatch 66 = .ok (.iadd, 1) := by decide +kernel
theorem dX0_endBatch_67 : decode cX0_endBatch 67 = .ok (.putfield 26, 3) := by decide +kernel
theorem dX0_endBatch_70 : decode cX0_endBatch 70 = .ok (.aload_n 0, 1) := by decide +kernel
theorem dX0_endBatch_71 : decode cX0_endBatch 71 = .ok (.iconst 0, 1) := by decide +kernel
theorem dX0_endBatch_72 : decode cX0_endBatch 72 = .ok (.putfield 19, 3) := by decide +kernel
theorem dX0_endBatch_75 : decode cX0_endBatch 75 = .ok (.return_, 1) := by decide +kernel
theorem dX0_hadSeen_0 : decode cX0_hadSeen 0 = .ok (.aload_n 0, 1) := by decide +kernel
theorem dX0_hadSeen_1 : decode cX0_hadSeen 1 = .ok (.getfield 9, 3) := by decide +kernel
theorem dX0_hadSeen_4 : decode cX0_hadSeen 4 = .ok (.iload_n 1, 1) := by decide +kernel
theorem dX0_hadSeen_5 : decode cX0_hadSeen 5 = .ok (.iaload, 1) := by decide +kernel
theorem dX0_hadSeen_6 : decode cX0_hadSeen 6 = .ok (.ifCond .le 17, 3) := by decide +kernel
theorem dX0_hadSeen_9 : decode cX0_hadSeen 9 = .ok (.aload_n 0, 1) := by decide +kernel
theorem dX0_hadSeen_10 : decode cX0_hadSeen 10 = .ok (.getfield 9, 3) := by decide +kernel
theorem dX0_hadSeen_13 : decode cX0_hadSeen 13 = .ok (.iload_n 1, 1) := by decide +kernel
theorem dX0_hadSeen_14 : decode cX0_hadSeen 14 = .ok (.iaload, 1) := by decide +kernel
theorem dX0_hadSeen_15 : decode cX0_hadSeen 15 = .ok (.iload_n 2, 1) := by decide +kernel
theorem dX0_hadSeen_16 : decode cX0_hadSeen 16 = .ok (.if_icmp .gt 7, 3) := by decide +kernel
theorem dX0_hadSeen_19 : decode cX0_hadSeen 19 = .ok (.iconst 1, 1) := by decide +kernel
theorem dX0_hadSeen_20 : decode cX0_hadSeen 20 = .ok (.goto 4, 3) := by decide +kernel
theorem dX0_hadSeen_23 : decode cX0_hadSeen 23 = .ok (.iconst 0, 1) := by decide +kernel
theorem dX0_hadSeen_24 : decode cX0_hadSeen 24 = .ok (.ireturn, 1) := by decide +kernel
theorem dX1_init_0 : decode cX1_init 0 = .ok (.aload_n 0, 1) := by decide +kernel
theorem dX1_init_1 : decode cX1_init 1 = .ok (.invokespecial 3, 3) := by decide +kernel
theorem dX1_init_4 : decode cX1_init 4 = .ok (.aload_n 0, 1) := by decide +kernel
theorem dX1_init_5 : decode cX1_init 5 = .ok (.bipush 6, 2) := by decide +kernel
theorem dX1_init_7 : decode cX1_init 7 = .ok (.newarray .int, 2) := by decide +kernel
theorem dX1_init_9 : decode cX1_init 9 = .ok (.putfield 9, 3) := by decide +kernel
theorem dX1_init_12 : decode cX1_init 12 = .ok (.aload_n 0, 1) := by decide +kernel
theorem dX1_init_13 : decode cX1_init 13 = .ok (.bipush 6, 2) := by decide +kernel
theorem dX1_init_15 : decode cX1_init 15 = .ok (.newarray .int, 2) := by decide +kernel
theorem dX1_init_17 : decode cX1_init 17 = .ok (.putfield 15, 3) := by decide +kernel
theorem dX1_init_20 : decode cX1_init 20 = .ok (.return_, 1) := by decide +kernel
theorem dX1_canFollow_0 : decode cX1_canFollow 0 = .ok (.aload_n 0, 1) := by decide +kernel
theorem dX1_canFollow_1 : decode cX1_canFollow 1 = .ok (.getfield 18, 3) := by decide +kernel
theorem dX1_canFollow_4 : decode cX1_canFollow 4 = .ok (.ifCond .eq 33, 3) := by decide +kernel
theorem dX1_canFollow_7 : decode cX1_canFollow 7 = .ok (.iload_n 1, 1) := by decide +kernel
theorem dX1_canFollow_8 : decode cX1_canFollow 8 = .ok (.aload_n 0, 1) := by decide +kernel
theorem dX1_canFollow_9 : decode cX1_canFollow 9 = .ok (.getfield 9, 3) := by decide +kernel
theorem dX1_canFollow_12 : decode cX1_canFollow 12 = .ok (.aload_n 0, 1) := by decide +kernel
theorem dX1_canFollow_13 : decode cX1_canFollow 13 = .ok (.getfield 18, 3) := by decide +kernel
theorem dX1_canFollow_16 : decode cX1_canFollow 16 = .ok (.iconst 1, 1) := by decide +kernel
theorem dX1_canFollow_17 : decode cX1_canFollow 17 = .ok (.isub, 1) := by decide +kernel
theorem dX1_canFollow_18 : decode cX1_canFollow 18 = .ok (.iaload, 1) := by decide +kernel
theorem dX1_canFollow_19 : decode cX1_canFollow 19 = .ok (.if_icmp .le 22, 3) := by decide +kernel
theorem dX1_canFollow_22 : decode cX1_canFollow 22 = .ok (.iload_n 2, 1) := by decide +kernel
theorem dX1_canFollow_23 : decode cX1_canFollow 23 = .ok (.aload_n 0, 1) := by decide +kernel
theorem dX1_canFollow_24 : decode cX1_canFollow 24 = .ok (.getfield 15, 3) := by decide +kernel
theorem dX1_canFollow_27 : decode cX1_canFollow 27 = .ok (.aload_n 0, 1) := by decide +kernel
theorem dX1_canFollow_28 : decode cX1_canFollow 28 = .ok (.getfield 18, 3) := by decide +kernel
theorem dX1_canFollow_31 : decode cX1_canFollow 31 = .ok (.iconst 1, 1) := by decide +kernel
theorem dX1_canFollow_32 : decode cX1_canFollow 32 = .ok (.isub, 1) := by decide +kernel
theorem dX1_canFollow_33 : decode cX1_canFollow 33 = .ok (.iaload, 1) := by decide +kernel
theorem dX1_canFollow_34 : decode cX1_canFollow 34 = .ok (.if_icmp .lt 7, 3) := by decide +kernel
theorem dX1_canFollow_37 : decode cX1_canFollow 37 = .ok (.iconst 1, 1) := by decide +kernel
theorem dX1_canFollow_38 : decode cX1_canFollow 38 = .ok (.goto 4, 3) := by decide +kernel
theorem dX1_canFollow_41 : decode cX1_canFollow 41 = .ok (.iconst 0, 1) := by decide +kernel
theorem dX1_canFollow_42 : decode cX1_canFollow 42 = .ok (.ireturn, 1) := by decide +kernel
theorem dX1_addMark_0 : decode cX1_addMark 0 = .ok (.aload_n 0, 1) := by decide +kernel
theorem dX1_addMark_1 : decode cX1_addMark 1 = .ok (.getfield 9, 3) := by decide +kernel
theorem dX1_addMark_4 : decode cX1_addMark 4 = .ok (.aload_n 0, 1) := by decide +kernel
theorem dX1_addMark_5 : decode cX1_addMark 5 = .ok (.getfield 18, 3) := by decide +kernel
theorem dX1_addMark_8 : decode cX1_addMark 8 = .ok (.iload_n 1, 1) := by decide +kernel
theorem dX1_addMark_9 : decode cX1_addMark 9 = .ok (.iastore, 1) := by decide +kernel
theorem dX1_addMark_10 : decode cX1_addMark 10 = .ok (.aload_n 0, 1) := by decide +kernel
theorem dX1_addMark_11 : decode cX1_addMark 11 = .ok (.getfield 15, 3) := by decide +kernel
theorem dX1_addMark_14 : decode cX1_addMark 14 = .ok (.aload_n 0, 1) := by decide +kernel
theorem dX1_addMark_15 : decode cX1_addMark 15 = .ok (.getfield 18, 3) := by decide +kernel
theorem dX1_addMark_18 : decode cX1_addMark 18 = .ok (.iload_n 2, 1) := by decide +kernel
theorem dX1_addMark_19 : decode cX1_addMark 19 = .ok (.iastore, 1) := by decide +kernel
theorem dX1_addMark_20 : decode cX1_addMark 20 = .ok (.aload_n 0, 1) := by decide +kernel
theorem dX1_addMark_21 : decode cX1_addMark 21 = .ok (.dup, 1) := by decide +kernel
theorem dX1_addMark_22 : decode cX1_addMark 22 = .ok (.getfield 18, 3) := by decide +kernel
theorem dX1_addMark_25 : decode cX1_addMark 25 = .ok (.iconst 1, 1) := by decide +kernel
theorem dX1_addMark_26 : decode cX1_addMark 26 = .ok (.iadd, 1) := by decide +kernel
theorem dX1_addMark_27 : decode cX1_addMark 27 = .ok (.putfield 18, 3) := by decide +kernel
theorem dX1_addMark_30 : decode cX1_addMark 30 = .ok (.return_, 1) := by decide +kernel
theorem dX1_realTime_0 : decode cX1_realTime 0 = .ok (.aload_n 0, 1) := by decide +kernel
theorem dX1_realTime_1 : decode cX1_realTime 1 = .ok (.getfield 18, 3) := by decide +kernel
theorem dX1_realTime_4 : decode cX1_realTime 4 = .ok (.ifCond .ne 5, 3) := by decide +kernel
theorem dX1_realTime_7 : decode cX1_realTime 7 = .ok (.iload_n 1, 1) := by decide +kernel
theorem dX1_realTime_8 : decode cX1_realTime 8 = .ok (.ireturn, 1) := by decide +kernel
theorem dX1_realTime_9 : decode cX1_realTime 9 = .ok (.aload_n 0, 1) := by decide +kernel
theorem dX1_realTime_10 : decode cX1_realTime 10 = .ok (.iload_n 1, 1) := by decide +kernel
theorem dX1_realTime_11 : decode cX1_realTime 11 = .ok (.invokevirtual 22, 3) := by decide +kernel
theorem dX1_realTime_14 : decode cX1_realTime 14 = .ok (.istore_n 2, 1) := by decide +kernel
theorem dX1_realTime_15 : decode cX1_realTime 15 = .ok (.iload_n 2, 1) := by decide +kernel
theorem dX1_realTime_16 : decode cX1_realTime 16 = .ok (.ifCond .le 20, 3) := by decide +kernel
theorem dX1_realTime_19 : decode cX1_realTime 19 = .ok (.iload_n 2, 1) := by decide +kernel
theorem dX1_realTime_20 : decode cX1_realTime 20 = .ok (.aload_n 0, 1) := by decide +kernel
theorem dX1_realTime_21 : decode cX1_realTime 21 = .ok (.getfield 18, 3) := by decide +kernel
theorem dX1_realTime_24 : decode cX1_realTime 24 = .ok (.if_icmp .ge 12, 3) := by decide +kernel
theorem dX1_realTime_27 : decode cX1_realTime 27 = .ok (.aload_n 0, 1) := by decide +kernel
theorem dX1_realTime_28 : decode cX1_realTime 28 = .ok (.iload_n 2, 1) := by decide +kernel
theorem dX1_realTime_29 : decode cX1_realTime 29 = .ok (.iconst 1, 1) := by decide +kernel
theorem dX1_realTime_30 : decode cX1_realTime 30 = .ok (.isub, 1) := by decide +kernel
theorem dX1_realTime_31 : decode cX1_realTime 31 = .ok (.iload_n 1, 1) := by decide +kernel
theorem dX1_realTime_32 : decode cX1_realTime 32 = .ok (.invokevirtual 26, 3) := by decide +kernel
theorem dX1_realTime_35 : decode cX1_realTime 35 = .ok (.ireturn, 1) := by decide +kernel
theorem dX1_realTime_36 : decode cX1_realTime 36 = .ok (.iload_n 2, 1) := by decide +kernel
theorem dX1_realTime_37 : decode cX1_realTime 37 = .ok (.ifCond .ne 7, 3) := by decide +kernel
theorem dX1_realTime_40 : decode cX1_realTime 40 = .ok (.iconst 0, 1) := by decide +kernel
theorem dX1_realTime_41 : decode cX1_realTime 41 = .ok (.goto 9, 3) := by decide +kernel
theorem dX1_realTime_44 : decode cX1_realTime 44 = .ok (.aload_n 0, 1) := by decide +kernel
theorem dX1_realTime_45 : decode cX1_realTime 45 = .ok (.getfield 18, 3) := by decide +kernel
theorem dX1_realTime_48 : decode cX1_realTime 48 = .ok (.iconst 1, 1) := by decide +kernel
theorem dX1_realTime_49 : decode cX1_realTime 49 = .ok (.isub, 1) := by decide +kernel
theorem dX1_realTime_50 : decode cX1_realTime 50 = .ok (.istore_n 3, 1) := by decide +kernel
theorem dX1_realTime_51 : decode cX1_realTime 51 = .ok (.iload_n 1, 1) := by decide +kernel
theorem dX1_realTime_52 : decode cX1_realTime 52 = .ok (.aload_n 0, 1) := by decide +kernel
theorem dX1_realTime_53 : decode cX1_realTime 53 = .ok (.getfield 15, 3) := by decide +kernel
theorem dX1_realTime_56 : decode cX1_realTime 56 = .ok (.iload_n 3, 1) := by decide +kernel
theorem dX1_realTime_57 : decode cX1_realTime 57 = .ok (.iaload, 1) := by decide +kernel
theorem dX1_realTime_58 : decode cX1_realTime 58 = .ok (.aload_n 0, 1) := by decide +kernel
theorem dX1_realTime_59 : decode cX1_realTime 59 = .ok (.getfield 9, 3) := by decide +kernel
theorem dX1_realTime_62 : decode cX1_realTime 62 = .ok (.iload_n 3, 1) := by decide +kernel
theorem dX1_realTime_63 : decode cX1_realTime 63 = .ok (.iaload, 1) := by decide +kernel
theorem dX1_realTime_64 : decode cX1_realTime 64 = .ok (.isub, 1) := by decide +kernel
theorem dX1_realTime_65 : decode cX1_realTime 65 = .ok (.iadd, 1) := by decide +kernel
theorem dX1_realTime_66 : decode cX1_realTime 66 = .ok (.ireturn, 1) := by decide +kernel
theorem dX1_marksUpTo_0 : decode cX1_marksUpTo 0 = .ok (.iconst 0, 1) := by decide +kernel
theorem dX1_marksUpTo_1 : decode cX1_marksUpTo 1 = .ok (.istore_n 2, 1) := by decide +kernel
theorem dX1_marksUpTo_2 : decode cX1_marksUpTo 2 = .ok (.iload_n 2, 1) := by decide +kernel
theorem dX1_marksUpTo_3 : decode cX1_marksUpTo 3 = .ok (.aload_n 0, 1) := by decide +kernel
theorem dX1_marksUpTo_4 : decode cX1_marksUpTo 4 = .ok (.getfield 18, 3) := by decide +kernel
theorem dX1_marksUpTo_7 : decode cX1_marksUpTo 7 = .ok (.if_icmp .ge 19, 3) := by decide +kernel
theorem dX1_marksUpTo_10 : decode cX1_marksUpTo 10 = .ok (.aload_n 0, 1) := by decide +kernel
theorem dX1_marksUpTo_11 : decode cX1_marksUpTo 11 = .ok (.getfield 9, 3) := by decide +kernel
theorem dX1_marksUpTo_14 : decode cX1_marksUpTo 14 = .ok (.iload_n 2, 1) := by decide +kernel
theorem dX1_marksUpTo_15 : decode cX1_marksUpTo 15 = .ok (.iaload, 1) := by decide +kernel
theorem dX1_marksUpTo_16 : decode cX1_marksUpTo 16 = .ok (.iload_n 1, 1) := by decide +kernel
theorem dX1_marksUpTo_17 : decode cX1_marksUpTo 17 = .ok (.if_icmp .gt 9, 3) := by decide +kernel
theorem dX1_marksUpTo_20 : decode cX1_marksUpTo 20 = .ok (.iinc 2 1, 3) := by decide +kernel
theorem dX1_marksUpTo_23 : decode cX1_marksUpTo 23 = .ok (.goto (-21), 3) := by decide +kernel
theorem dX1_marksUpTo_26 : decode cX1_marksUpTo 26 = .ok (.iload_n 2, 1) := by decide +kernel
theorem dX1_marksUpTo_27 : decode cX1_marksUpTo 27 = .ok (.ireturn, 1) := by decide +kernel
theorem dX1_realBetween_0 : decode cX1_realBetween 0 = .ok (.aload_n 0, 1) := by decide +kernel
theorem dX1_realBetween_1 : decode cX1_realBetween 1 = .ok (.getfield 9, 3) := by decide +kernel
theorem dX1_realBetween_4 : decode cX1_realBetween 4 = .ok (.iload_n 1, 1) := by decide +kernel
theorem dX1_realBetween_5 : decode cX1_realBetween 5 = .ok (.iconst 1, 1) := by decide +kernel
theorem dX1_realBetween_6 : decode cX1_realBetween 6 = .ok (.iadd, 1) := by decide +kernel
theorem dX1_realBetween_7 : decode cX1_realBetween 7 = .ok (.iaload, 1) := by decide +kernel
theorem dX1_realBetween_8 : decode cX1_realBetween 8 = .ok (.aload_n 0, 1) := by decide +kernel
theorem dX1_realBetween_9 : decode cX1_realBetween 9 = .ok (.getfield 9, 3) := by decide +kernel
theorem dX1_realBetween_12 : decode cX1_realBetween 12 = .ok (.iload_n 1, 1) := by decide +kernel
theorem dX1_realBetween_13 : decode cX1_realBetween 13 = .ok (.iaload, 1) := by decide +kernel
theorem dX1_realBetween_14 : decode cX1_realBetween 14 = .ok (.isub, 1) := by decide +kernel
theorem dX1_realBetween_15 : decode cX1_realBetween 15 = .ok (.istore_n 3, 1) := by decide +kernel
theorem dX1_realBetween_16 : decode cX1_realBetween 16 = .ok (.iload_n 3, 1) := by decide +kernel
theorem dX1_realBetween_17 : decode cX1_realBetween 17 = .ok (.ifCond .gt 10, 3) := by decide +kernel
theorem dX1_realBetween_20 : decode cX1_realBetween 20 = .ok (.aload_n 0, 1) := by decide +kernel
theorem dX1_realBetween_21 : decode cX1_realBetween 21 = .ok (.getfield 15, 3) := by decide +kernel
theorem dX1_realBetween_24 : decode cX1_realBetween 24 = .ok (.iload_n 1, 1) := by decide +kernel
theorem dX1_realBetween_25 : decode cX1_realBetween 25 = .ok (.iaload, 1) := by decide +kernel
theorem dX1_realBetween_26 : decode cX1_realBetween 26 = .ok (.ireturn, 1) := by decide +kernel
theorem dX1_realBetween_27 : decode cX1_realBetween 27 = .ok (.aload_n 0, 1) := by decide +kernel
theorem dX1_realBetween_28 : decode cX1_realBetween 28 = .ok (.getfield 15, 3) := by decide +kernel
theorem dX1_realBetween_31 : decode cX1_realBetween 31 = .ok (.iload_n 1, 1) := by decide +kernel
theorem dX1_realBetween_32 : decode cX1_realBetween 32 = .ok (.iconst 1, 1) := by decide +kernel
theorem dX1_realBetween_33 : decode cX1_realBetween 33 = .ok (.iadd, 1) := by decide +kernel
theorem dX1_realBetween_34 : decode cX1_realBetween 34 = .ok (.iaload, 1) := by decide +kernel
theorem dX1_realBetween_35 : decode cX1_realBetween 35 = .ok (.aload_n 0, 1) := by decide +kernel
theorem dX1_realBetween_36 : decode cX1_realBetween 36 = .ok (.getfield 15, 3) := by decide +kernel
theorem dX1_realBetween_39 : decode cX1_realBetween 39 = .ok (.iload_n 1, 1) := by decide +kernel
theorem dX1_realBetween_40 : decode cX1_realBetween 40 = .ok (.iaload, 1) := by decide +kernel
theorem dX1_realBetween_41 : decode cX1_realBetween 41 = .ok (.isub, 1) := by decide +kernel
theorem dX1_realBetween_42 : decode cX1_realBetween 42 = .ok (.i2l, 1) := by decide +kernel
theorem dX1_realBetween_43 : decode cX1_realBetween 43 = .ok (.lstore 4, 2) := by decide +kernel
theorem dX1_realBetween_45 : decode cX1_realBetween 45 = .ok (.aload_n 0, 1) := by decide +kernel
theorem dX1_realBetween_46 : decode cX1_realBetween 46 = .ok (.getfield 15, 3) := by decide +kernel
theorem dX1_realBetween_49 : decode cX1_realBetween 49 = .ok (.iload_n 1, 1) := by decide +kernel
theorem dX1_realBetween_50 : decode cX1_realBetween 50 = .ok (.iaload, 1) := by decide +kernel
theorem dX1_realBetween_51 : decode cX1_realBetween 51 = .ok (.lload 4, 2) := by decide +kernel
theorem dX1_realBetween_53 : decode cX1_realBetween 53 = .ok (.iload_n 2, 1) := by decide +kernel
theorem dX1_realBetween_54 : decode cX1_realBetween 54 = .ok (.aload_n 0, 1) := by decide +kernel
theorem dX1_realBetween_55 : decode cX1_realBetween 55 = .ok (.getfield 9, 3) := by decide +kernel
theorem dX1_realBetween_58 : decode cX1_realBetween 58 = .ok (.iload_n 1, 1) := by decide +kernel
theorem dX1_realBetween_59 : decode cX1_realBetween 59 = .ok (.iaload, 1) := by decide +kernel
theorem dX1_realBetween_60 : decode cX1_realBetween 60 = .ok (.isub, 1) := by decide +kernel
theorem dX1_realBetween_61 : decode cX1_realBetween 61 = .ok (.i2l, 1) := by decide +kernel
theorem dX1_realBetween_62 : decode cX1_realBetween 62 = .ok (.lmul, 1) := by decide +kernel
theorem dX1_realBetween_63 : decode cX1_realBetween 63 = .ok (.iload_n 3, 1) := by decide +kernel
theorem dX1_realBetween_64 : decode cX1_realBetween 64 = .ok (.i2l, 1) := by decide +kernel
theorem dX1_realBetween_65 : decode cX1_realBetween 65 = .ok (.ldiv, 1) := by decide +kernel
theorem dX1_realBetween_66 : decode cX1_realBetween 66 = .ok (.l2i, 1) := by decide +kernel
theorem dX1_realBetween_67 : decode cX1_realBetween 67 = .ok (.iadd, 1) := by decide +kernel
theorem dX1_realBetween_68 : decode cX1_realBetween 68 = .ok (.ireturn, 1) := by decide +kernel
theorem dX2_init_0 : decode cX2_init 0 = .ok (.aload_n 0, 1) := by decide +kernel
theorem dX2_init_1 : decode cX2_init 1 = .ok (.invokespecial 3, 3) := by decide +kernel
theorem dX2_init_4 : decode cX2_init 4 = .ok (.aload_n 0, 1) := by decide +kernel
theorem dX2_init_5 : decode cX2_init 5 = .ok (.bipush 120, 2) := by decide +kernel
theorem dX2_init_7 : decode cX2_init 7 = .ok (.newarray .int, 2) := by decide +kernel
theorem dX2_init_9 : decode cX2_init 9 = .ok (.putfield 9, 3) := by decide +kernel
theorem dX2_init_12 : decode cX2_init 12 = .ok (.aload_n 0, 1) := by decide +kernel
theorem dX2_init_13 : decode cX2_init 13 = .ok (.bipush 120, 2) := by decide +kernel
theorem dX2_init_15 : decode cX2_init 15 = .ok (.newarray .int, 2) := by decide +kernel
theorem dX2_init_17 : decode cX2_init 17 = .ok (.putfield 15, 3) := by decide +kernel
theorem dX2_init_20 : decode cX2_init 20 = .ok (.aload_n 0, 1) := by decide +kernel
theorem dX2_init_21 : decode cX2_init 21 = .ok (.bipush 120, 2) := by decide +kernel
theorem dX2_init_23 : decode cX2_init 23 = .ok (.newarray .int, 2) := by decide +kernel
theorem dX2_init_25 : decode cX2_init 25 = .ok (.putfield 18, 3) := by decide +kernel
theorem dX2_init_28 : decode cX2_init 28 = .ok (.aload_n 0, 1) := by decide +kernel
theorem dX2_init_29 : decode cX2_init 29 = .ok (.bipush 120, 2) := by decide +kernel
theorem dX2_init_31 : decode cX2_init 31 = .ok (.newarray .boolean, 2) := by decide +kernel
theorem dX2_init_33 : decode cX2_init 33 = .ok (.putfield 21, 3) := by decide +kernel
theorem dX2_init_36 : decode cX2_init 36 = .ok (.return_, 1) := by decide +kernel
theorem dX2_find_0 : decode cX2_find 0 = .ok (.iconst 0, 1) := by decide +kernel
theorem dX2_find_1 : decode cX2_find 1 = .ok (.istore 4, 2) := by decide +kernel
theorem dX2_find_3 : decode cX2_find 3 = .ok (.iload 4, 2) := by decide +kernel
theorem dX2_find_5 : decode cX2_find 5 = .ok (.aload_n 0, 1) := by decide +kernel
theorem dX2_find_6 : decode cX2_find 6 = .ok (.getfield 25, 3) := by decide +kernel
theorem dX2_find_9 : decode cX2_find 9 = .ok (.if_icmp .ge 45, 3) := by decide +kernel
theorem dX2_find_12 : decode cX2_find 12 = .ok (.aload_n 0, 1) := by decide +kernel
theorem dX2_find_13 : decode cX2_find 13 = .ok (.getfield 9, 3) := by decide +kernel
theorem dX2_find_16 : decode cX2_find 16 = .ok (.iload 4, 2) := by decide +kernel
theorem dX2_find_18 : decode cX2_find 18 = .ok (.iaload, 1) := by decide +kernel
theorem dX2_find_19 : decode cX2_find 19 = .ok (.iload_n 1, 1) := by decide +kernel
theorem dX2_find_20 : decode cX2_find 20 = .ok (.if_icmp .ne 28, 3) := by decide +kernel
theorem dX2_find_23 : decode cX2_find 23 = .ok (.aload_n 0, 1) := by decide +kernel
theorem dX2_find_24 : decode cX2_find 24 = .ok (.getfield 15, 3) := by decide +kernel
theorem dX2_find_27 : decode cX2_find 27 = .ok (.iload 4, 2) := by decide +kernel
theorem dX2_find_29 : decode cX2_find 29 = .ok (.iaload, 1) := by decide +kernel
theorem dX2_find_30 : decode cX2_find 30 = .ok (.iload_n 2, 1) := by decide +kernel
theorem dX2_find_31 : decode cX2_find 31 = .ok (.if_icmp .ne 17, 3) := by decide +kernel
theorem dX2_find_34 : decode cX2_find 34 = .ok (.aload_n 0, 1) := by decide +kernel
theorem dX2_find_35 : decode cX2_find 35 = .ok (.getfield 18, 3) := by decide +kernel
theorem dX2_find_38 : decode cX2_find 38 = .ok (.iload 4, 2) := by decide +kernel
theorem dX2_find_40 : decode cX2_find 40 = .ok (.iaload, 1) := by decide +kernel
theorem dX2_find_41 : decode cX2_find 41 = .ok (.iload_n 3, 1) := by decide +kernel
theorem dX2_find_42 : decode cX2_find 42 = .ok (.if_icmp .ne 6, 3) := by decide +kernel
theorem dX2_find_45 : decode cX2_find 45 = .ok (.iload 4, 2) := by decide +kernel
theorem dX2_find_47 : decode cX2_find 47 = .ok (.ireturn, 1) := by decide +kernel
theorem dX2_find_48 : decode cX2_find 48 = .ok (.iinc 4 1, 3) := by decide +kernel
theorem dX2_find_51 : decode cX2_find 51 = .ok (.goto (-48), 3) := by decide +kernel
theorem dX2_find_54 : decode cX2_find 54 = .ok (.iconst (-1), 1) := by decide +kernel
theorem dX2_find_55 : decode cX2_find 55 = .ok (.ireturn, 1) := by decide +kernel
theorem dX2_add_0 : decode cX2_add 0 = .ok (.aload_n 0, 1) := by decide +kernel
theorem dX2_add_1 : decode cX2_add 1 = .ok (.getfield 25, 3) := by decide +kernel
theorem dX2_add_4 : decode cX2_add 4 = .ok (.istore 4, 2) := by decide +kernel
theorem dX2_add_6 : decode cX2_add 6 = .ok (.aload_n 0, 1) := by decide +kernel
theorem dX2_add_7 : decode cX2_add 7 = .ok (.getfield 9, 3) := by decide +kernel
theorem dX2_add_10 : decode cX2_add 10 = .ok (.iload 4, 2) := by decide +kernel
theorem dX2_add_12 : decode cX2_add 12 = .ok (.iload_n 1, 1) := by decide +kernel
theorem dX2_add_13 : decode cX2_add 13 = .ok (.iastore, 1) := by decide +kernel
theorem dX2_add_14 : decode cX2_add 14 = .ok (.aload_n 0, 1) := by decide +kernel
theorem dX2_add_15 : decode cX2_add 15 = .ok (.getfield 15, 3) := by decide +kernel
theorem dX2_add_18 : decode cX2_add 18 = .ok (.iload 4, 2) := by decide +kernel
theorem dX2_add_20 : decode cX2_add 20 = .ok (.iload_n 2, 1) := by decide +kernel
theorem dX2_add_21 : decode cX2_add 21 = .ok (.iastore, 1) := by decide +kernel
theorem dX2_add_22 : decode cX2_add 22 = .ok (.aload_n 0, 1) := by decide +kernel
theorem dX2_add_23 : decode cX2_add 23 = .ok (.getfield 18, 3) := by decide +kernel
theorem dX2_add_26 : decode cX2_add 26 = .ok (.iload 4, 2) := by decide +kernel
theorem dX2_add_28 : decode cX2_add 28 = .ok (.iload_n 3, 1) := by decide +kernel
theorem dX2_add_29 : decode cX2_add 29 = .ok (.iastore, 1) := by decide +kernel
theorem dX2_add_30 : decode cX2_add 30 = .ok (.aload_n 0, 1) := by decide +kernel
theorem dX2_add_31 : decode cX2_add 31 = .ok (.dup, 1) := by decide +kernel
theorem dX2_add_32 : decode cX2_add 32 = .ok (.getfield 25, 3) := by decide +kernel
theorem dX2_add_35 : decode cX2_add 35 = .ok (.iconst 1, 1) := by decide +kernel
theorem dX2_add_36 : decode cX2_add 36 = .ok (.iadd, 1) := by decide +kernel
theorem dX2_add_37 : decode cX2_add 37 = .ok (.putfield 25, 3) := by decide +kernel
theorem dX2_add_40 : decode cX2_add 40 = .ok (.iload 4, 2) := by decide +kernel
theorem dX2_add_42 : decode cX2_add 42 = .ok (.ireturn, 1) := by decide +kernel
theorem dX2_areRivals_0 : decode cX2_areRivals 0 = .ok (.iload_n 1, 1) := by decide +kernel
theorem dX2_areRivals_1 : decode cX2_areRivals 1 = .ok (.iload_n 2, 1) := by decide +kernel
theorem dX2_areRivals_2 : decode cX2_areRivals 2 = .ok (.if_icmp .eq 22, 3) := by decide +kernel
theorem dX2_areRivals_5 : decode cX2_areRivals 5 = .ok (.aload_n 0, 1) := by decide +kernel
theorem dX2_areRivals_6 : decode cX2_areRivals 6 = .ok (.getfield 9, 3) := by decide +kernel
theorem dX2_areRivals_9 : decode cX2_areRivals 9 = .ok (.iload_n 1, 1) := by decide +kernel
theorem dX2_areRivals_10 : decode cX2_areRivals 10 = .ok (.iaload, 1) := by decide +kernel
theorem dX2_areRivals_11 : decode cX2_areRivals 11 = .ok (.aload_n 0, 1) := by decide +kernel
theorem dX2_areRivals_12 : decode cX2_areRivals 12 = .ok (.getfield 9, 3) := by decide +kernel
theorem dX2_areRivals_15 : decode cX2_areRivals 15 = .ok (.iload_n 2, 1) := by decide +kernel
theorem dX2_areRivals_16 : decode cX2_areRivals 16 = .ok (.iaload, 1) := by decide +kernel
theorem dX2_areRivals_17 : decode cX2_areRivals 17 = .ok (.if_icmp .ne 7, 3) := by decide +kernel
theorem dX2_areRivals_20 : decode cX2_areRivals 20 = .ok (.iconst 1, 1) := by decide +kernel
theorem dX2_areRivals_21 : decode cX2_areRivals 21 = .ok (.goto 4, 3) := by decide +kernel
theorem dX2_areRivals_24 : decode cX2_areRivals 24 = .ok (.iconst 0, 1) := by decide +kernel
theorem dX2_areRivals_25 : decode cX2_areRivals 25 = .ok (.ireturn, 1) := by decide +kernel
theorem dX2_findKth_0 : decode cX2_findKth 0 = .ok (.iload_n 2, 1) := by decide +kernel
theorem dX2_findKth_1 : decode cX2_findKth 1 = .ok (.istore_n 3, 1) := by decide +kernel
theorem dX2_findKth_2 : decode cX2_findKth 2 = .ok (.iconst 0, 1) := by decide +kernel
theorem dX2_findKth_3 : decode cX2_findKth 3 = .ok (.istore 4, 2) := by decide +kernel
theorem dX2_findKth_5 : decode cX2_findKth 5 = .ok (.iload 4, 2) := by decide +kernel
theorem dX2_findKth_7 : decode cX2_findKth 7 = .ok (.aload_n 0, 1) := by decide +kernel
theorem dX2_findKth_8 : decode cX2_findKth 8 = .ok (.getfield 25, 3) := by decide +kernel
theorem dX2_findKth_11 : decode cX2_findKth 11 = .ok (.if_icmp .ge 30, 3) := by decide +kernel
theorem dX2_findKth_14 : decode cX2_findKth 14 = .ok (.aload_n 0, 1) := by decide +kernel
theorem dX2_findKth_15 : decode cX2_findKth 15 = .ok (.getfield 9, 3) := by decide +kernel
theorem dX2_findKth_18 : decode cX2_findKth 18 = .ok (.iload 4, 2) := by decide +kernel
theorem dX2_findKth_20 : decode cX2_findKth 20 = .ok (.iaload, 1) := by decide +kernel
theorem dX2_findKth_21 : decode cX2_findKth 21 = .ok (.iload_n 1, 1) := by decide +kernel
theorem dX2_findKth_22 : decode cX2_findKth 22 = .ok (.if_icmp .ne 13, 3) := by decide +kernel
theorem dX2_findKth_25 : decode cX2_findKth 25 = .ok (.iload_n 3, 1) := by decide +kernel
theorem dX2_findKth_26 : decode cX2_findKth 26 = .ok (.ifCond .ne 6, 3) := by decide +kernel
theorem dX2_findKth_29 : decode cX2_findKth 29 = .ok (.iload 4, 2) := by decide +kernel
theorem dX2_findKth_31 : decode cX2_findKth 31 = .ok (.ireturn, 1) := by decide +kernel
theorem dX2_findKth_32 : decode cX2_findKth 32 = .ok (.iinc 3 (-1), 3) := by decide +kernel
theorem dX2_findKth_35 : decode cX2_findKth 35 = .ok (.iinc 4 1, 3) := by decide +kernel
theorem dX2_findKth_38 : decode cX2_findKth 38 = .ok (.goto (-33), 3) := by decide +kernel
theorem dX2_findKth_41 : decode cX2_findKth 41 = .ok (.iconst (-1), 1) := by decide +kernel
theorem dX2_findKth_42 : decode cX2_findKth 42 = .ok (.ireturn, 1) := by decide +kernel
theorem dX2_settleOn_0 : decode cX2_settleOn 0 = .ok (.iconst 0, 1) := by decide +kernel
theorem dX2_settleOn_1 : decode cX2_settleOn 1 = .ok (.istore_n 2, 1) := by decide +kernel
theorem dX2_settleOn_2 : decode cX2_settleOn 2 = .ok (.iload_n 2, 1) := by decide +kernel
theorem dX2_settleOn_3 : decode cX2_settleOn 3 = .ok (.aload_n 0, 1) := by decide +kernel
theorem dX2_settleOn_4 : decode cX2_settleOn 4 = .ok (.getfield 25, 3) := by decide +kernel
theorem dX2_settleOn_7 : decode cX2_settleOn 7 = .ok (.if_icmp .ge 40, 3) := by decide +kernel
theorem dX2_settleOn_10 : decode cX2_settleOn 10 = .ok (.aload_n 0, 1) := by decide +kernel
theorem dX2_settleOn_11 : decode cX2_settleOn 11 = .ok (.getfield 9, 3) := by decide +kernel
theorem dX2_settleOn_14 : decode cX2_settleOn 14 = .ok (.iload_n 2, 1) := by decide +kernel
theorem dX2_settleOn_15 : decode cX2_settleOn 15 = .ok (.iaload, 1) := by decide +kernel
theorem dX2_settleOn_16 : decode cX2_settleOn 16 = .ok (.aload_n 0, 1) := by decide +kernel
theorem dX2_settleOn_17 : decode cX2_settleOn 17 = .ok (.getfield 9, 3) := by decide +kernel
theorem dX2_settleOn_20 : decode cX2_settleOn 20 = .ok (.iload_n 1, 1) := by decide +kernel
theorem dX2_settleOn_21 : decode cX2_settleOn 21 = .ok (.iaload, 1) := by decide +kernel
theorem dX2_settleOn_22 : decode cX2_settleOn 22 = .ok (.if_icmp .ne 19, 3) := by decide +kernel
theorem dX2_settleOn_25 : decode cX2_settleOn 25 = .ok (.aload_n 0, 1) := by decide +kernel
theorem dX2_settleOn_26 : decode cX2_settleOn 26 = .ok (.getfield 21, 3) := by decide +kernel
theorem dX2_settleOn_29 : decode cX2_settleOn 29 = .ok (.iload_n 2, 1) := by decide +kernel
theorem dX2_settleOn_30 : decode cX2_settleOn 30 = .ok (.iload_n 2, 1) := by decide +kernel
theorem dX2_settleOn_31 : decode cX2_settleOn 31 = .ok (.iload_n 1, 1) := by decide +kernel
theorem dX2_settleOn_32 : decode cX2_settleOn 32 = .ok (.if_icmp .ne 7, 3) := by decide +kernel
theorem dX2_settleOn_35 : decode cX2_settleOn 35 = .ok (.iconst 1, 1) := by decide +kernel
theorem dX2_settleOn_36 : decode cX2_settleOn 36 = .ok (.goto 4, 3) := by decide +kernel
theorem dX2_settleOn_39 : decode cX2_settleOn 39 = .ok (.iconst 0, 1) := by decide +kernel
theorem dX2_settleOn_40 : decode cX2_settleOn 40 = .ok (.bastore, 1) := by decide +kernel
theorem dX2_settleOn_41 : decode cX2_settleOn 41 = .ok (.iinc 2 1, 3) := by decide +kernel
theorem dX2_settleOn_44 : decode cX2_settleOn 44 = .ok (.goto (-42), 3) := by decide +kernel
theorem dX2_settleOn_47 : decode cX2_settleOn 47 = .ok (.return_, 1) := by decide +kernel
theorem dX2_key_0 : decode cX2_key 0 = .ok (.aload_n 0, 1) := by decide +kernel
theorem dX2_key_1 : decode cX2_key 1 = .ok (.getfield 15, 3) := by decide +kernel
theorem dX2_key_4 : decode cX2_key 4 = .ok (.iload_n 1, 1) := by decide +kernel
theorem dX2_key_5 : decode cX2_key 5 = .ok (.iaload, 1) := by decide +kernel
theorem dX2_key_6 : decode cX2_key 6 = .ok (.invokestatic 33, 3) := by decide +kernel
theorem dX2_key_9 : decode cX2_key 9 = .ok (.ireturn, 1) := by decide +kernel
theorem dX2_teller_0 : decode cX2_teller 0 = .ok (.aload_n 0, 1) := by decide +kernel
theorem dX2_teller_1 : decode cX2_teller 1 = .ok (.getfield 9, 3) := by decide +kernel
theorem dX2_teller_4 : decode cX2_teller 4 = .ok (.iload_n 1, 1) := by decide +kernel
theorem dX2_teller_5 : decode cX2_teller 5 = .ok (.iaload, 1) := by decide +kernel
theorem dX2_teller_6 : decode cX2_teller 6 = .ok (.bipush 9, 2) := by decide +kernel
theorem dX2_teller_8 : decode cX2_teller 8 = .ok (.ishr, 1) := by decide +kernel
theorem dX2_teller_9 : decode cX2_teller 9 = .ok (.ireturn, 1) := by decide +kernel
theorem dX2_rank_0 : decode cX2_rank 0 = .ok (.aload_n 0, 1) := by decide +kernel
theorem dX2_rank_1 : decode cX2_rank 1 = .ok (.iload_n 1, 1) := by decide +kernel
theorem dX2_rank_2 : decode cX2_rank 2 = .ok (.invokevirtual 37, 3) := by decide +kernel
theorem dX2_rank_5 : decode cX2_rank 5 = .ok (.iconst 3, 1) := by decide +kernel
theorem dX2_rank_6 : decode cX2_rank 6 = .ok (.ishl, 1) := by decide +kernel
theorem dX2_rank_7 : decode cX2_rank 7 = .ok (.aload_n 0, 1) := by decide +kernel
theorem dX2_rank_8 : decode cX2_rank 8 = .ok (.iload_n 1, 1) := by decide +kernel
theorem dX2_rank_9 : decode cX2_rank 9 = .ok (.invokevirtual 40, 3) := by decide +kernel
theorem dX2_rank_12 : decode cX2_rank 12 = .ok (.ior, 1) := by decide +kernel
theorem dX2_rank_13 : decode cX2_rank 13 = .ok (.bipush 7, 2) := by decide +kernel
theorem dX2_rank_15 : decode cX2_rank 15 = .ok (.ishl, 1) := by decide +kernel
theorem dX2_rank_16 : decode cX2_rank 16 = .ok (.aload_n 0, 1) := by decide +kernel
theorem dX2_rank_17 : decode cX2_rank 17 = .ok (.iload_n 1, 1) := by decide +kernel
theorem dX2_rank_18 : decode cX2_rank 18 = .ok (.invokevirtual 43, 3) := by decide +kernel
theorem dX2_rank_21 : decode cX2_rank 21 = .ok (.ior, 1) := by decide +kernel
theorem dX2_rank_22 : decode cX2_rank 22 = .ok (.ireturn, 1) := by decide +kernel
theorem dX2_life_0 : decode cX2_life 0 = .ok (.aload_n 0, 1) := by decide +kernel
theorem dX2_life_1 : decode cX2_life 1 = .ok (.getfield 9, 3) := by decide +kernel
theorem dX2_life_4 : decode cX2_life 4 = .ok (.iload_n 1, 1) := by decide +kernel
theorem dX2_life_5 : decode cX2_life 5 = .ok (.iaload, 1) := by decide +kernel
theorem dX2_life_6 : decode cX2_life 6 = .ok (.bipush 7, 2) := by decide +kernel
theorem dX2_life_8 : decode cX2_life 8 = .ok (.ishr, 1) := by decide +kernel
theorem dX2_life_9 : decode cX2_life 9 = .ok (.iconst 2, 1) := by decide +kernel
theorem dX2_life_10 : decode cX2_life 10 = .ok (.invokestatic 29, 3) := by decide +kernel
theorem dX2_life_13 : decode cX2_life 13 = .ok (.ireturn, 1) := by decide +kernel
theorem dX2_number_0 : decode cX2_number 0 = .ok (.aload_n 0, 1) := by decide +kernel
theorem dX2_number_1 : decode cX2_number 1 = .ok (.getfield 9, 3) := by decide +kernel
theorem dX2_number_4 : decode cX2_number 4 = .ok (.iload_n 1, 1) := by decide +kernel
theorem dX2_number_5 : decode cX2_number 5 = .ok (.iaload, 1) := by decide +kernel
theorem dX2_number_6 : decode cX2_number 6 = .ok (.bipush 7, 2) := by decide +kernel
theorem dX2_number_8 : decode cX2_number 8 = .ok (.invokestatic 29, 3) := by decide +kernel
theorem dX2_number_11 : decode cX2_number 11 = .ok (.ireturn, 1) := by decide +kernel
theorem dX3_init_0 : decode cX3_init 0 = .ok (.aload_n 0, 1) := by decide +kernel
theorem dX3_init_1 : decode cX3_init 1 = .ok (.invokespecial 3, 3) := by decide +kernel
theorem dX3_init_4 : decode cX3_init 4 = .ok (.aload_n 0, 1) := by decide +kernel
theorem dX3_init_5 : decode cX3_init 5 = .ok (.iconst 5, 1) := by decide +kernel
theorem dX3_init_6 : decode cX3_init 6 = .ok (.anewarray 9, 3) := by decide +kernel
theorem dX3_init_9 : decode cX3_init 9 = .ok (.putfield 11, 3) := by decide +kernel
theorem dX3_init_12 : decode cX3_init 12 = .ok (.aload_n 0, 1) := by decide +kernel
theorem dX3_init_13 : decode cX3_init 13 = .ok (.iconst 3, 1) := by decide +kernel
theorem dX3_init_14 : decode cX3_init 14 = .ok (.anewarray 15, 3) := by decide +kernel
theorem dX3_init_17 : decode cX3_init 17 = .ok (.putfield 17, 3) := by decide +kernel
theorem dX3_init_20 : decode cX3_init 20 = .ok (.aload_n 0, 1) := by decide +kernel
theorem dX3_init_21 : decode cX3_init 21 = .ok (.new 21, 3) := by decide +kernel
theorem dX3_init_24 : decode cX3_init 24 = .ok (.dup, 1) := by decide +kernel
theorem dX3_init_25 : decode cX3_init 25 = .ok (.invokespecial 23, 3) := by decide +kernel
theorem dX3_init_28 : decode cX3_init 28 = .ok (.putfield 24, 3) := by decide +kernel
theorem dX3_init_31 : decode cX3_init 31 = .ok (.aload_n 0, 1) := by decide +kernel
theorem dX3_init_32 : decode cX3_init 32 = .ok (.bipush 100, 2) := by decide +kernel
theorem dX3_init_34 : decode cX3_init 34 = .ok (.newarray .boolean, 2) := by decide +kernel
theorem dX3_init_36 : decode cX3_init 36 = .ok (.putfield 28, 3) := by decide +kernel
theorem dX3_init_39 : decode cX3_init 39 = .ok (.iconst 0, 1) := by decide +kernel
theorem dX3_init_40 : decode cX3_init 40 = .ok (.istore_n 1, 1) := by decide +kernel
theorem dX3_init_41 : decode cX3_init 41 = .ok (.iload_n 1, 1) := by decide +kernel
theorem dX3_init_42 : decode cX3_init 42 = .ok (.iconst 5, 1) := by decide +kernel
theorem dX3_init_43 : decode cX3_init 43 = .ok (.if_icmp .ge 22, 3) := by decide +kernel
theorem dX3_init_46 : decode cX3_init 46 = .ok (.aload_n 0, 1) := by decide +kernel
theorem dX3_init_47 : decode cX3_init 47 = .ok (.getfield 11, 3) := by decide +kernel
theorem dX3_init_50 : decode cX3_init 50 = .ok (.iload_n 1, 1) := by decide +kernel
theorem dX3_init_51 : decode cX3_init 51 = .ok (.new 9, 3) := by decide +kernel
theorem dX3_init_54 : decode cX3_init 54 = .ok (.dup, 1) := by decide +kernel
theorem dX3_init_55 : decode cX3_init 55 = .ok (.invokespecial 32, 3) := by decide +kernel
theorem dX3_init_58 : decode cX3_init 58 = .ok (.aastore, 1) := by decide +kernel
theorem dX3_init_59 : decode cX3_init 59 = .ok (.iinc 1 1, 3) := by decide +kernel
theorem dX3_init_62 : decode cX3_init 62 = .ok (.goto (-21), 3) := by decide +kernel
theorem dX3_init_65 : decode cX3_init 65 = .ok (.iconst 0, 1) := by decide +kernel
theorem dX3_init_66 : decode cX3_init 66 = .ok (.istore_n 1, 1) := by decide +kernel
theorem dX3_init_67 : decode cX3_init 67 = .ok (.iload_n 1, 1) := by decide +kernel
theorem dX3_init_68 : decode cX3_init 68 = .ok (.iconst 3, 1) := by decide +kernel
theorem dX3_init_69 : decode cX3_init 69 = .ok (.if_icmp .ge 22, 3) := by decide +kernel
theorem dX3_init_72 : decode cX3_init 72 = .ok (.aload_n 0, 1) := by decide +kernel
theorem dX3_init_73 : decode cX3_init 73 = .ok (.getfield 17, 3) := by decide +kernel
theorem dX3_init_76 : decode cX3_init 76 = .ok (.iload_n 1, 1) := by decide +kernel
theorem dX3_init_77 : decode cX3_init 77 = .ok (.new 15, 3) := by decide +kernel
theorem dX3_init_80 : decode cX3_init 80 = .ok (.dup, 1) := by decide +kernel
theorem dX3_init_81 : decode cX3_init 81 = .ok (.invokespecial 33, 3) := by decide +kernel
theorem dX3_init_84 : decode cX3_init 84 = .ok (.aastore, 1) := by decide +kernel
theorem dX3_init_85 : decode cX3_init 85 = .ok (.iinc 1 1, 3) := by decide +kernel
theorem dX3_init_88 : decode cX3_init 88 = .ok (.goto (-21), 3) := by decide +kernel
theorem dX3_init_91 : decode cX3_init 91 = .ok (.return_, 1) := by decide +kernel
theorem dX3_mark_0 : decode cX3_mark 0 = .ok (.iload_n 1, 1) := by decide +kernel
theorem dX3_mark_1 : decode cX3_mark 1 = .ok (.invokestatic 34, 3) := by decide +kernel
theorem dX3_mark_4 : decode cX3_mark 4 = .ok (.aload_n 0, 1) := by decide +kernel
theorem dX3_mark_5 : decode cX3_mark 5 = .ok (.getfield 11, 3) := by decide +kernel
theorem dX3_mark_8 : decode cX3_mark 8 = .ok (.iload_n 1, 1) := by decide +kernel
theorem dX3_mark_9 : decode cX3_mark 9 = .ok (.aaload, 1) := by decide +kernel
theorem dX3_mark_10 : decode cX3_mark 10 = .ok (.astore 4, 2) := by decide +kernel
theorem dX3_mark_12 : decode cX3_mark 12 = .ok (.aload 4, 2) := by decide +kernel
theorem dX3_mark_14 : decode cX3_mark 14 = .ok (.getfield 38, 3) := by decide +kernel
theorem dX3_mark_17 : decode cX3_mark 17 = .ok (.bipush 6, 2) := by decide +kernel
theorem dX3_mark_19 : decode cX3_mark 19 = .ok (.if_icmp .lt 13, 3) := by decide +kernel
theorem dX3_mark_22 : decode cX3_mark 22 = .ok (.new 42, 3) := by decide +kernel
theorem dX3_mark_25 : decode cX3_mark 25 = .ok (.dup, 1) := by decide +kernel
theorem dX3_mark_26 : decode cX3_mark 26 = .ok (.ldc 44, 2) := by decide +kernel
theorem dX3_mark_28 : decode cX3_mark 28 = .ok (.invokespecial 46, 3) := by decide +kernel
theorem dX3_mark_31 : decode cX3_mark 31 = .ok (.athrow, 1) := by decide +kernel
theorem dX3_mark_32 : decode cX3_mark 32 = .ok (.iload_n 2, 1) := by decide +kernel
theorem dX3_mark_33 : decode cX3_mark 33 = .ok (.invokestatic 49, 3) := by decide +kernel
theorem dX3_mark_36 : decode cX3_mark 36 = .ok (.iload_n 3, 1) := by decide +kernel
theorem dX3_mark_37 : decode cX3_mark 37 = .ok (.invokestatic 49, 3) := by decide +kernel
theorem dX3_mark_40 : decode cX3_mark 40 = .ok (.aload 4, 2) := by decide +kernel
theorem dX3_mark_42 : decode cX3_mark 42 = .ok (.iload_n 2, 1) := by decide +kernel
theorem dX3_mark_43 : decode cX3_mark 43 = .ok (.iload_n 3, 1) := by decide +kernel
theorem dX3_mark_44 : decode cX3_mark 44 = .ok (.invokevirtual 52, 3) := by decide +kernel
theorem dX3_mark_47 : decode cX3_mark 47 = .ok (.ifCond .ne 13, 3) := by decide +kernel
theorem dX3_mark_50 : decode cX3_mark 50 = .ok (.new 56, 3) := by decide +kernel
theorem dX3_mark_53 : decode cX3_mark 53 = .ok (.dup, 1) := by decide +kernel
theorem dX3_mark_54 : decode cX3_mark 54 = .ok (.ldc 58, 2) := by decide +kernel
theorem dX3_mark_56 : decode cX3_mark 56 = .ok (.invokespecial 60, 3) := by decide +kernel
theorem dX3_mark_59 : decode cX3_mark 59 = .ok (.athrow, 1) := by decide +kernel
theorem dX3_mark_60 : decode cX3_mark 60 = .ok (.aload 4, 2) := by decide +kernel
theorem dX3_mark_62 : decode cX3_mark 62 = .ok (.iload_n 2, 1) := by decide +kernel
theorem dX3_mark_63 : decode cX3_mark 63 = .ok (.iload_n 3, 1) := by decide +kernel
theorem dX3_mark_64 : decode cX3_mark 64 = .ok (.invokevirtual 61, 3) := by decide +kernel
theorem dX3_mark_67 : decode cX3_mark 67 = .ok (.aload 4, 2) := by decide +kernel
theorem dX3_mark_69 : decode cX3_mark 69 = .ok (.getfield 38, 3) := by decide +kernel
theorem dX3_mark_72 : decode cX3_mark 72 = .ok (.ireturn, 1) := by decide +kernel
theorem dX3_needTeller_0 : decode cX3_needTeller 0 = .ok (.iload_n 0, 1) := by decide +kernel
theorem dX3_needTeller_1 : decode cX3_needTeller 1 = .ok (.ifCond .lt 8, 3) := by decide +kernel
theorem dX3_needTeller_4 : decode cX3_needTeller 4 = .ok (.iload_n 0, 1) := by decide +kernel
theorem dX3_needTeller_5 : decode cX3_needTeller 5 = .ok (.iconst 5, 1) := by decide +kernel
theorem dX3_needTeller_6 : decode cX3_needTeller 6 = .ok (.if_icmp .lt 13, 3) := by decide +kernel
theorem dX3_needTeller_9 : decode cX3_needTeller 9 = .ok (.new 113, 3) := by decide +kernel
theorem dX3_needTeller_12 : decode cX3_needTeller 12 = .ok (.dup, 1) := by decide +kernel
theorem dX3_needTeller_13 : decode cX3_needTeller 13 = .ok (.ldc 190, 2) := by decide +kernel
theorem dX3_needTeller_15 : decode cX3_needTeller 15 = .ok (.invokespecial 117, 3) := by decide +kernel
theorem dX3_needTeller_18 : decode cX3_needTeller 18 = .ok (.athrow, 1) := by decide +kernel
theorem dX3_needTeller_19 : decode cX3_needTeller 19 = .ok (.return_, 1) := by decide +kernel
theorem dX3_needTime_0 : decode cX3_needTime 0 = .ok (.iload_n 0, 1) := by decide +kernel
theorem dX3_needTime_1 : decode cX3_needTime 1 = .ok (.ifCond .lt 9, 3) := by decide +kernel
theorem dX3_needTime_4 : decode cX3_needTime 4 = .ok (.iload_n 0, 1) := by decide +kernel
theorem dX3_needTime_5 : decode cX3_needTime 5 = .ok (.ldc 196, 2) := by decide +kernel
theorem dX3_needTime_7 : decode cX3_needTime 7 = .ok (.if_icmp .le 13, 3) := by decide +kernel
theorem dX3_needTime_10 : decode cX3_needTime 10 = .ok (.new 56, 3) := by decide +kernel
theorem dX3_needTime_13 : decode cX3_needTime 13 = .ok (.dup, 1) := by decide +kernel
theorem dX3_needTime_14 : decode cX3_needTime 14 = .ok (.ldc 197, 2) := by decide +kernel
theorem dX3_needTime_16 : decode cX3_needTime 16 = .ok (.invokespecial 60, 3) := by decide +kernel
theorem dX3_needTime_19 : decode cX3_needTime 19 = .ok (.athrow, 1) := by decide +kernel
theorem dX3_needTime_20 : decode cX3_needTime 20 = .ok (.return_, 1) := by decide +kernel
theorem dX3_real_0 : decode cX3_real 0 = .ok (.iload_n 1, 1) := by decide +kernel
theorem dX3_real_1 : decode cX3_real 1 = .ok (.invokestatic 34, 3) := by decide +kernel
theorem dX3_real_4 : decode cX3_real 4 = .ok (.iload_n 2, 1) := by decide +kernel
theorem dX3_real_5 : decode cX3_real 5 = .ok (.invokestatic 49, 3) := by decide +kernel
theorem dX3_real_8 : decode cX3_real 8 = .ok (.aload_n 0, 1) := by decide +kernel
theorem dX3_real_9 : decode cX3_real 9 = .ok (.getfield 11, 3) := by decide +kernel
theorem dX3_real_12 : decode cX3_real 12 = .ok (.iload_n 1, 1) := by decide +kernel
theorem dX3_real_13 : decode cX3_real 13 = .ok (.aaload, 1) := by decide +kernel
theorem dX3_real_14 : decode cX3_real 14 = .ok (.iload_n 2, 1) := by decide +kernel
theorem dX3_real_15 : decode cX3_real 15 = .ok (.invokevirtual 65, 3) := by decide +kernel
theorem dX3_real_18 : decode cX3_real 18 = .ok (.ireturn, 1) := by decide +kernel
theorem dX3_tell_0 : decode cX3_tell 0 = .ok (.iload_n 1, 1) := by decide +kernel
theorem dX3_tell_1 : decode cX3_tell 1 = .ok (.invokestatic 69, 3) := by decide +kernel
theorem dX3_tell_4 : decode cX3_tell 4 = .ok (.iload_n 2, 1) := by decide +kernel
theorem dX3_tell_5 : decode cX3_tell 5 = .ok (.invokestatic 34, 3) := by decide +kernel
theorem dX3_tell_8 : decode cX3_tell 8 = .ok (.lload_n 3, 1) := by decide +kernel
theorem dX3_tell_9 : decode cX3_tell 9 = .ok (.invokestatic 72, 3) := by decide +kernel
theorem dX3_tell_12 : decode cX3_tell 12 = .ok (.lload_n 3, 1) := by decide +kernel
theorem dX3_tell_13 : decode cX3_tell 13 = .ok (.l2i, 1) := by decide +kernel
theorem dX3_tell_14 : decode cX3_tell 14 = .ok (.istore 6, 2) := by decide +kernel
theorem dX3_tell_16 : decode cX3_tell 16 = .ok (.iload_n 2, 1) := by decide +kernel
theorem dX3_tell_17 : decode cX3_tell 17 = .ok (.aload_n 0, 1) := by decide +kernel
theorem dX3_tell_18 : decode cX3_tell 18 = .ok (.getfield 11, 3) := by decide +kernel
theorem dX3_tell_21 : decode cX3_tell 21 = .ok (.iload_n 2, 1) := by decide +kernel
theorem dX3_tell_22 : decode cX3_tell 22 = .ok (.aaload, 1) := by decide +kernel
theorem dX3_tell_23 : decode cX3_tell 23 = .ok (.getfield 76, 3) := by decide +kernel
theorem dX3_tell_26 : decode cX3_tell 26 = .ok (.iload 6, 2) := by decide +kernel
theorem dX3_tell_28 : decode cX3_tell 28 = .ok (.invokestatic 79, 3) := by decide +kernel
theorem dX3_tell_31 : decode cX3_tell 31 = .ok (.invokestatic 82, 3) := by decide +kernel
theorem dX3_tell_34 : decode cX3_tell 34 = .ok (.istore 7, 2) := by decide +kernel
theorem dX3_tell_36 : decode cX3_tell 36 = .ok (.aload_n 0, 1) := by decide +kernel
theorem dX3_tell_37 : decode cX3_tell 37 = .ok (.getfield 24, 3) := by decide +kernel
theorem dX3_tell_40 : decode cX3_tell 40 = .ok (.iload 7, 2) := by decide +kernel
theorem dX3_tell_42 : decode cX3_tell 42 = .ok (.iload 6, 2) := by decide +kernel
theorem dX3_tell_44 : decode cX3_tell 44 = .ok (.iload 5, 2) := by decide +kernel
theorem dX3_tell_46 : decode cX3_tell 46 = .ok (.invokevirtual 86, 3) := by decide +kernel
theorem dX3_tell_49 : decode cX3_tell 49 = .ok (.istore 8, 2) := by decide +kernel
theorem dX3_tell_51 : decode cX3_tell 51 = .ok (.iload 8, 2) := by decide +kernel
theorem dX3_tell_53 : decode cX3_tell 53 = .ok (.iconst (-1), 1) := by decide +kernel
theorem dX3_tell_54 : decode cX3_tell 54 = .ok (.if_icmp .ne 25, 3) := by decide +kernel
theorem dX3_tell_57 : decode cX3_tell 57 = .ok (.aload_n 0, 1) := by decide +kernel
theorem dX3_tell_58 : decode cX3_tell 58 = .ok (.getfield 24, 3) := by decide +kernel
theorem dX3_tell_61 : decode cX3_tell 61 = .ok (.getfield 89, 3) := by decide +kernel
theorem dX3_tell_64 : decode cX3_tell 64 = .ok (.bipush 120, 2) := by decide +kernel
theorem dX3_tell_66 : decode cX3_tell 66 = .ok (.if_icmp .lt 13, 3) := by decide +kernel
theorem dX3_tell_69 : decode cX3_tell 69 = .ok (.new 92, 3) := by decide +kernel
theorem dX3_tell_72 : decode cX3_tell 72 = .ok (.dup, 1) := by decide +kernel
theorem dX3_tell_73 : decode cX3_tell 73 = .ok (.ldc 94, 2) := by decide +kernel
theorem dX3_tell_75 : decode cX3_tell 75 = .ok (.invokespecial 96, 3) := by decide +kernel
theorem dX3_tell_78 : decode cX3_tell 78 = .ok (.athrow, 1) := by decide +kernel
theorem dX3_tell_79 : decode cX3_tell 79 = .ok (.aload_n 0, 1) := by decide +kernel
theorem dX3_tell_80 : decode cX3_tell 80 = .ok (.getfield 17, 3) := by decide +kernel
theorem dX3_tell_83 : decode cX3_tell 83 = .ok (.iload_n 1, 1) := by decide +kernel
theorem dX3_tell_84 : decode cX3_tell 84 = .ok (.aaload, 1) := by decide +kernel
theorem dX3_tell_85 : decode cX3_tell 85 = .ok (.astore 9, 2) := by decide +kernel
theorem dX3_tell_87 : decode cX3_tell 87 = .ok (.iload 8, 2) := by decide +kernel
theorem dX3_tell_89 : decode cX3_tell 89 = .ok (.iconst (-1), 1) := by decide +kernel
theorem dX3_tell_90 : decode cX3_tell 90 = .ok (.if_icmp .eq 15, 3) := by decide +kernel
theorem dX3_tell_93 : decode cX3_tell 93 = .ok (.aload 9, 2) := by decide +kernel
theorem dX3_tell_95 : decode cX3_tell 95 = .ok (.iload 8, 2) := by decide +kernel
theorem dX3_tell_97 : decode cX3_tell 97 = .ok (.invokevirtual 97, 3) := by decide +kernel
theorem dX3_tell_100 : decode cX3_tell 100 = .ok (.ifCond .eq 5, 3) := by decide +kernel
theorem dX3_tell_103 : decode cX3_tell 103 = .ok (.iconst 1, 1) := by decide +kernel
theorem dX3_tell_104 : decode cX3_tell 104 = .ok (.ireturn, 1) := by decide +kernel
theorem dX3_tell_105 : decode cX3_tell 105 = .ok (.iload 8, 2) := by decide +kernel
theorem dX3_tell_107 : decode cX3_tell 107 = .ok (.iconst (-1), 1) := by decide +kernel
theorem dX3_tell_108 : decode cX3_tell 108 = .ok (.if_icmp .ne 18, 3) := by decide +kernel
theorem dX3_tell_111 : decode cX3_tell 111 = .ok (.aload_n 0, 1) := by decide +kernel
theorem dX3_tell_112 : decode cX3_tell 112 = .ok (.getfield 24, 3) := by decide +kernel
theorem dX3_tell_115 : decode cX3_tell 115 = .ok (.iload 7, 2) := by decide +kernel
theorem dX3_tell_117 : decode cX3_tell 117 = .ok (.iload 6, 2) := by decide +kernel
theorem dX3_tell_119 : decode cX3_tell 119 = .ok (.iload 5, 2) := by decide +kernel
theorem dX3_tell_121 : decode cX3_tell 121 = .ok (.invokevirtual 101, 3) := by decide +kernel
theorem dX3_tell_124 : decode cX3_tell 124 = .ok (.istore 8, 2) := by decide +kernel
theorem dX3_tell_126 : decode cX3_tell 126 = .ok (.aload_n 0, 1) := by decide +kernel
theorem dX3_tell_127 : decode cX3_tell 127 = .ok (.aload 9, 2) := by decide +kernel
theorem dX3_tell_129 : decode cX3_tell 129 = .ok (.iload 8, 2) := by decide +kernel
theorem dX3_tell_131 : decode cX3_tell 131 = .ok (.invokevirtual 104, 3) := by decide +kernel
theorem dX3_tell_134 : decode cX3_tell 134 = .ok (.ifCond .eq 7, 3) := by decide +kernel
theorem dX3_tell_137 : decode cX3_tell 137 = .ok (.iconst 2, 1) := by decide +kernel
theorem dX3_tell_138 : decode cX3_tell 138 = .ok (.goto 4, 3) := by decide +kernel
theorem dX3_tell_141 : decode cX3_tell 141 = .ok (.iconst 0, 1) := by decide +kernel
theorem dX3_tell_142 : decode cX3_tell 142 = .ok (.istore 10, 2) := by decide +kernel
theorem dX3_tell_144 : decode cX3_tell 144 = .ok (.aload 9, 2) := by decide +kernel
theorem dX3_tell_146 : decode cX3_tell 146 = .ok (.iload 8, 2) := by decide +kernel
theorem dX3_tell_148 : decode cX3_tell 148 = .ok (.invokevirtual 108, 3) := by decide +kernel
theorem dX3_tell_151 : decode cX3_tell 151 = .ok (.iload 10, 2) := by decide +kernel
theorem dX3_tell_153 : decode cX3_tell 153 = .ok (.ireturn, 1) := by decide +kernel
theorem dX3_needDesk_0 : decode cX3_needDesk 0 = .ok (.iload_n 0, 1) := by decide +kernel
theorem dX3_needDesk_1 : decode cX3_needDesk 1 = .ok (.ifCond .lt 8, 3) := by decide +kernel
theorem dX3_needDesk_4 : decode cX3_needDesk 4 = .ok (.iload_n 0, 1) := by decide +kernel
theorem dX3_needDesk_5 : decode cX3_needDesk 5 = .ok (.iconst 3, 1) := by decide +kernel
theorem dX3_needDesk_6 : decode cX3_needDesk 6 = .ok (.if_icmp .lt 13, 3) := by decide +kernel
theorem dX3_needDesk_9 : decode cX3_needDesk 9 = .ok (.new 113, 3) := by decide +kernel
theorem dX3_needDesk_12 : decode cX3_needDesk 12 = .ok (.dup, 1) := by decide +kernel
theorem dX3_needDesk_13 : decode cX3_needDesk 13 = .ok (.ldc 192, 2) := by decide +kernel
theorem dX3_needDesk_15 : decode cX3_needDesk 15 = .ok (.invokespecial 117, 3) := by decide +kernel
theorem dX3_needDesk_18 : decode cX3_needDesk 18 = .ok (.athrow, 1) := by decide +kernel
theorem dX3_needDesk_19 : decode cX3_needDesk 19 = .ok (.return_, 1) := by decide +kernel
theorem dX3_needTold_0 : decode cX3_needTold 0 = .ok (.lload_n 0, 1) := by decide +kernel
theorem dX3_needTold_1 : decode cX3_needTold 1 = .ok (.bipush 30, 2) := by decide +kernel
theorem dX3_needTold_3 : decode cX3_needTold 3 = .ok (.lushr, 1) := by decide +kernel
theorem dX3_needTold_4 : decode cX3_needTold 4 = .ok (.lconst 0, 1) := by decide +kernel
theorem dX3_needTold_5 : decode cX3_needTold 5 = .ok (.lcmp, 1) := by decide +kernel
theorem dX3_needTold_6 : decode cX3_needTold 6 = .ok (.ifCond .eq 13, 3) := by decide +kernel
theorem dX3_needTold_9 : decode cX3_needTold 9 = .ok (.new 56, 3) := by decide +kernel
theorem dX3_needTold_12 : decode cX3_needTold 12 = .ok (.dup, 1) := by decide +kernel
theorem dX3_needTold_13 : decode cX3_needTold 13 = .ok (.ldc 199, 2) := by decide +kernel
theorem dX3_needTold_15 : decode cX3_needTold 15 = .ok (.invokespecial 60, 3) := by decide +kernel
theorem dX3_needTold_18 : decode cX3_needTold 18 = .ok (.athrow, 1) := by decide +kernel
theorem dX3_needTold_19 : decode cX3_needTold 19 = .ok (.lload_n 0, 1) := by decide +kernel
theorem dX3_needTold_20 : decode cX3_needTold 20 = .ok (.l2i, 1) := by decide +kernel
theorem dX3_needTold_21 : decode cX3_needTold 21 = .ok (.invokestatic 201, 3) := by decide +kernel
theorem dX3_needTold_24 : decode cX3_needTold 24 = .ok (.invokestatic 49, 3) := by decide +kernel
theorem dX3_needTold_27 : decode cX3_needTold 27 = .ok (.lload_n 0, 1) := by decide +kernel
theorem dX3_needTold_28 : decode cX3_needTold 28 = .ok (.l2i, 1) := by decide +kernel
theorem dX3_needTold_29 : decode cX3_needTold 29 = .ok (.invokestatic 79, 3) := by decide +kernel
theorem dX3_needTold_32 : decode cX3_needTold 32 = .ok (.bipush 100, 2) := by decide +kernel
theorem dX3_needTold_34 : decode cX3_needTold 34 = .ok (.if_icmp .lt 13, 3) := by decide +kernel
theorem dX3_needTold_37 : decode cX3_needTold 37 = .ok (.new 56, 3) := by decide +kernel
theorem dX3_needTold_40 : decode cX3_needTold 40 = .ok (.dup, 1) := by decide +kernel
theorem dX3_needTold_41 : decode cX3_needTold 41 = .ok (.ldc 204, 2) := by decide +kernel
theorem dX3_needTold_43 : decode cX3_needTold 43 = .ok (.invokespecial 60, 3) := by decide +kernel
theorem dX3_needTold_46 : decode cX3_needTold 46 = .ok (.athrow, 1) := by decide +kernel
theorem dX3_needTold_47 : decode cX3_needTold 47 = .ok (.return_, 1) := by decide +kernel
theorem dX3_timeIn_0 : decode cX3_timeIn 0 = .ok (.iload_n 0, 1) := by decide +kernel
theorem dX3_timeIn_1 : decode cX3_timeIn 1 = .ok (.bipush 20, 2) := by decide +kernel
theorem dX3_timeIn_3 : decode cX3_timeIn 3 = .ok (.invokestatic 206, 3) := by decide +kernel
theorem dX3_timeIn_6 : decode cX3_timeIn 6 = .ok (.ireturn, 1) := by decide +kernel
theorem dX3_lowBits_0 : decode cX3_lowBits 0 = .ok (.iload_n 0, 1) := by decide +kernel
theorem dX3_lowBits_1 : decode cX3_lowBits 1 = .ok (.iconst 1, 1) := by decide +kernel
theorem dX3_lowBits_2 : decode cX3_lowBits 2 = .ok (.iload_n 1, 1) := by decide +kernel
theorem dX3_lowBits_3 : decode cX3_lowBits 3 = .ok (.ishl, 1) := by decide +kernel
theorem dX3_lowBits_4 : decode cX3_lowBits 4 = .ok (.iconst 1, 1) := by decide +kernel
theorem dX3_lowBits_5 : decode cX3_lowBits 5 = .ok (.isub, 1) := by decide +kernel
theorem dX3_lowBits_6 : decode cX3_lowBits 6 = .ok (.iand, 1) := by decide +kernel
theorem dX3_lowBits_7 : decode cX3_lowBits 7 = .ok (.ireturn, 1) := by decide +kernel
theorem dX3_numberIn_0 : decode cX3_numberIn 0 = .ok (.iload_n 0, 1) := by decide +kernel
theorem dX3_numberIn_1 : decode cX3_numberIn 1 = .ok (.bipush 23, 2) := by decide +kernel
theorem dX3_numberIn_3 : decode cX3_numberIn 3 = .ok (.ishr, 1) := by decide +kernel
theorem dX3_numberIn_4 : decode cX3_numberIn 4 = .ok (.bipush 7, 2) := by decide +kernel
theorem dX3_numberIn_6 : decode cX3_numberIn 6 = .ok (.invokestatic 206, 3) := by decide +kernel
theorem dX3_numberIn_9 : decode cX3_numberIn 9 = .ok (.ireturn, 1) := by decide +kernel
theorem dX3_nameOf_0 : decode cX3_nameOf 0 = .ok (.iload_n 0, 1) := by decide +kernel
theorem dX3_nameOf_1 : decode cX3_nameOf 1 = .ok (.iconst 2, 1) := by decide +kernel
theorem dX3_nameOf_2 : decode cX3_nameOf 2 = .ok (.ishl, 1) := by decide +kernel
theorem dX3_nameOf_3 : decode cX3_nameOf 3 = .ok (.iload_n 1, 1) := by decide +kernel
theorem dX3_nameOf_4 : decode cX3_nameOf 4 = .ok (.ior, 1) := by decide +kernel
theorem dX3_nameOf_5 : decode cX3_nameOf 5 = .ok (.bipush 7, 2) := by decide +kernel
theorem dX3_nameOf_7 : decode cX3_nameOf 7 = .ok (.ishl, 1) := by decide +kernel
theorem dX3_nameOf_8 : decode cX3_nameOf 8 = .ok (.iload_n 2, 1) := by decide +kernel
theorem dX3_nameOf_9 : decode cX3_nameOf 9 = .ok (.ior, 1) := by decide +kernel
theorem dX3_nameOf_10 : decode cX3_nameOf 10 = .ok (.ireturn, 1) := by decide +kernel
theorem dX3_hasRival_0 : decode cX3_hasRival 0 = .ok (.iconst 0, 1) := by decide +kernel
theorem dX3_hasRival_1 : decode cX3_hasRival 1 = .ok (.istore_n 3, 1) := by decide +kernel
theorem dX3_hasRival_2 : decode cX3_hasRival 2 = .ok (.iload_n 3, 1) := by decide +kernel
theorem dX3_hasRival_3 : decode cX3_hasRival 3 = .ok (.aload_n 0, 1) := by decide +kernel
theorem dX3_hasRival_4 : decode cX3_hasRival 4 = .ok (.getfield 24, 3) := by decide +kernel
theorem dX3_hasRival_7 : decode cX3_hasRival 7 = .ok (.getfield 89, 3) := by decide +kernel
theorem dX3_hasRival_10 : decode cX3_hasRival 10 = .ok (.if_icmp .ge 31, 3) := by decide +kernel
theorem dX3_hasRival_13 : decode cX3_hasRival 13 = .ok (.aload_n 0, 1) := by decide +kernel
theorem dX3_hasRival_14 : decode cX3_hasRival 14 = .ok (.getfield 24, 3) := by decide +kernel
theorem dX3_hasRival_17 : decode cX3_hasRival 17 = .ok (.iload_n 2, 1) := by decide +kernel
theorem dX3_hasRival_18 : decode cX3_hasRival 18 = .ok (.iload_n 3, 1) := by decide +kernel
theorem dX3_hasRival_19 : decode cX3_hasRival 19 = .ok (.invokevirtual 209, 3) := by decide +kernel
theorem dX3_hasRival_22 : decode cX3_hasRival 22 = .ok (.ifCond .eq 13, 3) := by decide +kernel
theorem dX3_hasRival_25 : decode cX3_hasRival 25 = .ok (.aload_n 1, 1) := by decide +kernel
theorem dX3_hasRival_26 : decode cX3_hasRival 26 = .ok (.iload_n 3, 1) := by decide +kernel
theorem dX3_hasRival_27 : decode cX3_hasRival 27 = .ok (.invokevirtual 97, 3) := by decide +kernel
theorem dX3_hasRival_30 : decode cX3_hasRival 30 = .ok (.ifCond .eq 5, 3) := by decide +kernel
theorem dX3_hasRival_33 : decode cX3_hasRival 33 = .ok (.iconst 1, 1) := by decide +kernel
theorem dX3_hasRival_34 : decode cX3_hasRival 34 = .ok (.ireturn, 1) := by decide +kernel
theorem dX3_hasRival_35 : decode cX3_hasRival 35 = .ok (.iinc 3 1, 3) := by decide +kernel
theorem dX3_hasRival_38 : decode cX3_hasRival 38 = .ok (.goto (-36), 3) := by decide +kernel
theorem dX3_hasRival_41 : decode cX3_hasRival 41 = .ok (.iconst 0, 1) := by decide +kernel
theorem dX3_hasRival_42 : decode cX3_hasRival 42 = .ok (.ireturn, 1) := by decide +kernel
theorem dX3_restart_0 : decode cX3_restart 0 = .ok (.iload_n 1, 1) := by decide +kernel
theorem dX3_restart_1 : decode cX3_restart 1 = .ok (.invokestatic 34, 3) := by decide +kernel
theorem dX3_restart_4 : decode cX3_restart 4 = .ok (.aload_n 0, 1) := by decide +kernel
theorem dX3_restart_5 : decode cX3_restart 5 = .ok (.getfield 11, 3) := by decide +kernel
theorem dX3_restart_8 : decode cX3_restart 8 = .ok (.iload_n 1, 1) := by decide +kernel
theorem dX3_restart_9 : decode cX3_restart 9 = .ok (.aaload, 1) := by decide +kernel
theorem dX3_restart_10 : decode cX3_restart 10 = .ok (.astore_n 2, 1) := by decide +kernel
theorem dX3_restart_11 : decode cX3_restart 11 = .ok (.aload_n 2, 1) := by decide +kernel
theorem dX3_restart_12 : decode cX3_restart 12 = .ok (.getfield 76, 3) := by decide +kernel
theorem dX3_restart_15 : decode cX3_restart 15 = .ok (.iconst 3, 1) := by decide +kernel
theorem dX3_restart_16 : decode cX3_restart 16 = .ok (.if_icmp .lt 13, 3) := by decide +kernel
theorem dX3_restart_19 : decode cX3_restart 19 = .ok (.new 42, 3) := by decide +kernel
theorem dX3_restart_22 : decode cX3_restart 22 = .ok (.dup, 1) := by decide +kernel
theorem dX3_restart_23 : decode cX3_restart 23 = .ok (.ldc 111, 2) := by decide +kernel
theorem dX3_restart_25 : decode cX3_restart 25 = .ok (.invokespecial 46, 3) := by decide +kernel
theorem dX3_restart_28 : decode cX3_restart 28 = .ok (.athrow, 1) := by decide +kernel
theorem dX3_restart_29 : decode cX3_restart 29 = .ok (.aload_n 2, 1) := by decide +kernel
theorem dX3_restart_30 : decode cX3_restart 30 = .ok (.dup, 1) := by decide +kernel
theorem dX3_restart_31 : decode cX3_restart 31 = .ok (.getfield 76, 3) := by decide +kernel
theorem dX3_restart_34 : decode cX3_restart 34 = .ok (.iconst 1, 1) := by decide +kernel
theorem dX3_restart_35 : decode cX3_restart 35 = .ok (.iadd, 1) := by decide +kernel
theorem dX3_restart_36 : decode cX3_restart 36 = .ok (.putfield 76, 3) := by decide +kernel
theorem dX3_restart_39 : decode cX3_restart 39 = .ok (.aload_n 2, 1) := by decide +kernel
theorem dX3_restart_40 : decode cX3_restart 40 = .ok (.getfield 76, 3) := by decide +kernel
theorem dX3_restart_43 : decode cX3_restart 43 = .ok (.ireturn, 1) := by decide +kernel
theorem dX3_join_0 : decode cX3_join 0 = .ok (.iload_n 1, 1) := by decide +kernel
theorem dX3_join_1 : decode cX3_join 1 = .ok (.invokestatic 69, 3) := by decide +kernel
theorem dX3_join_4 : decode cX3_join 4 = .ok (.iload_n 2, 1) := by decide +kernel
theorem dX3_join_5 : decode cX3_join 5 = .ok (.invokestatic 69, 3) := by decide +kernel
theorem dX3_join_8 : decode cX3_join 8 = .ok (.iload_n 1, 1) := by decide +kernel
theorem dX3_join_9 : decode cX3_join 9 = .ok (.iload_n 2, 1) := by decide +kernel
theorem dX3_join_10 : decode cX3_join 10 = .ok (.if_icmp .ne 13, 3) := by decide +kernel
theorem dX3_join_13 : decode cX3_join 13 = .ok (.new 113, 3) := by decide +kernel
theorem dX3_join_16 : decode cX3_join 16 = .ok (.dup, 1) := by decide +kernel
theorem dX3_join_17 : decode cX3_join 17 = .ok (.ldc 115, 2) := by decide +kernel
theorem dX3_join_19 : decode cX3_join 19 = .ok (.invokespecial 117, 3) := by decide +kernel
theorem dX3_join_22 : decode cX3_join 22 = .ok (.athrow, 1) := by decide +kernel
theorem dX3_join_23 : decode cX3_join 23 = .ok (.aload_n 0, 1) := by decide +kernel
theorem dX3_join_24 : decode cX3_join 24 = .ok (.getfield 17, 3) := by decide +kernel
theorem dX3_join_27 : decode cX3_join 27 = .ok (.iload_n 1, 1) := by decide +kernel
theorem dX3_join_28 : decode cX3_join 28 = .ok (.aaload, 1) := by decide +kernel
theorem dX3_join_29 : decode cX3_join 29 = .ok (.astore_n 3, 1) := by decide +kernel
theorem dX3_join_30 : decode cX3_join 30 = .ok (.aload_n 0, 1) := by decide +kernel
theorem dX3_join_31 : decode cX3_join 31 = .ok (.getfield 17, 3) := by decide +kernel
theorem dX3_join_34 : decode cX3_join 34 = .ok (.iload_n 2, 1) := by decide +kernel
theorem dX3_join_35 : decode cX3_join 35 = .ok (.aaload, 1) := by decide +kernel
theorem dX3_join_36 : decode cX3_join 36 = .ok (.astore 4, 2) := by decide +kernel
theorem dX3_join_38 : decode cX3_join 38 = .ok (.iconst 0, 1) := by decide +kernel
theorem dX3_join_39 : decode cX3_join 39 = .ok (.istore 5, 2) := by decide +kernel
theorem dX3_join_41 : decode cX3_join 41 = .ok (.iconst 0, 1) := by decide +kernel
theorem dX3_join_42 : decode cX3_join 42 = .ok (.istore 6, 2) := by decide +kernel
theorem dX3_join_44 : decode cX3_join 44 = .ok (.iload 6, 2) := by decide +kernel
theorem dX3_join_46 : decode cX3_join 46 = .ok (.aload_n 0, 1) := by decide +kernel
theorem dX3_join_47 : decode cX3_join 47 = .ok (.getfield 24, 3) := by decide +kernel
theorem dX3_join_50 : decode cX3_join 50 = .ok (.getfield 89, 3) := by decide +kernel
theorem dX3_join_53 : decode cX3_join 53 = .ok (.if_icmp .ge 37, 3) := by decide +kernel
theorem dX3_join_56 : decode cX3_join 56 = .ok (.aload 4, 2) := by decide +kernel
theorem dX3_join_58 : decode cX3_join 58 = .ok (.iload 6, 2) := by decide +kernel
theorem dX3_join_60 : decode cX3_join 60 = .ok (.invokevirtual 118, 3) := by decide +kernel
theorem dX3_join_63 : decode cX3_join 63 = .ok (.ifCond .eq 21, 3) := by decide +kernel
theorem dX3_join_66 : decode cX3_join 66 = .ok (.aload_n 3, 1) := by decide +kernel
theorem dX3_join_67 : decode cX3_join 67 = .ok (.iload 6, 2) := by decide +kernel
theorem dX3_join_69 : decode cX3_join 69 = .ok (.invokevirtual 97, 3) := by decide +kernel
theorem dX3_join_72 : decode cX3_join 72 = .ok (.ifCond .ne 12, 3) := by decide +kernel
theorem dX3_join_75 : decode cX3_join 75 = .ok (.aload_n 3, 1) := by decide +kernel
theorem dX3_join_76 : decode cX3_join 76 = .ok (.iload 6, 2) := by decide +kernel
theorem dX3_join_78 : decode cX3_join 78 = .ok (.invokevirtual 108, 3) := by decide +kernel
theorem dX3_join_81 : decode cX3_join 81 = .ok (.iinc 5 1, 3) := by decide +kernel
theorem dX3_join_84 : decode cX3_join 84 = .ok (.iinc 6 1, 3) := by decide +kernel
theorem dX3_join_87 : decode cX3_join 87 = .ok (.goto (-43), 3) := by decide +kernel
theorem dX3_join_90 : decode cX3_join 90 = .ok (.iload 5, 2) := by decide +kernel
theorem dX3_join_92 : decode cX3_join 92 = .ok (.ireturn, 1) := by decide +kernel
theorem dX3_batch_0 : decode cX3_batch 0 = .ok (.iload_n 1, 1) := by decide +kernel
theorem dX3_batch_1 : decode cX3_batch 1 = .ok (.invokestatic 69, 3) := by decide +kernel
theorem dX3_batch_4 : decode cX3_batch 4 = .ok (.aload_n 0, 1) := by decide +kernel
theorem dX3_batch_5 : decode cX3_batch 5 = .ok (.getfield 17, 3) := by decide +kernel
theorem dX3_batch_8 : decode cX3_batch 8 = .ok (.iload_n 1, 1) := by decide +kernel
theorem dX3_batch_9 : decode cX3_batch 9 = .ok (.aaload, 1) := by decide +kernel
theorem dX3_batch_10 : decode cX3_batch 10 = .ok (.astore_n 3, 1) := by decide +kernel
theorem dX3_batch_11 : decode cX3_batch 11 = .ok (.aload_n 3, 1) := by decide +kernel
theorem dX3_batch_12 : decode cX3_batch 12 = .ok (.getfield 121, 3) := by decide +kernel
theorem dX3_batch_15 : decode cX3_batch 15 = .ok (.iload_n 2, 1) := by decide +kernel
theorem dX3_batch_16 : decode cX3_batch 16 = .ok (.if_icmp .ne 13, 3) := by decide +kernel
theorem dX3_batch_19 : decode cX3_batch 19 = .ok (.new 42, 3) := by decide +kernel
theorem dX3_batch_22 : decode cX3_batch 22 = .ok (.dup, 1) := by decide +kernel
theorem dX3_batch_23 : decode cX3_batch 23 = .ok (.ldc 125, 2) := by decide +kernel
theorem dX3_batch_25 : decode cX3_batch 25 = .ok (.invokespecial 46, 3) := by decide +kernel
theorem dX3_batch_28 : decode cX3_batch 28 = .ok (.athrow, 1) := by decide +kernel
theorem dX3_batch_29 : decode cX3_batch 29 = .ok (.iload_n 2, 1) := by decide +kernel
theorem dX3_batch_30 : decode cX3_batch 30 = .ok (.ifCond .eq 11, 3) := by decide +kernel
theorem dX3_batch_33 : decode cX3_batch 33 = .ok (.aload_n 3, 1) := by decide +kernel
theorem dX3_batch_34 : decode cX3_batch 34 = .ok (.iconst 1, 1) := by decide +kernel
theorem dX3_batch_35 : decode cX3_batch 35 = .ok (.putfield 121, 3) := by decide +kernel
theorem dX3_batch_38 : decode cX3_batch 38 = .ok (.goto 7, 3) := by decide +kernel
theorem dX3_batch_41 : decode cX3_batch 41 = .ok (.aload_n 3, 1) := by decide +kernel
theorem dX3_batch_42 : decode cX3_batch 42 = .ok (.invokevirtual 127, 3) := by decide +kernel
theorem dX3_batch_45 : decode cX3_batch 45 = .ok (.aload_n 3, 1) := by decide +kernel
theorem dX3_batch_46 : decode cX3_batch 46 = .ok (.getfield 130, 3) := by decide +kernel
theorem dX3_batch_49 : decode cX3_batch 49 = .ok (.ireturn, 1) := by decide +kernel
theorem dX3_same_0 : decode cX3_same 0 = .ok (.iload_n 1, 1) := by decide +kernel
theorem dX3_same_1 : decode cX3_same 1 = .ok (.invokestatic 69, 3) := by decide +kernel
theorem dX3_same_4 : decode cX3_same 4 = .ok (.iload_n 2, 1) := by decide +kernel
theorem dX3_same_5 : decode cX3_same 5 = .ok (.invokestatic 69, 3) := by decide +kernel
theorem dX3_same_8 : decode cX3_same 8 = .ok (.aload_n 0, 1) := by decide +kernel
theorem dX3_same_9 : decode cX3_same 9 = .ok (.getfield 17, 3) := by decide +kernel
theorem dX3_same_12 : decode cX3_same 12 = .ok (.iload_n 1, 1) := by decide +kernel
theorem dX3_same_13 : decode cX3_same 13 = .ok (.aaload, 1) := by decide +kernel
theorem dX3_same_14 : decode cX3_same 14 = .ok (.astore_n 3, 1) := by decide +kernel
theorem dX3_same_15 : decode cX3_same 15 = .ok (.aload_n 0, 1) := by decide +kernel
theorem dX3_same_16 : decode cX3_same 16 = .ok (.getfield 17, 3) := by decide +kernel
theorem dX3_same_19 : decode cX3_same 19 = .ok (.iload_n 2, 1) := by decide +kernel
theorem dX3_same_20 : decode cX3_same 20 = .ok (.aaload, 1) := by decide +kernel
theorem dX3_same_21 : decode cX3_same 21 = .ok (.astore 4, 2) := by decide +kernel
theorem dX3_same_23 : decode cX3_same 23 = .ok (.iconst 0, 1) := by decide +kernel
theorem dX3_same_24 : decode cX3_same 24 = .ok (.istore 5, 2) := by decide +kernel
theorem dX3_same_26 : decode cX3_same 26 = .ok (.iload 5, 2) := by decide +kernel
theorem dX3_same_28 : decode cX3_same 28 = .ok (.aload_n 0, 1) := by decide +kernel
theorem dX3_same_29 : decode cX3_same 29 = .ok (.getfield 24, 3) := by decide +kernel
theorem dX3_same_32 : decode cX3_same 32 = .ok (.getfield 89, 3) := by decide +kernel
theorem dX3_same_35 : decode cX3_same 35 = .ok (.if_icmp .ge 27, 3) := by decide +kernel
theorem dX3_same_38 : decode cX3_same 38 = .ok (.aload_n 3, 1) := by decide +kernel
theorem dX3_same_39 : decode cX3_same 39 = .ok (.iload 5, 2) := by decide +kernel
theorem dX3_same_41 : decode cX3_same 41 = .ok (.invokevirtual 118, 3) := by decide +kernel
theorem dX3_same_44 : decode cX3_same 44 = .ok (.aload 4, 2) := by decide +kernel
theorem dX3_same_46 : decode cX3_same 46 = .ok (.iload 5, 2) := by decide +kernel
theorem dX3_same_48 : decode cX3_same 48 = .ok (.invokevirtual 118, 3) := by decide +kernel
theorem dX3_same_51 : decode cX3_same 51 = .ok (.if_icmp .eq 5, 3) := by decide +kernel
theorem dX3_same_54 : decode cX3_same 54 = .ok (.iconst 0, 1) := by decide +kernel
theorem dX3_same_55 : decode cX3_same 55 = .ok (.ireturn, 1) := by decide +kernel
theorem dX3_same_56 : decode cX3_same 56 = .ok (.iinc 5 1, 3) := by decide +kernel
theorem dX3_same_59 : decode cX3_same 59 = .ok (.goto (-33), 3) := by decide +kernel
theorem dX3_same_62 : decode cX3_same 62 = .ok (.iconst 1, 1) := by decide +kernel
theorem dX3_same_63 : decode cX3_same 63 = .ok (.ireturn, 1) := by decide +kernel
theorem dX3_conflicts_0 : decode cX3_conflicts 0 = .ok (.iload_n 1, 1) := by decide +kernel
theorem dX3_conflicts_1 : decode cX3_conflicts 1 = .ok (.invokestatic 69, 3) := by decide +kernel
theorem dX3_conflicts_4 : decode cX3_conflicts 4 = .ok (.aload_n 0, 1) := by decide +kernel
theorem dX3_conflicts_5 : decode cX3_conflicts 5 = .ok (.getfield 17, 3) := by decide +kernel
theorem dX3_conflicts_8 : decode cX3_conflicts 8 = .ok (.iload_n 1, 1) := by decide +kernel
theorem dX3_conflicts_9 : decode cX3_conflicts 9 = .ok (.aaload, 1) := by decide +kernel
theorem dX3_conflicts_10 : decode cX3_conflicts 10 = .ok (.astore_n 2, 1) := by decide +kernel
theorem dX3_conflicts_11 : decode cX3_conflicts 11 = .ok (.iconst 0, 1) := by decide +kernel
theorem dX3_conflicts_12 : decode cX3_conflicts 12 = .ok (.istore_n 3, 1) := by decide +kernel
theorem dX3_conflicts_13 : decode cX3_conflicts 13 = .ok (.iconst 0, 1) := by decide +kernel
theorem dX3_conflicts_14 : decode cX3_conflicts 14 = .ok (.istore 4, 2) := by decide +kernel
theorem dX3_conflicts_16 : decode cX3_conflicts 16 = .ok (.iload 4, 2) := by decide +kernel
theorem dX3_conflicts_18 : decode cX3_conflicts 18 = .ok (.aload_n 0, 1) := by decide +kernel
theorem dX3_conflicts_19 : decode cX3_conflicts 19 = .ok (.getfield 24, 3) := by decide +kernel
theorem dX3_conflicts_22 : decode cX3_conflicts 22 = .ok (.getfield 89, 3) := by decide +kernel
theorem dX3_conflicts_25 : decode cX3_conflicts 25 = .ok (.if_icmp .ge 31, 3) := by decide +kernel
theorem dX3_conflicts_28 : decode cX3_conflicts 28 = .ok (.aload_n 2, 1) := by decide +kernel
theorem dX3_conflicts_29 : decode cX3_conflicts 29 = .ok (.iload 4, 2) := by decide +kernel
theorem dX3_conflicts_31 : decode cX3_conflicts 31 = .ok (.invokevirtual 118, 3) := by decide +kernel
theorem dX3_conflicts_34 : decode cX3_conflicts 34 = .ok (.ifCond .eq 16, 3) := by decide +kernel
theorem dX3_conflicts_37 : decode cX3_conflicts 37 = .ok (.aload_n 0, 1) := by decide +kernel
theorem dX3_conflicts_38 : decode cX3_conflicts 38 = .ok (.aload_n 2, 1) := by decide +kernel
theorem dX3_conflicts_39 : decode cX3_conflicts 39 = .ok (.iload 4, 2) := by decide +kernel
theorem dX3_conflicts_41 : decode cX3_conflicts 41 = .ok (.invokevirtual 133, 3) := by decide +kernel
theorem dX3_conflicts_44 : decode cX3_conflicts 44 = .ok (.ifCond .eq 6, 3) := by decide +kernel
theorem dX3_conflicts_47 : decode cX3_conflicts 47 = .ok (.iinc 3 1, 3) := by decide +kernel
theorem dX3_conflicts_50 : decode cX3_conflicts 50 = .ok (.iinc 4 1, 3) := by decide +kernel
theorem dX3_conflicts_53 : decode cX3_conflicts 53 = .ok (.goto (-37), 3) := by decide +kernel
theorem dX3_conflicts_56 : decode cX3_conflicts 56 = .ok (.iload_n 3, 1) := by decide +kernel
theorem dX3_conflicts_57 : decode cX3_conflicts 57 = .ok (.ireturn, 1) := by decide +kernel
theorem dX3_beginsConflict_0 : decode cX3_beginsConflict 0 = .ok (.aload_n 0, 1) := by decide +kernel
theorem dX3_beginsConflict_1 : decode cX3_beginsConflict 1 = .ok (.getfield 24, 3) := by decide +kernel
theorem dX3_beginsConflict_4 : decode cX3_beginsConflict 4 = .ok (.getfield 212, 3) := by decide +kernel
theorem dX3_beginsConflict_7 : decode cX3_beginsConflict 7 = .ok (.iload_n 2, 1) := by decide +kernel
theorem dX3_beginsConflict_8 : decode cX3_beginsConflict 8 = .ok (.baload, 1) := by decide +kernel
theorem dX3_beginsConflict_9 : decode cX3_beginsConflict 9 = .ok (.ifCond .eq 5, 3) := by decide +kernel
theorem dX3_beginsConflict_12 : decode cX3_beginsConflict 12 = .ok (.iconst 0, 1) := by decide +kernel
theorem dX3_beginsConflict_13 : decode cX3_beginsConflict 13 = .ok (.ireturn, 1) := by decide +kernel
theorem dX3_beginsConflict_14 : decode cX3_beginsConflict 14 = .ok (.iconst 0, 1) := by decide +kernel
theorem dX3_beginsConflict_15 : decode cX3_beginsConflict 15 = .ok (.istore_n 3, 1) := by decide +kernel
theorem dX3_beginsConflict_16 : decode cX3_beginsConflict 16 = .ok (.iconst 0, 1) := by decide +kernel
theorem dX3_beginsConflict_17 : decode cX3_beginsConflict 17 = .ok (.istore 4, 2) := by decide +kernel
theorem dX3_beginsConflict_19 : decode cX3_beginsConflict 19 = .ok (.iload 4, 2) := by decide +kernel
theorem dX3_beginsConflict_21 : decode cX3_beginsConflict 21 = .ok (.aload_n 0, 1) := by decide +kernel
theorem dX3_beginsConflict_22 : decode cX3_beginsConflict 22 = .ok (.getfield 24, 3) := by decide +kernel
theorem dX3_beginsConflict_25 : decode cX3_beginsConflict 25 = .ok (.getfield 89, 3) := by decide +kernel
theorem dX3_beginsConflict_28 : decode cX3_beginsConflict 28 = .ok (.if_icmp .ge 54, 3) := by decide +kernel
theorem dX3_beginsConflict_31 : decode cX3_beginsConflict 31 = .ok (.aload_n 0, 1) := by decide +kernel
theorem dX3_beginsConflict_32 : decode cX3_beginsConflict 32 = .ok (.getfield 24, 3) := by decide +kernel
theorem dX3_beginsConflict_35 : decode cX3_beginsConflict 35 = .ok (.iload_n 2, 1) := by decide +kernel
theorem dX3_beginsConflict_36 : decode cX3_beginsConflict 36 = .ok (.iload 4, 2) := by decide +kernel
theorem dX3_beginsConflict_38 : decode cX3_beginsConflict 38 = .ok (.invokevirtual 209, 3) := by decide +kernel
theorem dX3_beginsConflict_41 : decode cX3_beginsConflict 41 = .ok (.ifCond .eq 35, 3) := by decide +kernel
theorem dX3_beginsConflict_44 : decode cX3_beginsConflict 44 = .ok (.aload_n 1, 1) := by decide +kernel
theorem dX3_beginsConflict_45 : decode cX3_beginsConflict 45 = .ok (.iload 4, 2) := by decide +kernel
theorem dX3_beginsConflict_47 : decode cX3_beginsConflict 47 = .ok (.invokevirtual 118, 3) := by decide +kernel
theorem dX3_beginsConflict_50 : decode cX3_beginsConflict 50 = .ok (.ifCond .eq 26, 3) := by decide +kernel
theorem dX3_beginsConflict_53 : decode cX3_beginsConflict 53 = .ok (.iload 4, 2) := by decide +kernel
theorem dX3_beginsConflict_55 : decode cX3_beginsConflict 55 = .ok (.iload_n 2, 1) := by decide +kernel
theorem dX3_beginsConflict_56 : decode cX3_beginsConflict 56 = .ok (.if_icmp .lt 16, 3) := by decide +kernel
theorem dX3_beginsConflict_59 : decode cX3_beginsConflict 59 = .ok (.aload_n 0, 1) := by decide +kernel
theorem dX3_beginsConflict_60 : decode cX3_beginsConflict 60 = .ok (.getfield 24, 3) := by decide +kernel
theorem dX3_beginsConflict_63 : decode cX3_beginsConflict 63 = .ok (.getfield 212, 3) := by decide +kernel
theorem dX3_beginsConflict_66 : decode cX3_beginsConflict 66 = .ok (.iload 4, 2) := by decide +kernel
theorem dX3_beginsConflict_68 : decode cX3_beginsConflict 68 = .ok (.baload, 1) := by decide +kernel
theorem dX3_beginsConflict_69 : decode cX3_beginsConflict 69 = .ok (.ifCond .eq 5, 3) := by decide +kernel
theorem dX3_beginsConflict_72 : decode cX3_beginsConflict 72 = .ok (.iconst 0, 1) := by decide +kernel
theorem dX3_beginsConflict_73 : decode cX3_beginsConflict 73 = .ok (.ireturn, 1) := by decide +kernel
theorem dX3_beginsConflict_74 : decode cX3_beginsConflict 74 = .ok (.iconst 1, 1) := by decide +kernel
theorem dX3_beginsConflict_75 : decode cX3_beginsConflict 75 = .ok (.istore_n 3, 1) := by decide +kernel
theorem dX3_beginsConflict_76 : decode cX3_beginsConflict 76 = .ok (.iinc 4 1, 3) := by decide +kernel
theorem dX3_beginsConflict_79 : decode cX3_beginsConflict 79 = .ok (.goto (-60), 3) := by decide +kernel
theorem dX3_beginsConflict_82 : decode cX3_beginsConflict 82 = .ok (.iload_n 3, 1) := by decide +kernel
theorem dX3_beginsConflict_83 : decode cX3_beginsConflict 83 = .ok (.ireturn, 1) := by decide +kernel
theorem dX3_settle_0 : decode cX3_settle 0 = .ok (.iload_n 1, 1) := by decide +kernel
theorem dX3_settle_1 : decode cX3_settle 1 = .ok (.invokestatic 136, 3) := by decide +kernel
theorem dX3_settle_4 : decode cX3_settle 4 = .ok (.iload_n 2, 1) := by decide +kernel
theorem dX3_settle_5 : decode cX3_settle 5 = .ok (.ifCond .ge 13, 3) := by decide +kernel
theorem dX3_settle_8 : decode cX3_settle 8 = .ok (.new 113, 3) := by decide +kernel
theorem dX3_settle_11 : decode cX3_settle 11 = .ok (.dup, 1) := by decide +kernel
theorem dX3_settle_12 : decode cX3_settle 12 = .ok (.ldc 139, 2) := by decide +kernel
theorem dX3_settle_14 : decode cX3_settle 14 = .ok (.invokespecial 117, 3) := by decide +kernel
theorem dX3_settle_17 : decode cX3_settle 17 = .ok (.athrow, 1) := by decide +kernel
theorem dX3_settle_18 : decode cX3_settle 18 = .ok (.aload_n 0, 1) := by decide +kernel
theorem dX3_settle_19 : decode cX3_settle 19 = .ok (.getfield 24, 3) := by decide +kernel
theorem dX3_settle_22 : decode cX3_settle 22 = .ok (.iload_n 1, 1) := by decide +kernel
theorem dX3_settle_23 : decode cX3_settle 23 = .ok (.iload_n 2, 1) := by decide +kernel
theorem dX3_settle_24 : decode cX3_settle 24 = .ok (.invokevirtual 141, 3) := by decide +kernel
theorem dX3_settle_27 : decode cX3_settle 27 = .ok (.istore_n 3, 1) := by decide +kernel
theorem dX3_settle_28 : decode cX3_settle 28 = .ok (.iload_n 3, 1) := by decide +kernel
theorem dX3_settle_29 : decode cX3_settle 29 = .ok (.iconst (-1), 1) := by decide +kernel
theorem dX3_settle_30 : decode cX3_settle 30 = .ok (.if_icmp .ne 13, 3) := by decide +kernel
theorem dX3_settle_33 : decode cX3_settle 33 = .ok (.new 113, 3) := by decide +kernel
theorem dX3_settle_36 : decode cX3_settle 36 = .ok (.dup, 1) := by decide +kernel
theorem dX3_settle_37 : decode cX3_settle 37 = .ok (.ldc 145, 2) := by decide +kernel
theorem dX3_settle_39 : decode cX3_settle 39 = .ok (.invokespecial 117, 3) := by decide +kernel
theorem dX3_settle_42 : decode cX3_settle 42 = .ok (.athrow, 1) := by decide +kernel
theorem dX3_settle_43 : decode cX3_settle 43 = .ok (.aload_n 0, 1) := by decide +kernel
theorem dX3_settle_44 : decode cX3_settle 44 = .ok (.getfield 24, 3) := by decide +kernel
theorem dX3_settle_47 : decode cX3_settle 47 = .ok (.iload_n 3, 1) := by decide +kernel
theorem dX3_settle_48 : decode cX3_settle 48 = .ok (.invokevirtual 147, 3) := by decide +kernel
theorem dX3_settle_51 : decode cX3_settle 51 = .ok (.aload_n 0, 1) := by decide +kernel
theorem dX3_settle_52 : decode cX3_settle 52 = .ok (.getfield 24, 3) := by decide +kernel
theorem dX3_settle_55 : decode cX3_settle 55 = .ok (.getfield 150, 3) := by decide +kernel
theorem dX3_settle_58 : decode cX3_settle 58 = .ok (.iload_n 3, 1) := by decide +kernel
theorem dX3_settle_59 : decode cX3_settle 59 = .ok (.iaload, 1) := by decide +kernel
theorem dX3_settle_60 : decode cX3_settle 60 = .ok (.ireturn, 1) := by decide +kernel
theorem dX3_needName_0 : decode cX3_needName 0 = .ok (.iload_n 0, 1) := by decide +kernel
theorem dX3_needName_1 : decode cX3_needName 1 = .ok (.bipush 9, 2) := by decide +kernel
theorem dX3_needName_3 : decode cX3_needName 3 = .ok (.ishr, 1) := by decide +kernel
theorem dX3_needName_4 : decode cX3_needName 4 = .ok (.invokestatic 34, 3) := by decide +kernel
theorem dX3_needName_7 : decode cX3_needName 7 = .ok (.iload_n 0, 1) := by decide +kernel
theorem dX3_needName_8 : decode cX3_needName 8 = .ok (.bipush 7, 2) := by decide +kernel
theorem dX3_needName_10 : decode cX3_needName 10 = .ok (.invokestatic 206, 3) := by decide +kernel
theorem dX3_needName_13 : decode cX3_needName 13 = .ok (.bipush 100, 2) := by decide +kernel
theorem dX3_needName_15 : decode cX3_needName 15 = .ok (.if_icmp .lt 13, 3) := by decide +kernel
theorem dX3_needName_18 : decode cX3_needName 18 = .ok (.new 113, 3) := by decide +kernel
theorem dX3_needName_21 : decode cX3_needName 21 = .ok (.dup, 1) := by decide +kernel
theorem dX3_needName_22 : decode cX3_needName 22 = .ok (.ldc 204, 2) := by decide +kernel
theorem dX3_needName_24 : decode cX3_needName 24 = .ok (.invokespecial 117, 3) := by decide +kernel
theorem dX3_needName_27 : decode cX3_needName 27 = .ok (.athrow, 1) := by decide +kernel
theorem dX3_needName_28 : decode cX3_needName 28 = .ok (.return_, 1) := by decide +kernel
theorem dX3_last_0 : decode cX3_last 0 = .ok (.iload_n 1, 1) := by decide +kernel
theorem dX3_last_1 : decode cX3_last 1 = .ok (.invokestatic 69, 3) := by decide +kernel
theorem dX3_last_4 : decode cX3_last 4 = .ok (.iload_n 2, 1) := by decide +kernel
theorem dX3_last_5 : decode cX3_last 5 = .ok (.invokestatic 154, 3) := by decide +kernel
theorem dX3_last_8 : decode cX3_last 8 = .ok (.iload_n 3, 1) := by decide +kernel
theorem dX3_last_9 : decode cX3_last 9 = .ok (.ifCond .lt 8, 3) := by decide +kernel
theorem dX3_last_12 : decode cX3_last 12 = .ok (.iload_n 3, 1) := by decide +kernel
theorem dX3_last_13 : decode cX3_last 13 = .ok (.iconst 4, 1) := by decide +kernel
theorem dX3_last_14 : decode cX3_last 14 = .ok (.if_icmp .le 13, 3) := by decide +kernel
theorem dX3_last_17 : decode cX3_last 17 = .ok (.new 113, 3) := by decide +kernel
theorem dX3_last_20 : decode cX3_last 20 = .ok (.dup, 1) := by decide +kernel
theorem dX3_last_21 : decode cX3_last 21 = .ok (.ldc 157, 2) := by decide +kernel
theorem dX3_last_23 : decode cX3_last 23 = .ok (.invokespecial 117, 3) := by decide +kernel
theorem dX3_last_26 : decode cX3_last 26 = .ok (.athrow, 1) := by decide +kernel
theorem dX3_last_27 : decode cX3_last 27 = .ok (.aload_n 0, 1) := by decide +kernel
theorem dX3_last_28 : decode cX3_last 28 = .ok (.getfield 17, 3) := by decide +kernel
theorem dX3_last_31 : decode cX3_last 31 = .ok (.iload_n 1, 1) := by decide +kernel
theorem dX3_last_32 : decode cX3_last 32 = .ok (.aaload, 1) := by decide +kernel
theorem dX3_last_33 : decode cX3_last 33 = .ok (.astore 4, 2) := by decide +kernel
theorem dX3_last_35 : decode cX3_last 35 = .ok (.aload_n 0, 1) := by decide +kernel
theorem dX3_last_36 : decode cX3_last 36 = .ok (.aload 4, 2) := by decide +kernel
theorem dX3_last_38 : decode cX3_last 38 = .ok (.iload_n 2, 1) := by decide +kernel
theorem dX3_last_39 : decode cX3_last 39 = .ok (.aload 4, 2) := by decide +kernel
theorem dX3_last_41 : decode cX3_last 41 = .ok (.getfield 130, 3) := by decide +kernel
theorem dX3_last_44 : decode cX3_last 44 = .ok (.invokevirtual 159, 3) := by decide +kernel
theorem dX3_last_47 : decode cX3_last 47 = .ok (.istore 5, 2) := by decide +kernel
theorem dX3_last_49 : decode cX3_last 49 = .ok (.iload 5, 2) := by decide +kernel
theorem dX3_last_51 : decode cX3_last 51 = .ok (.iconst (-1), 1) := by decide +kernel
theorem dX3_last_52 : decode cX3_last 52 = .ok (.if_icmp .ne 13, 3) := by decide +kernel
theorem dX3_last_55 : decode cX3_last 55 = .ok (.new 42, 3) := by decide +kernel
theorem dX3_last_58 : decode cX3_last 58 = .ok (.dup, 1) := by decide +kernel
theorem dX3_last_59 : decode cX3_last 59 = .ok (.ldc 163, 2) := by decide +kernel
theorem dX3_last_61 : decode cX3_last 61 = .ok (.invokespecial 46, 3) := by decide +kernel
theorem dX3_last_64 : decode cX3_last 64 = .ok (.athrow, 1) := by decide +kernel
theorem dX3_last_65 : decode cX3_last 65 = .ok (.iload_n 3, 1) := by decide +kernel
theorem dX3_last_66 : decode cX3_last 66 = .ok (.tableswitch 68 0 3 #[30, 41, 48, 58], 30) := by decide +kernel
theorem dX3_last_96 : decode cX3_last 96 = .ok (.aload_n 0, 1) := by decide +kernel
theorem dX3_last_97 : decode cX3_last 97 = .ok (.getfield 24, 3) := by decide +kernel
theorem dX3_last_100 : decode cX3_last 100 = .ok (.getfield 150, 3) := by decide +kernel
theorem dX3_last_103 : decode cX3_last 103 = .ok (.iload 5, 2) := by decide +kernel
theorem dX3_last_105 : decode cX3_last 105 = .ok (.iaload, 1) := by decide +kernel
theorem dX3_last_106 : decode cX3_last 106 = .ok (.ireturn, 1) := by decide +kernel
theorem dX3_last_107 : decode cX3_last 107 = .ok (.aload_n 0, 1) := by decide +kernel
theorem dX3_last_108 : decode cX3_last 108 = .ok (.iload 5, 2) := by decide +kernel
theorem dX3_last_110 : decode cX3_last 110 = .ok (.invokevirtual 165, 3) := by decide +kernel
theorem dX3_last_113 : decode cX3_last 113 = .ok (.ireturn, 1) := by decide +kernel
theorem dX3_last_114 : decode cX3_last 114 = .ok (.aload_n 0, 1) := by decide +kernel
theorem dX3_last_115 : decode cX3_last 115 = .ok (.getfield 24, 3) := by decide +kernel
theorem dX3_last_118 : decode cX3_last 118 = .ok (.iload 5, 2) := by decide +kernel
theorem dX3_last_120 : decode cX3_last 120 = .ok (.invokevirtual 168, 3) := by decide +kernel
theorem dX3_last_123 : decode cX3_last 123 = .ok (.ireturn, 1) := by decide +kernel
theorem dX3_last_124 : decode cX3_last 124 = .ok (.aload_n 0, 1) := by decide +kernel
theorem dX3_last_125 : decode cX3_last 125 = .ok (.getfield 24, 3) := by decide +kernel
theorem dX3_last_128 : decode cX3_last 128 = .ok (.iload 5, 2) := by decide +kernel
theorem dX3_last_130 : decode cX3_last 130 = .ok (.invokevirtual 171, 3) := by decide +kernel
theorem dX3_last_133 : decode cX3_last 133 = .ok (.ireturn, 1) := by decide +kernel
theorem dX3_last_134 : decode cX3_last 134 = .ok (.aload_n 0, 1) := by decide +kernel
theorem dX3_last_135 : decode cX3_last 135 = .ok (.getfield 24, 3) := by decide +kernel
theorem dX3_last_138 : decode cX3_last 138 = .ok (.iload 5, 2) := by decide +kernel
theorem dX3_last_140 : decode cX3_last 140 = .ok (.invokevirtual 174, 3) := by decide +kernel
theorem dX3_last_143 : decode cX3_last 143 = .ok (.ireturn, 1) := by decide +kernel
theorem dX3_needKey_0 : decode cX3_needKey 0 = .ok (.iload_n 0, 1) := by decide +kernel
theorem dX3_needKey_1 : decode cX3_needKey 1 = .ok (.ifCond .lt 9, 3) := by decide +kernel
theorem dX3_needKey_4 : decode cX3_needKey 4 = .ok (.iload_n 0, 1) := by decide +kernel
theorem dX3_needKey_5 : decode cX3_needKey 5 = .ok (.bipush 8, 2) := by decide +kernel
theorem dX3_needKey_7 : decode cX3_needKey 7 = .ok (.if_icmp .lt 13, 3) := by decide +kernel
theorem dX3_needKey_10 : decode cX3_needKey 10 = .ok (.new 113, 3) := by decide +kernel
theorem dX3_needKey_13 : decode cX3_needKey 13 = .ok (.dup, 1) := by decide +kernel
theorem dX3_needKey_14 : decode cX3_needKey 14 = .ok (.ldc 194, 2) := by decide +kernel
theorem dX3_needKey_16 : decode cX3_needKey 16 = .ok (.invokespecial 117, 3) := by decide +kernel
theorem dX3_needKey_19 : decode cX3_needKey 19 = .ok (.athrow, 1) := by decide +kernel
theorem dX3_needKey_20 : decode cX3_needKey 20 = .ok (.return_, 1) := by decide +kernel
theorem dX3_findLast_0 : decode cX3_findLast 0 = .ok (.iconst (-1), 1) := by decide +kernel
theorem dX3_findLast_1 : decode cX3_findLast 1 = .ok (.istore 4, 2) := by decide +kernel
theorem dX3_findLast_3 : decode cX3_findLast 3 = .ok (.iconst 0, 1) := by decide +kernel
theorem dX3_findLast_4 : decode cX3_findLast 4 = .ok (.istore 5, 2) := by decide +kernel
theorem dX3_findLast_6 : decode cX3_findLast 6 = .ok (.iload 5, 2) := by decide +kernel
theorem dX3_findLast_8 : decode cX3_findLast 8 = .ok (.aload_n 0, 1) := by decide +kernel
theorem dX3_findLast_9 : decode cX3_findLast 9 = .ok (.getfield 24, 3) := by decide +kernel
theorem dX3_findLast_12 : decode cX3_findLast 12 = .ok (.getfield 89, 3) := by decide +kernel
theorem dX3_findLast_15 : decode cX3_findLast 15 = .ok (.if_icmp .ge 64, 3) := by decide +kernel
theorem dX3_findLast_18 : decode cX3_findLast 18 = .ok (.aload_n 0, 1) := by decide +kernel
theorem dX3_findLast_19 : decode cX3_findLast 19 = .ok (.getfield 24, 3) := by decide +kernel
theorem dX3_findLast_22 : decode cX3_findLast 22 = .ok (.iload 5, 2) := by decide +kernel
theorem dX3_findLast_24 : decode cX3_findLast 24 = .ok (.invokevirtual 218, 3) := by decide +kernel
theorem dX3_findLast_27 : decode cX3_findLast 27 = .ok (.iload_n 2, 1) := by decide +kernel
theorem dX3_findLast_28 : decode cX3_findLast 28 = .ok (.if_icmp .ne 45, 3) := by decide +kernel
theorem dX3_findLast_31 : decode cX3_findLast 31 = .ok (.aload_n 1, 1) := by decide +kernel
theorem dX3_findLast_32 : decode cX3_findLast 32 = .ok (.iload 5, 2) := by decide +kernel
theorem dX3_findLast_34 : decode cX3_findLast 34 = .ok (.iload_n 3, 1) := by decide +kernel
theorem dX3_findLast_35 : decode cX3_findLast 35 = .ok (.invokevirtual 215, 3) := by decide +kernel
theorem dX3_findLast_38 : decode cX3_findLast 38 = .ok (.ifCond .eq 35, 3) := by decide +kernel
theorem dX3_findLast_41 : decode cX3_findLast 41 = .ok (.iload 4, 2) := by decide +kernel
theorem dX3_findLast_43 : decode cX3_findLast 43 = .ok (.iconst (-1), 1) := by decide +kernel
theorem dX3_findLast_44 : decode cX3_findLast 44 = .ok (.if_icmp .eq 14, 3) := by decide +kernel
theorem dX3_findLast_47 : decode cX3_findLast 47 = .ok (.aload_n 0, 1) := by decide +kernel
theorem dX3_findLast_48 : decode cX3_findLast 48 = .ok (.iload 5, 2) := by decide +kernel
theorem dX3_findLast_50 : decode cX3_findLast 50 = .ok (.iload 4, 2) := by decide +kernel
theorem dX3_findLast_52 : decode cX3_findLast 52 = .ok (.invokevirtual 221, 3) := by decide +kernel
theorem dX3_findLast_55 : decode cX3_findLast 55 = .ok (.ifCond .eq 18, 3) := by decide +kernel
theorem dX3_findLast_58 : decode cX3_findLast 58 = .ok (.aload_n 0, 1) := by decide +kernel
theorem dX3_findLast_59 : decode cX3_findLast 59 = .ok (.aload_n 1, 1) := by decide +kernel
theorem dX3_findLast_60 : decode cX3_findLast 60 = .ok (.iload 5, 2) := by decide +kernel
theorem dX3_findLast_62 : decode cX3_findLast 62 = .ok (.iload_n 3, 1) := by decide +kernel
theorem dX3_findLast_63 : decode cX3_findLast 63 = .ok (.invokevirtual 224, 3) := by decide +kernel
theorem dX3_findLast_66 : decode cX3_findLast 66 = .ok (.ifCond .eq 7, 3) := by decide +kernel
theorem dX3_findLast_69 : decode cX3_findLast 69 = .ok (.iload 5, 2) := by decide +kernel
theorem dX3_findLast_71 : decode cX3_findLast 71 = .ok (.istore 4, 2) := by decide +kernel
theorem dX3_findLast_73 : decode cX3_findLast 73 = .ok (.iinc 5 1, 3) := by decide +kernel
theorem dX3_findLast_76 : decode cX3_findLast 76 = .ok (.goto (-70), 3) := by decide +kernel
theorem dX3_findLast_79 : decode cX3_findLast 79 = .ok (.iload 4, 2) := by decide +kernel
theorem dX3_findLast_81 : decode cX3_findLast 81 = .ok (.ireturn, 1) := by decide +kernel
theorem dX3_keyIn_0 : decode cX3_keyIn 0 = .ok (.iload_n 0, 1) := by decide +kernel
theorem dX3_keyIn_1 : decode cX3_keyIn 1 = .ok (.bipush 20, 2) := by decide +kernel
theorem dX3_keyIn_3 : decode cX3_keyIn 3 = .ok (.ishr, 1) := by decide +kernel
theorem dX3_keyIn_4 : decode cX3_keyIn 4 = .ok (.iconst 3, 1) := by decide +kernel
theorem dX3_keyIn_5 : decode cX3_keyIn 5 = .ok (.invokestatic 206, 3) := by decide +kernel
theorem dX3_keyIn_8 : decode cX3_keyIn 8 = .ok (.ireturn, 1) := by decide +kernel
theorem dX3_isLater_0 : decode cX3_isLater 0 = .ok (.aload_n 0, 1) := by decide +kernel
theorem dX3_isLater_1 : decode cX3_isLater 1 = .ok (.iload_n 1, 1) := by decide +kernel
theorem dX3_isLater_2 : decode cX3_isLater 2 = .ok (.invokevirtual 165, 3) := by decide +kernel
theorem dX3_isLater_5 : decode cX3_isLater 5 = .ok (.istore_n 3, 1) := by decide +kernel
theorem dX3_isLater_6 : decode cX3_isLater 6 = .ok (.aload_n 0, 1) := by decide +kernel
theorem dX3_isLater_7 : decode cX3_isLater 7 = .ok (.iload_n 2, 1) := by decide +kernel
theorem dX3_isLater_8 : decode cX3_isLater 8 = .ok (.invokevirtual 165, 3) := by decide +kernel
theorem dX3_isLater_11 : decode cX3_isLater 11 = .ok (.istore 4, 2) := by decide +kernel
theorem dX3_isLater_13 : decode cX3_isLater 13 = .ok (.iload_n 3, 1) := by decide +kernel
theorem dX3_isLater_14 : decode cX3_isLater 14 = .ok (.iload 4, 2) := by decide +kernel
theorem dX3_isLater_16 : decode cX3_isLater 16 = .ok (.if_icmp .eq 17, 3) := by decide +kernel
theorem dX3_isLater_19 : decode cX3_isLater 19 = .ok (.iload_n 3, 1) := by decide +kernel
theorem dX3_isLater_20 : decode cX3_isLater 20 = .ok (.iload 4, 2) := by decide +kernel
theorem dX3_isLater_22 : decode cX3_isLater 22 = .ok (.if_icmp .le 7, 3) := by decide +kernel
theorem dX3_isLater_25 : decode cX3_isLater 25 = .ok (.iconst 1, 1) := by decide +kernel
theorem dX3_isLater_26 : decode cX3_isLater 26 = .ok (.goto 31, 3) := by decide +kernel
theorem dX3_isLater_29 : decode cX3_isLater 29 = .ok (.iconst 0, 1) := by decide +kernel
theorem dX3_isLater_30 : decode cX3_isLater 30 = .ok (.goto 27, 3) := by decide +kernel
theorem dX3_isLater_33 : decode cX3_isLater 33 = .ok (.aload_n 0, 1) := by decide +kernel
theorem dX3_isLater_34 : decode cX3_isLater 34 = .ok (.getfield 24, 3) := by decide +kernel
theorem dX3_isLater_37 : decode cX3_isLater 37 = .ok (.iload_n 1, 1) := by decide +kernel
theorem dX3_isLater_38 : decode cX3_isLater 38 = .ok (.invokevirtual 228, 3) := by decide +kernel
theorem dX3_isLater_41 : decode cX3_isLater 41 = .ok (.aload_n 0, 1) := by decide +kernel
theorem dX3_isLater_42 : decode cX3_isLater 42 = .ok (.getfield 24, 3) := by decide +kernel
theorem dX3_isLater_45 : decode cX3_isLater 45 = .ok (.iload_n 2, 1) := by decide +kernel
theorem dX3_isLater_46 : decode cX3_isLater 46 = .ok (.invokevirtual 228, 3) := by decide +kernel
theorem dX3_isLater_49 : decode cX3_isLater 49 = .ok (.if_icmp .le 7, 3) := by decide +kernel
theorem dX3_isLater_52 : decode cX3_isLater 52 = .ok (.iconst 1, 1) := by decide +kernel
theorem dX3_isLater_53 : decode cX3_isLater 53 = .ok (.goto 4, 3) := by decide +kernel
theorem dX3_isLater_56 : decode cX3_isLater 56 = .ok (.iconst 0, 1) := by decide +kernel
theorem dX3_isLater_57 : decode cX3_isLater 57 = .ok (.ireturn, 1) := by decide +kernel
theorem dX3_realTimeOf_0 : decode cX3_realTimeOf 0 = .ok (.aload_n 0, 1) := by decide +kernel
theorem dX3_realTimeOf_1 : decode cX3_realTimeOf 1 = .ok (.getfield 24, 3) := by decide +kernel
theorem dX3_realTimeOf_4 : decode cX3_realTimeOf 4 = .ok (.iload_n 1, 1) := by decide +kernel
theorem dX3_realTimeOf_5 : decode cX3_realTimeOf 5 = .ok (.invokevirtual 168, 3) := by decide +kernel
theorem dX3_realTimeOf_8 : decode cX3_realTimeOf 8 = .ok (.istore_n 2, 1) := by decide +kernel
theorem dX3_realTimeOf_9 : decode cX3_realTimeOf 9 = .ok (.iload_n 2, 1) := by decide +kernel
theorem dX3_realTimeOf_10 : decode cX3_realTimeOf 10 = .ok (.iconst 5, 1) := by decide +kernel
theorem dX3_realTimeOf_11 : decode cX3_realTimeOf 11 = .ok (.if_icmp .ge 27, 3) := by decide +kernel
theorem dX3_realTimeOf_14 : decode cX3_realTimeOf 14 = .ok (.aload_n 0, 1) := by decide +kernel
theorem dX3_realTimeOf_15 : decode cX3_realTimeOf 15 = .ok (.getfield 11, 3) := by decide +kernel
theorem dX3_realTimeOf_18 : decode cX3_realTimeOf 18 = .ok (.iload_n 2, 1) := by decide +kernel
theorem dX3_realTimeOf_19 : decode cX3_realTimeOf 19 = .ok (.aaload, 1) := by decide +kernel
theorem dX3_realTimeOf_20 : decode cX3_realTimeOf 20 = .ok (.aload_n 0, 1) := by decide +kernel
theorem dX3_realTimeOf_21 : decode cX3_realTimeOf 21 = .ok (.getfield 24, 3) := by decide +kernel
theorem dX3_realTimeOf_24 : decode cX3_realTimeOf 24 = .ok (.getfield 231, 3) := by decide +kernel
theorem dX3_realTimeOf_27 : decode cX3_realTimeOf 27 = .ok (.iload_n 1, 1) := by decide +kernel
theorem dX3_realTimeOf_28 : decode cX3_realTimeOf 28 = .ok (.iaload, 1) := by decide +kernel
theorem dX3_realTimeOf_29 : decode cX3_realTimeOf 29 = .ok (.invokestatic 201, 3) := by decide +kernel
theorem dX3_realTimeOf_32 : decode cX3_realTimeOf 32 = .ok (.invokevirtual 65, 3) := by decide +kernel
theorem dX3_realTimeOf_35 : decode cX3_realTimeOf 35 = .ok (.goto 4, 3) := by decide +kernel
theorem dX3_realTimeOf_38 : decode cX3_realTimeOf 38 = .ok (.iconst 0, 1) := by decide +kernel
theorem dX3_realTimeOf_39 : decode cX3_realTimeOf 39 = .ok (.ireturn, 1) := by decide +kernel
theorem dX3_countsBy_0 : decode cX3_countsBy 0 = .ok (.aload_n 0, 1) := by decide +kernel
theorem dX3_countsBy_1 : decode cX3_countsBy 1 = .ok (.getfield 24, 3) := by decide +kernel
theorem dX3_countsBy_4 : decode cX3_countsBy 4 = .ok (.getfield 212, 3) := by decide +kernel
theorem dX3_countsBy_7 : decode cX3_countsBy 7 = .ok (.iload_n 2, 1) := by decide +kernel
theorem dX3_countsBy_8 : decode cX3_countsBy 8 = .ok (.baload, 1) := by decide +kernel
theorem dX3_countsBy_9 : decode cX3_countsBy 9 = .ok (.ifCond .eq 5, 3) := by decide +kernel
theorem dX3_countsBy_12 : decode cX3_countsBy 12 = .ok (.iconst 1, 1) := by decide +kernel
theorem dX3_countsBy_13 : decode cX3_countsBy 13 = .ok (.ireturn, 1) := by decide +kernel
theorem dX3_countsBy_14 : decode cX3_countsBy 14 = .ok (.iconst 0, 1) := by decide +kernel
theorem dX3_countsBy_15 : decode cX3_countsBy 15 = .ok (.istore 4, 2) := by decide +kernel
theorem dX3_countsBy_17 : decode cX3_countsBy 17 = .ok (.iload 4, 2) := by decide +kernel
theorem dX3_countsBy_19 : decode cX3_countsBy 19 = .ok (.aload_n 0, 1) := by decide +kernel
theorem dX3_countsBy_20 : decode cX3_countsBy 20 = .ok (.getfield 24, 3) := by decide +kernel
theorem dX3_countsBy_23 : decode cX3_countsBy 23 = .ok (.getfield 89, 3) := by decide +kernel
theorem dX3_countsBy_26 : decode cX3_countsBy 26 = .ok (.if_icmp .ge 47, 3) := by decide +kernel
theorem dX3_countsBy_29 : decode cX3_countsBy 29 = .ok (.aload_n 0, 1) := by decide +kernel
theorem dX3_countsBy_30 : decode cX3_countsBy 30 = .ok (.getfield 24, 3) := by decide +kernel
theorem dX3_countsBy_33 : decode cX3_countsBy 33 = .ok (.iload_n 2, 1) := by decide +kernel
theorem dX3_countsBy_34 : decode cX3_countsBy 34 = .ok (.iload 4, 2) := by decide +kernel
theorem dX3_countsBy_36 : decode cX3_countsBy 36 = .ok (.invokevirtual 209, 3) := by decide +kernel
theorem dX3_countsBy_39 : decode cX3_countsBy 39 = .ok (.ifCond .eq 28, 3) := by decide +kernel
theorem dX3_countsBy_42 : decode cX3_countsBy 42 = .ok (.aload_n 0, 1) := by decide +kernel
theorem dX3_countsBy_43 : decode cX3_countsBy 43 = .ok (.getfield 24, 3) := by decide +kernel
theorem dX3_countsBy_46 : decode cX3_countsBy 46 = .ok (.getfield 212, 3) := by decide +kernel
theorem dX3_countsBy_49 : decode cX3_countsBy 49 = .ok (.iload 4, 2) := by decide +kernel
theorem dX3_countsBy_51 : decode cX3_countsBy 51 = .ok (.baload, 1) := by decide +kernel
theorem dX3_countsBy_52 : decode cX3_countsBy 52 = .ok (.ifCond .ne 13, 3) := by decide +kernel
theorem dX3_countsBy_55 : decode cX3_countsBy 55 = .ok (.aload_n 1, 1) := by decide +kernel
theorem dX3_countsBy_56 : decode cX3_countsBy 56 = .ok (.iload 4, 2) := by decide +kernel
theorem dX3_countsBy_58 : decode cX3_countsBy 58 = .ok (.iload_n 3, 1) := by decide +kernel
theorem dX3_countsBy_59 : decode cX3_countsBy 59 = .ok (.invokevirtual 215, 3) := by decide +kernel
theorem dX3_countsBy_62 : decode cX3_countsBy 62 = .ok (.ifCond .eq 5, 3) := by decide +kernel
theorem dX3_countsBy_65 : decode cX3_countsBy 65 = .ok (.iconst 0, 1) := by decide +kernel
theorem dX3_countsBy_66 : decode cX3_countsBy 66 = .ok (.ireturn, 1) := by decide +kernel
theorem dX3_countsBy_67 : decode cX3_countsBy 67 = .ok (.iinc 4 1, 3) := by decide +kernel
theorem dX3_countsBy_70 : decode cX3_countsBy 70 = .ok (.goto (-53), 3) := by decide +kernel
theorem dX3_countsBy_73 : decode cX3_countsBy 73 = .ok (.iconst 1, 1) := by decide +kernel
theorem dX3_countsBy_74 : decode cX3_countsBy 74 = .ok (.ireturn, 1) := by decide +kernel
theorem dX3_known_0 : decode cX3_known 0 = .ok (.iload_n 1, 1) := by decide +kernel
theorem dX3_known_1 : decode cX3_known 1 = .ok (.invokestatic 69, 3) := by decide +kernel
theorem dX3_known_4 : decode cX3_known 4 = .ok (.iload_n 2, 1) := by decide +kernel
theorem dX3_known_5 : decode cX3_known 5 = .ok (.invokestatic 154, 3) := by decide +kernel
theorem dX3_known_8 : decode cX3_known 8 = .ok (.aload_n 0, 1) := by decide +kernel
theorem dX3_known_9 : decode cX3_known 9 = .ok (.getfield 17, 3) := by decide +kernel
theorem dX3_known_12 : decode cX3_known 12 = .ok (.iload_n 1, 1) := by decide +kernel
theorem dX3_known_13 : decode cX3_known 13 = .ok (.aaload, 1) := by decide +kernel
theorem dX3_known_14 : decode cX3_known 14 = .ok (.astore 4, 2) := by decide +kernel
theorem dX3_known_16 : decode cX3_known 16 = .ok (.iload_n 3, 1) := by decide +kernel
theorem dX3_known_17 : decode cX3_known 17 = .ok (.ifCond .lt 12, 3) := by decide +kernel
theorem dX3_known_20 : decode cX3_known 20 = .ok (.iload_n 3, 1) := by decide +kernel
theorem dX3_known_21 : decode cX3_known 21 = .ok (.aload 4, 2) := by decide +kernel
theorem dX3_known_23 : decode cX3_known 23 = .ok (.getfield 130, 3) := by decide +kernel
theorem dX3_known_26 : decode cX3_known 26 = .ok (.if_icmp .le 13, 3) := by decide +kernel
theorem dX3_known_29 : decode cX3_known 29 = .ok (.new 56, 3) := by decide +kernel
theorem dX3_known_32 : decode cX3_known 32 = .ok (.dup, 1) := by decide +kernel
theorem dX3_known_33 : decode cX3_known 33 = .ok (.ldc 176, 2) := by decide +kernel
theorem dX3_known_35 : decode cX3_known 35 = .ok (.invokespecial 60, 3) := by decide +kernel
theorem dX3_known_38 : decode cX3_known 38 = .ok (.athrow, 1) := by decide +kernel
theorem dX3_known_39 : decode cX3_known 39 = .ok (.aload_n 0, 1) := by decide +kernel
theorem dX3_known_40 : decode cX3_known 40 = .ok (.aload 4, 2) := by decide +kernel
theorem dX3_known_42 : decode cX3_known 42 = .ok (.iload_n 2, 1) := by decide +kernel
theorem dX3_known_43 : decode cX3_known 43 = .ok (.iload_n 3, 1) := by decide +kernel
theorem dX3_known_44 : decode cX3_known 44 = .ok (.invokevirtual 159, 3) := by decide +kernel
theorem dX3_known_47 : decode cX3_known 47 = .ok (.istore 5, 2) := by decide +kernel
theorem dX3_known_49 : decode cX3_known 49 = .ok (.iload 5, 2) := by decide +kernel
theorem dX3_known_51 : decode cX3_known 51 = .ok (.iconst (-1), 1) := by decide +kernel
theorem dX3_known_52 : decode cX3_known 52 = .ok (.if_icmp .ne 13, 3) := by decide +kernel
theorem dX3_known_55 : decode cX3_known 55 = .ok (.new 42, 3) := by decide +kernel
theorem dX3_known_58 : decode cX3_known 58 = .ok (.dup, 1) := by decide +kernel
theorem dX3_known_59 : decode cX3_known 59 = .ok (.ldc 178, 2) := by decide +kernel
theorem dX3_known_61 : decode cX3_known 61 = .ok (.invokespecial 46, 3) := by decide +kernel
theorem dX3_known_64 : decode cX3_known 64 = .ok (.athrow, 1) := by decide +kernel
theorem dX3_known_65 : decode cX3_known 65 = .ok (.aload_n 0, 1) := by decide +kernel
theorem dX3_known_66 : decode cX3_known 66 = .ok (.getfield 24, 3) := by decide +kernel
theorem dX3_known_69 : decode cX3_known 69 = .ok (.getfield 150, 3) := by decide +kernel
theorem dX3_known_72 : decode cX3_known 72 = .ok (.iload 5, 2) := by decide +kernel
theorem dX3_known_74 : decode cX3_known 74 = .ok (.iaload, 1) := by decide +kernel
theorem dX3_known_75 : decode cX3_known 75 = .ok (.ireturn, 1) := by decide +kernel
theorem dX3_many_0 : decode cX3_many 0 = .ok (.iload_n 1, 1) := by decide +kernel
theorem dX3_many_1 : decode cX3_many 1 = .ok (.invokestatic 69, 3) := by decide +kernel
theorem dX3_many_4 : decode cX3_many 4 = .ok (.iload_n 2, 1) := by decide +kernel
theorem dX3_many_5 : decode cX3_many 5 = .ok (.ifCond .lt 8, 3) := by decide +kernel
theorem dX3_many_8 : decode cX3_many 8 = .ok (.iload_n 2, 1) := by decide +kernel
theorem dX3_many_9 : decode cX3_many 9 = .ok (.iconst 2, 1) := by decide +kernel
theorem dX3_many_10 : decode cX3_many 10 = .ok (.if_icmp .le 13, 3) := by decide +kernel
theorem dX3_many_13 : decode cX3_many 13 = .ok (.new 113, 3) := by decide +kernel
theorem dX3_many_16 : decode cX3_many 16 = .ok (.dup, 1) := by decide +kernel
theorem dX3_many_17 : decode cX3_many 17 = .ok (.ldc 157, 2) := by decide +kernel
theorem dX3_many_19 : decode cX3_many 19 = .ok (.invokespecial 117, 3) := by decide +kernel
theorem dX3_many_22 : decode cX3_many 22 = .ok (.athrow, 1) := by decide +kernel
theorem dX3_many_23 : decode cX3_many 23 = .ok (.aload_n 0, 1) := by decide +kernel
theorem dX3_many_24 : decode cX3_many 24 = .ok (.getfield 17, 3) := by decide +kernel
theorem dX3_many_27 : decode cX3_many 27 = .ok (.iload_n 1, 1) := by decide +kernel
theorem dX3_many_28 : decode cX3_many 28 = .ok (.aaload, 1) := by decide +kernel
theorem dX3_many_29 : decode cX3_many 29 = .ok (.astore_n 3, 1) := by decide +kernel
theorem dX3_many_30 : decode cX3_many 30 = .ok (.iload_n 2, 1) := by decide +kernel
theorem dX3_many_31 : decode cX3_many 31 = .ok (.lookupswitch 35 #[(0, 25), (1, 30)], 25) := by decide +kernel
theorem dX3_many_56 : decode cX3_many 56 = .ok (.aload_n 3, 1) := by decide +kernel
theorem dX3_many_57 : decode cX3_many 57 = .ok (.getfield 180, 3) := by decide +kernel
theorem dX3_many_60 : decode cX3_many 60 = .ok (.ireturn, 1) := by decide +kernel
theorem dX3_many_61 : decode cX3_many 61 = .ok (.aload_n 3, 1) := by decide +kernel
theorem dX3_many_62 : decode cX3_many 62 = .ok (.getfield 130, 3) := by decide +kernel
theorem dX3_many_65 : decode cX3_many 65 = .ok (.ireturn, 1) := by decide +kernel
theorem dX3_many_66 : decode cX3_many 66 = .ok (.aload_n 3, 1) := by decide +kernel
theorem dX3_many_67 : decode cX3_many 67 = .ok (.getfield 183, 3) := by decide +kernel
theorem dX3_many_70 : decode cX3_many 70 = .ok (.ireturn, 1) := by decide +kernel
theorem dX3_gap_0 : decode cX3_gap 0 = .ok (.iload_n 1, 1) := by decide +kernel
theorem dX3_gap_1 : decode cX3_gap 1 = .ok (.invokestatic 69, 3) := by decide +kernel
theorem dX3_gap_4 : decode cX3_gap 4 = .ok (.iload_n 2, 1) := by decide +kernel
theorem dX3_gap_5 : decode cX3_gap 5 = .ok (.invokestatic 34, 3) := by decide +kernel
theorem dX3_gap_8 : decode cX3_gap 8 = .ok (.iload_n 3, 1) := by decide +kernel
theorem dX3_gap_9 : decode cX3_gap 9 = .ok (.ifCond .ge 13, 3) := by decide +kernel
theorem dX3_gap_12 : decode cX3_gap 12 = .ok (.new 113, 3) := by decide +kernel
theorem dX3_gap_15 : decode cX3_gap 15 = .ok (.dup, 1) := by decide +kernel
theorem dX3_gap_16 : decode cX3_gap 16 = .ok (.ldc 139, 2) := by decide +kernel
theorem dX3_gap_18 : decode cX3_gap 18 = .ok (.invokespecial 117, 3) := by decide +kernel
theorem dX3_gap_21 : decode cX3_gap 21 = .ok (.athrow, 1) := by decide +kernel
theorem dX3_gap_22 : decode cX3_gap 22 = .ok (.aload_n 0, 1) := by decide +kernel
theorem dX3_gap_23 : decode cX3_gap 23 = .ok (.aload_n 0, 1) := by decide +kernel
theorem dX3_gap_24 : decode cX3_gap 24 = .ok (.getfield 17, 3) := by decide +kernel
theorem dX3_gap_27 : decode cX3_gap 27 = .ok (.iload_n 1, 1) := by decide +kernel
theorem dX3_gap_28 : decode cX3_gap 28 = .ok (.aaload, 1) := by decide +kernel
theorem dX3_gap_29 : decode cX3_gap 29 = .ok (.iload_n 2, 1) := by decide +kernel
theorem dX3_gap_30 : decode cX3_gap 30 = .ok (.invokevirtual 186, 3) := by decide +kernel
theorem dX3_gap_33 : decode cX3_gap 33 = .ok (.istore 4, 2) := by decide +kernel
theorem dX3_gap_35 : decode cX3_gap 35 = .ok (.iconst (-1), 1) := by decide +kernel
theorem dX3_gap_36 : decode cX3_gap 36 = .ok (.istore 5, 2) := by decide +kernel
theorem dX3_gap_38 : decode cX3_gap 38 = .ok (.iload_n 3, 1) := by decide +kernel
theorem dX3_gap_39 : decode cX3_gap 39 = .ok (.istore 6, 2) := by decide +kernel
theorem dX3_gap_41 : decode cX3_gap 41 = .ok (.iconst 0, 1) := by decide +kernel
theorem dX3_gap_42 : decode cX3_gap 42 = .ok (.istore 7, 2) := by decide +kernel
theorem dX3_gap_44 : decode cX3_gap 44 = .ok (.iload 7, 2) := by decide +kernel
theorem dX3_gap_46 : decode cX3_gap 46 = .ok (.iload 4, 2) := by decide +kernel
theorem dX3_gap_48 : decode cX3_gap 48 = .ok (.if_icmp .gt 72, 3) := by decide +kernel
theorem dX3_gap_51 : decode cX3_gap 51 = .ok (.iload 7, 2) := by decide +kernel
theorem dX3_gap_53 : decode cX3_gap 53 = .ok (.bipush 100, 2) := by decide +kernel
theorem dX3_gap_55 : decode cX3_gap 55 = .ok (.if_icmp .ge 65, 3) := by decide +kernel
theorem dX3_gap_58 : decode cX3_gap 58 = .ok (.aload_n 0, 1) := by decide +kernel
theorem dX3_gap_59 : decode cX3_gap 59 = .ok (.getfield 28, 3) := by decide +kernel
theorem dX3_gap_62 : decode cX3_gap 62 = .ok (.iload 7, 2) := by decide +kernel
theorem dX3_gap_64 : decode cX3_gap 64 = .ok (.baload, 1) := by decide +kernel
theorem dX3_gap_65 : decode cX3_gap 65 = .ok (.ifCond .ne 21, 3) := by decide +kernel
theorem dX3_gap_68 : decode cX3_gap 68 = .ok (.iload 5, 2) := by decide +kernel
theorem dX3_gap_70 : decode cX3_gap 70 = .ok (.iconst (-1), 1) := by decide +kernel
theorem dX3_gap_71 : decode cX3_gap 71 = .ok (.if_icmp .ne 8, 3) := by decide +kernel
theorem dX3_gap_74 : decode cX3_gap 74 = .ok (.iload 7, 2) := by decide +kernel
theorem dX3_gap_76 : decode cX3_gap 76 = .ok (.goto 5, 3) := by decide +kernel
theorem dX3_gap_79 : decode cX3_gap 79 = .ok (.iload 5, 2) := by decide +kernel
theorem dX3_gap_81 : decode cX3_gap 81 = .ok (.istore 5, 2) := by decide +kernel
theorem dX3_gap_83 : decode cX3_gap 83 = .ok (.goto 31, 3) := by decide +kernel
theorem dX3_gap_86 : decode cX3_gap 86 = .ok (.iload 5, 2) := by decide +kernel
theorem dX3_gap_88 : decode cX3_gap 88 = .ok (.iconst (-1), 1) := by decide +kernel
theorem dX3_gap_89 : decode cX3_gap 89 = .ok (.if_icmp .eq 25, 3) := by decide +kernel
theorem dX3_gap_92 : decode cX3_gap 92 = .ok (.iload 6, 2) := by decide +kernel
theorem dX3_gap_94 : decode cX3_gap 94 = .ok (.ifCond .ne 14, 3) := by decide +kernel
theorem dX3_gap_97 : decode cX3_gap 97 = .ok (.bipush 100, 2) := by decide +kernel
theorem dX3_gap_99 : decode cX3_gap 99 = .ok (.iload 5, 2) := by decide +kernel
theorem dX3_gap_101 : decode cX3_gap 101 = .ok (.imul, 1) := by decide +kernel
theorem dX3_gap_102 : decode cX3_gap 102 = .ok (.iload 7, 2) := by decide +kernel
theorem dX3_gap_104 : decode cX3_gap 104 = .ok (.iadd, 1) := by decide +kernel
theorem dX3_gap_105 : decode cX3_gap 105 = .ok (.iconst 1, 1) := by decide +kernel
theorem dX3_gap_106 : decode cX3_gap 106 = .ok (.isub, 1) := by decide +kernel
theorem dX3_gap_107 : decode cX3_gap 107 = .ok (.ireturn, 1) := by decide +kernel
theorem dX3_gap_108 : decode cX3_gap 108 = .ok (.iinc 6 (-1), 3) := by decide +kernel
theorem dX3_gap_111 : decode cX3_gap 111 = .ok (.iconst (-1), 1) := by decide +kernel
theorem dX3_gap_112 : decode cX3_gap 112 = .ok (.istore 5, 2) := by decide +kernel
theorem dX3_gap_114 : decode cX3_gap 114 = .ok (.iinc 7 1, 3) := by decide +kernel
theorem dX3_gap_117 : decode cX3_gap 117 = .ok (.goto (-73), 3) := by decide +kernel
theorem dX3_gap_120 : decode cX3_gap 120 = .ok (.iconst (-1), 1) := by decide +kernel
theorem dX3_gap_121 : decode cX3_gap 121 = .ok (.ireturn, 1) := by decide +kernel
theorem dX3_hear_0 : decode cX3_hear 0 = .ok (.iconst 0, 1) := by decide +kernel
theorem dX3_hear_1 : decode cX3_hear 1 = .ok (.istore_n 3, 1) := by decide +kernel
theorem dX3_hear_2 : decode cX3_hear 2 = .ok (.iload_n 3, 1) := by decide +kernel
theorem dX3_hear_3 : decode cX3_hear 3 = .ok (.bipush 100, 2) := by decide +kernel
theorem dX3_hear_5 : decode cX3_hear 5 = .ok (.if_icmp .ge 16, 3) := by decide +kernel
theorem dX3_hear_8 : decode cX3_hear 8 = .ok (.aload_n 0, 1) := by decide +kernel
theorem dX3_hear_9 : decode cX3_hear 9 = .ok (.getfield 28, 3) := by decide +kernel
theorem dX3_hear_12 : decode cX3_hear 12 = .ok (.iload_n 3, 1) := by decide +kernel
theorem dX3_hear_13 : decode cX3_hear 13 = .ok (.iconst 0, 1) := by decide +kernel
theorem dX3_hear_14 : decode cX3_hear 14 = .ok (.bastore, 1) := by decide +kernel
theorem dX3_hear_15 : decode cX3_hear 15 = .ok (.iinc 3 1, 3) := by decide +kernel
theorem dX3_hear_18 : decode cX3_hear 18 = .ok (.goto (-16), 3) := by decide +kernel
theorem dX3_hear_21 : decode cX3_hear 21 = .ok (.aload_n 0, 1) := by decide +kernel
theorem dX3_hear_22 : decode cX3_hear 22 = .ok (.getfield 11, 3) := by decide +kernel
theorem dX3_hear_25 : decode cX3_hear 25 = .ok (.iload_n 2, 1) := by decide +kernel
theorem dX3_hear_26 : decode cX3_hear 26 = .ok (.aaload, 1) := by decide +kernel
theorem dX3_hear_27 : decode cX3_hear 27 = .ok (.getfield 76, 3) := by decide +kernel
theorem dX3_hear_30 : decode cX3_hear 30 = .ok (.istore_n 3, 1) := by decide +kernel
theorem dX3_hear_31 : decode cX3_hear 31 = .ok (.iconst (-1), 1) := by decide +kernel
theorem dX3_hear_32 : decode cX3_hear 32 = .ok (.istore 4, 2) := by decide +kernel
theorem dX3_hear_34 : decode cX3_hear 34 = .ok (.iconst 0, 1) := by decide +kernel
theorem dX3_hear_35 : decode cX3_hear 35 = .ok (.istore 5, 2) := by decide +kernel
theorem dX3_hear_37 : decode cX3_hear 37 = .ok (.iload 5, 2) := by decide +kernel
theorem dX3_hear_39 : decode cX3_hear 39 = .ok (.aload_n 0, 1) := by decide +kernel
theorem dX3_hear_40 : decode cX3_hear 40 = .ok (.getfield 24, 3) := by decide +kernel
theorem dX3_hear_43 : decode cX3_hear 43 = .ok (.getfield 89, 3) := by decide +kernel
theorem dX3_hear_46 : decode cX3_hear 46 = .ok (.if_icmp .ge 73, 3) := by decide +kernel
theorem dX3_hear_49 : decode cX3_hear 49 = .ok (.aload_n 0, 1) := by decide +kernel
theorem dX3_hear_50 : decode cX3_hear 50 = .ok (.getfield 24, 3) := by decide +kernel
theorem dX3_hear_53 : decode cX3_hear 53 = .ok (.iload 5, 2) := by decide +kernel
theorem dX3_hear_55 : decode cX3_hear 55 = .ok (.invokevirtual 171, 3) := by decide +kernel
theorem dX3_hear_58 : decode cX3_hear 58 = .ok (.istore 6, 2) := by decide +kernel
theorem dX3_hear_60 : decode cX3_hear 60 = .ok (.aload_n 1, 1) := by decide +kernel
theorem dX3_hear_61 : decode cX3_hear 61 = .ok (.iload 5, 2) := by decide +kernel
theorem dX3_hear_63 : decode cX3_hear 63 = .ok (.invokevirtual 118, 3) := by decide +kernel
theorem dX3_hear_66 : decode cX3_hear 66 = .ok (.ifCond .eq 47, 3) := by decide +kernel
theorem dX3_hear_69 : decode cX3_hear 69 = .ok (.aload_n 0, 1) := by decide +kernel
theorem dX3_hear_70 : decode cX3_hear 70 = .ok (.getfield 24, 3) := by decide +kernel
theorem dX3_hear_73 : decode cX3_hear 73 = .ok (.getfield 234, 3) := by decide +kernel
theorem dX3_hear_76 : decode cX3_hear 76 = .ok (.iload 5, 2) := by decide +kernel
theorem dX3_hear_78 : decode cX3_hear 78 = .ok (.iaload, 1) := by decide +kernel
theorem dX3_hear_79 : decode cX3_hear 79 = .ok (.iload_n 2, 1) := by decide +kernel
theorem dX3_hear_80 : decode cX3_hear 80 = .ok (.iload_n 3, 1) := by decide +kernel
theorem dX3_hear_81 : decode cX3_hear 81 = .ok (.iload 6, 2) := by decide +kernel
theorem dX3_hear_83 : decode cX3_hear 83 = .ok (.invokestatic 82, 3) := by decide +kernel
theorem dX3_hear_86 : decode cX3_hear 86 = .ok (.if_icmp .ne 27, 3) := by decide +kernel
theorem dX3_hear_89 : decode cX3_hear 89 = .ok (.iload 6, 2) := by decide +kernel
theorem dX3_hear_91 : decode cX3_hear 91 = .ok (.bipush 100, 2) := by decide +kernel
theorem dX3_hear_93 : decode cX3_hear 93 = .ok (.if_icmp .ge 20, 3) := by decide +kernel
theorem dX3_hear_96 : decode cX3_hear 96 = .ok (.aload_n 0, 1) := by decide +kernel
theorem dX3_hear_97 : decode cX3_hear 97 = .ok (.getfield 28, 3) := by decide +kernel
theorem dX3_hear_100 : decode cX3_hear 100 = .ok (.iload 6, 2) := by decide +kernel
theorem dX3_hear_102 : decode cX3_hear 102 = .ok (.iconst 1, 1) := by decide +kernel
theorem dX3_hear_103 : decode cX3_hear 103 = .ok (.bastore, 1) := by decide +kernel
theorem dX3_hear_104 : decode cX3_hear 104 = .ok (.iload 4, 2) := by decide +kernel
theorem dX3_hear_106 : decode cX3_hear 106 = .ok (.iload 6, 2) := by decide +kernel
theorem dX3_hear_108 : decode cX3_hear 108 = .ok (.invokestatic 237, 3) := by decide +kernel
theorem dX3_hear_111 : decode cX3_hear 111 = .ok (.istore 4, 2) := by decide +kernel
theorem dX3_hear_113 : decode cX3_hear 113 = .ok (.iinc 5 1, 3) := by decide +kernel
theorem dX3_hear_116 : decode cX3_hear 116 = .ok (.goto (-79), 3) := by decide +kernel
theorem dX3_hear_119 : decode cX3_hear 119 = .ok (.iload 4, 2) := by decide +kernel
theorem dX3_hear_121 : decode cX3_hear 121 = .ok (.ireturn, 1) := by decide +kernel
