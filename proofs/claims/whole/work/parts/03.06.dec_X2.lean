theorem dX2_init_0 : decode cX2_init 0 = .ok (.aload_n 0, 1) := by decide +kernel
theorem dX2_init_1 : decode cX2_init 1 = .ok (.invokespecial 3, 3) := by decide +kernel
theorem dX2_init_4 : decode cX2_init 4 = .ok (.aload_n 0, 1) := by decide +kernel
theorem dX2_init_5 : decode cX2_init 5 = .ok (.bipush 100, 2) := by decide +kernel
theorem dX2_init_7 : decode cX2_init 7 = .ok (.newarray .int, 2) := by decide +kernel
theorem dX2_init_9 : decode cX2_init 9 = .ok (.putfield 9, 3) := by decide +kernel
theorem dX2_init_12 : decode cX2_init 12 = .ok (.aload_n 0, 1) := by decide +kernel
theorem dX2_init_13 : decode cX2_init 13 = .ok (.sipush 4800, 3) := by decide +kernel
theorem dX2_init_16 : decode cX2_init 16 = .ok (.newarray .long, 2) := by decide +kernel
theorem dX2_init_18 : decode cX2_init 18 = .ok (.putfield 15, 3) := by decide +kernel
theorem dX2_init_21 : decode cX2_init 21 = .ok (.aload_n 0, 1) := by decide +kernel
theorem dX2_init_22 : decode cX2_init 22 = .ok (.sipush 800, 3) := by decide +kernel
theorem dX2_init_25 : decode cX2_init 25 = .ok (.newarray .int, 2) := by decide +kernel
theorem dX2_init_27 : decode cX2_init 27 = .ok (.putfield 19, 3) := by decide +kernel
theorem dX2_init_30 : decode cX2_init 30 = .ok (.aload_n 0, 1) := by decide +kernel
theorem dX2_init_31 : decode cX2_init 31 = .ok (.bipush 100, 2) := by decide +kernel
theorem dX2_init_33 : decode cX2_init 33 = .ok (.newarray .long, 2) := by decide +kernel
theorem dX2_init_35 : decode cX2_init 35 = .ok (.putfield 22, 3) := by decide +kernel
theorem dX2_init_38 : decode cX2_init 38 = .ok (.aload_n 0, 1) := by decide +kernel
theorem dX2_init_39 : decode cX2_init 39 = .ok (.aload_n 1, 1) := by decide +kernel
theorem dX2_init_40 : decode cX2_init 40 = .ok (.putfield 25, 3) := by decide +kernel
theorem dX2_init_43 : decode cX2_init 43 = .ok (.return_, 1) := by decide +kernel
theorem dX2_forgetAll_0 : decode cX2_forgetAll 0 = .ok (.aload_n 0, 1) := by decide +kernel
theorem dX2_forgetAll_1 : decode cX2_forgetAll 1 = .ok (.invokevirtual 29, 3) := by decide +kernel
theorem dX2_forgetAll_4 : decode cX2_forgetAll 4 = .ok (.aload_n 0, 1) := by decide +kernel
theorem dX2_forgetAll_5 : decode cX2_forgetAll 5 = .ok (.getfield 19, 3) := by decide +kernel
theorem dX2_forgetAll_8 : decode cX2_forgetAll 8 = .ok (.iconst (-1), 1) := by decide +kernel
theorem dX2_forgetAll_9 : decode cX2_forgetAll 9 = .ok (.invokestatic 32, 3) := by decide +kernel
theorem dX2_forgetAll_12 : decode cX2_forgetAll 12 = .ok (.aload_n 0, 1) := by decide +kernel
theorem dX2_forgetAll_13 : decode cX2_forgetAll 13 = .ok (.getfield 22, 3) := by decide +kernel
theorem dX2_forgetAll_16 : decode cX2_forgetAll 16 = .ok (.ldc2_w 38, 3) := by decide +kernel
theorem dX2_forgetAll_19 : decode cX2_forgetAll 19 = .ok (.invokestatic 40, 3) := by decide +kernel
theorem dX2_forgetAll_22 : decode cX2_forgetAll 22 = .ok (.aload_n 0, 1) := by decide +kernel
theorem dX2_forgetAll_23 : decode cX2_forgetAll 23 = .ok (.iconst 0, 1) := by decide +kernel
theorem dX2_forgetAll_24 : decode cX2_forgetAll 24 = .ok (.putfield 43, 3) := by decide +kernel
theorem dX2_forgetAll_27 : decode cX2_forgetAll 27 = .ok (.return_, 1) := by decide +kernel
theorem dX2_makeAllOne_0 : decode cX2_makeAllOne 0 = .ok (.aload_n 0, 1) := by decide +kernel
theorem dX2_makeAllOne_1 : decode cX2_makeAllOne 1 = .ok (.getfield 9, 3) := by decide +kernel
theorem dX2_makeAllOne_4 : decode cX2_makeAllOne 4 = .ok (.iconst 1, 1) := by decide +kernel
theorem dX2_makeAllOne_5 : decode cX2_makeAllOne 5 = .ok (.invokestatic 32, 3) := by decide +kernel
theorem dX2_makeAllOne_8 : decode cX2_makeAllOne 8 = .ok (.return_, 1) := by decide +kernel
theorem dX2_startFold_0 : decode cX2_startFold 0 = .ok (.iconst 0, 1) := by decide +kernel
theorem dX2_startFold_1 : decode cX2_startFold 1 = .ok (.istore_n 2, 1) := by decide +kernel
theorem dX2_startFold_2 : decode cX2_startFold 2 = .ok (.iload_n 2, 1) := by decide +kernel
theorem dX2_startFold_3 : decode cX2_startFold 3 = .ok (.bipush 100, 2) := by decide +kernel
theorem dX2_startFold_5 : decode cX2_startFold 5 = .ok (.if_icmp .ge 28, 3) := by decide +kernel
theorem dX2_startFold_8 : decode cX2_startFold 8 = .ok (.aload_n 0, 1) := by decide +kernel
theorem dX2_startFold_9 : decode cX2_startFold 9 = .ok (.getfield 15, 3) := by decide +kernel
theorem dX2_startFold_12 : decode cX2_startFold 12 = .ok (.iload_n 2, 1) := by decide +kernel
theorem dX2_startFold_13 : decode cX2_startFold 13 = .ok (.iconst 0, 1) := by decide +kernel
theorem dX2_startFold_14 : decode cX2_startFold 14 = .ok (.iload_n 1, 1) := by decide +kernel
theorem dX2_startFold_15 : decode cX2_startFold 15 = .ok (.invokestatic 47, 3) := by decide +kernel
theorem dX2_startFold_18 : decode cX2_startFold 18 = .ok (.aload_n 0, 1) := by decide +kernel
theorem dX2_startFold_19 : decode cX2_startFold 19 = .ok (.getfield 25, 3) := by decide +kernel
theorem dX2_startFold_22 : decode cX2_startFold 22 = .ok (.iload_n 1, 1) := by decide +kernel
theorem dX2_startFold_23 : decode cX2_startFold 23 = .ok (.invokevirtual 51, 3) := by decide +kernel
theorem dX2_startFold_26 : decode cX2_startFold 26 = .ok (.lastore, 1) := by decide +kernel
theorem dX2_startFold_27 : decode cX2_startFold 27 = .ok (.iinc 2 1, 3) := by decide +kernel
theorem dX2_startFold_30 : decode cX2_startFold 30 = .ok (.goto (-28), 3) := by decide +kernel
theorem dX2_startFold_33 : decode cX2_startFold 33 = .ok (.return_, 1) := by decide +kernel
theorem dX2_slot_0 : decode cX2_slot 0 = .ok (.iload_n 0, 1) := by decide +kernel
theorem dX2_slot_1 : decode cX2_slot 1 = .ok (.bipush 8, 2) := by decide +kernel
theorem dX2_slot_3 : decode cX2_slot 3 = .ok (.imul, 1) := by decide +kernel
theorem dX2_slot_4 : decode cX2_slot 4 = .ok (.iload_n 1, 1) := by decide +kernel
theorem dX2_slot_5 : decode cX2_slot 5 = .ok (.iadd, 1) := by decide +kernel
theorem dX2_slot_6 : decode cX2_slot 6 = .ok (.ireturn, 1) := by decide +kernel
theorem dX2_cell_0 : decode cX2_cell 0 = .ok (.iload_n 0, 1) := by decide +kernel
theorem dX2_cell_1 : decode cX2_cell 1 = .ok (.bipush 8, 2) := by decide +kernel
theorem dX2_cell_3 : decode cX2_cell 3 = .ok (.imul, 1) := by decide +kernel
theorem dX2_cell_4 : decode cX2_cell 4 = .ok (.iload_n 1, 1) := by decide +kernel
theorem dX2_cell_5 : decode cX2_cell 5 = .ok (.iadd, 1) := by decide +kernel
theorem dX2_cell_6 : decode cX2_cell 6 = .ok (.bipush 6, 2) := by decide +kernel
theorem dX2_cell_8 : decode cX2_cell 8 = .ok (.imul, 1) := by decide +kernel
theorem dX2_cell_9 : decode cX2_cell 9 = .ok (.iload_n 2, 1) := by decide +kernel
theorem dX2_cell_10 : decode cX2_cell 10 = .ok (.iadd, 1) := by decide +kernel
theorem dX2_cell_11 : decode cX2_cell 11 = .ok (.ireturn, 1) := by decide +kernel
theorem dX2_partCount_0 : decode cX2_partCount 0 = .ok (.aload_n 0, 1) := by decide +kernel
theorem dX2_partCount_1 : decode cX2_partCount 1 = .ok (.getfield 9, 3) := by decide +kernel
theorem dX2_partCount_4 : decode cX2_partCount 4 = .ok (.iload_n 1, 1) := by decide +kernel
theorem dX2_partCount_5 : decode cX2_partCount 5 = .ok (.iaload, 1) := by decide +kernel
theorem dX2_partCount_6 : decode cX2_partCount 6 = .ok (.ireturn, 1) := by decide +kernel
theorem dX2_hasPart_0 : decode cX2_hasPart 0 = .ok (.iload_n 2, 1) := by decide +kernel
theorem dX2_hasPart_1 : decode cX2_hasPart 1 = .ok (.iconst 0, 1) := by decide +kernel
theorem dX2_hasPart_2 : decode cX2_hasPart 2 = .ok (.aload_n 0, 1) := by decide +kernel
theorem dX2_hasPart_3 : decode cX2_hasPart 3 = .ok (.getfield 9, 3) := by decide +kernel
theorem dX2_hasPart_6 : decode cX2_hasPart 6 = .ok (.iload_n 1, 1) := by decide +kernel
theorem dX2_hasPart_7 : decode cX2_hasPart 7 = .ok (.iaload, 1) := by decide +kernel
theorem dX2_hasPart_8 : decode cX2_hasPart 8 = .ok (.iconst 1, 1) := by decide +kernel
theorem dX2_hasPart_9 : decode cX2_hasPart 9 = .ok (.isub, 1) := by decide +kernel
theorem dX2_hasPart_10 : decode cX2_hasPart 10 = .ok (.invokestatic 57, 3) := by decide +kernel
theorem dX2_hasPart_13 : decode cX2_hasPart 13 = .ok (.ireturn, 1) := by decide +kernel
theorem dX2_isSplit_0 : decode cX2_isSplit 0 = .ok (.aload_n 0, 1) := by decide +kernel
theorem dX2_isSplit_1 : decode cX2_isSplit 1 = .ok (.getfield 9, 3) := by decide +kernel
theorem dX2_isSplit_4 : decode cX2_isSplit 4 = .ok (.iload_n 1, 1) := by decide +kernel
theorem dX2_isSplit_5 : decode cX2_isSplit 5 = .ok (.iaload, 1) := by decide +kernel
theorem dX2_isSplit_6 : decode cX2_isSplit 6 = .ok (.iconst 1, 1) := by decide +kernel
theorem dX2_isSplit_7 : decode cX2_isSplit 7 = .ok (.if_icmp .le 7, 3) := by decide +kernel
theorem dX2_isSplit_10 : decode cX2_isSplit 10 = .ok (.iconst 1, 1) := by decide +kernel
theorem dX2_isSplit_11 : decode cX2_isSplit 11 = .ok (.goto 4, 3) := by decide +kernel
theorem dX2_isSplit_14 : decode cX2_isSplit 14 = .ok (.iconst 0, 1) := by decide +kernel
theorem dX2_isSplit_15 : decode cX2_isSplit 15 = .ok (.ireturn, 1) := by decide +kernel
theorem dX2_splitKeys_0 : decode cX2_splitKeys 0 = .ok (.iconst 0, 1) := by decide +kernel
theorem dX2_splitKeys_1 : decode cX2_splitKeys 1 = .ok (.istore_n 1, 1) := by decide +kernel
theorem dX2_splitKeys_2 : decode cX2_splitKeys 2 = .ok (.iconst 0, 1) := by decide +kernel
theorem dX2_splitKeys_3 : decode cX2_splitKeys 3 = .ok (.istore_n 2, 1) := by decide +kernel
theorem dX2_splitKeys_4 : decode cX2_splitKeys 4 = .ok (.iload_n 2, 1) := by decide +kernel
theorem dX2_splitKeys_5 : decode cX2_splitKeys 5 = .ok (.bipush 100, 2) := by decide +kernel
theorem dX2_splitKeys_7 : decode cX2_splitKeys 7 = .ok (.if_icmp .ge 20, 3) := by decide +kernel
theorem dX2_splitKeys_10 : decode cX2_splitKeys 10 = .ok (.aload_n 0, 1) := by decide +kernel
theorem dX2_splitKeys_11 : decode cX2_splitKeys 11 = .ok (.iload_n 2, 1) := by decide +kernel
theorem dX2_splitKeys_12 : decode cX2_splitKeys 12 = .ok (.invokevirtual 61, 3) := by decide +kernel
theorem dX2_splitKeys_15 : decode cX2_splitKeys 15 = .ok (.ifCond .eq 6, 3) := by decide +kernel
theorem dX2_splitKeys_18 : decode cX2_splitKeys 18 = .ok (.iinc 1 1, 3) := by decide +kernel
theorem dX2_splitKeys_21 : decode cX2_splitKeys 21 = .ok (.iinc 2 1, 3) := by decide +kernel
theorem dX2_splitKeys_24 : decode cX2_splitKeys 24 = .ok (.goto (-20), 3) := by decide +kernel
theorem dX2_splitKeys_27 : decode cX2_splitKeys 27 = .ok (.iload_n 1, 1) := by decide +kernel
theorem dX2_splitKeys_28 : decode cX2_splitKeys 28 = .ok (.ireturn, 1) := by decide +kernel
theorem dX2_partState_0 : decode cX2_partState 0 = .ok (.aload_n 0, 1) := by decide +kernel
theorem dX2_partState_1 : decode cX2_partState 1 = .ok (.getfield 15, 3) := by decide +kernel
theorem dX2_partState_4 : decode cX2_partState 4 = .ok (.iload_n 1, 1) := by decide +kernel
theorem dX2_partState_5 : decode cX2_partState 5 = .ok (.iload_n 2, 1) := by decide +kernel
theorem dX2_partState_6 : decode cX2_partState 6 = .ok (.iload_n 3, 1) := by decide +kernel
theorem dX2_partState_7 : decode cX2_partState 7 = .ok (.invokestatic 47, 3) := by decide +kernel
theorem dX2_partState_10 : decode cX2_partState 10 = .ok (.laload, 1) := by decide +kernel
theorem dX2_partState_11 : decode cX2_partState 11 = .ok (.lreturn, 1) := by decide +kernel
theorem dX2_take_0 : decode cX2_take 0 = .ok (.iconst 0, 1) := by decide +kernel
theorem dX2_take_1 : decode cX2_take 1 = .ok (.istore 5, 2) := by decide +kernel
theorem dX2_take_3 : decode cX2_take 3 = .ok (.iload 5, 2) := by decide +kernel
theorem dX2_take_5 : decode cX2_take 5 = .ok (.aload_n 0, 1) := by decide +kernel
theorem dX2_take_6 : decode cX2_take 6 = .ok (.getfield 25, 3) := by decide +kernel
theorem dX2_take_9 : decode cX2_take 9 = .ok (.getfield 65, 3) := by decide +kernel
theorem dX2_take_12 : decode cX2_take 12 = .ok (.if_icmp .ge 49, 3) := by decide +kernel
theorem dX2_take_15 : decode cX2_take 15 = .ok (.iload_n 1, 1) := by decide +kernel
theorem dX2_take_16 : decode cX2_take 16 = .ok (.iload_n 2, 1) := by decide +kernel
theorem dX2_take_17 : decode cX2_take 17 = .ok (.iload 5, 2) := by decide +kernel
theorem dX2_take_19 : decode cX2_take 19 = .ok (.invokestatic 47, 3) := by decide +kernel
theorem dX2_take_22 : decode cX2_take 22 = .ok (.istore 6, 2) := by decide +kernel
theorem dX2_take_24 : decode cX2_take 24 = .ok (.aload_n 0, 1) := by decide +kernel
theorem dX2_take_25 : decode cX2_take 25 = .ok (.getfield 15, 3) := by decide +kernel
theorem dX2_take_28 : decode cX2_take 28 = .ok (.iload 6, 2) := by decide +kernel
theorem dX2_take_30 : decode cX2_take 30 = .ok (.aload_n 0, 1) := by decide +kernel
theorem dX2_take_31 : decode cX2_take 31 = .ok (.getfield 25, 3) := by decide +kernel
theorem dX2_take_34 : decode cX2_take 34 = .ok (.iload 5, 2) := by decide +kernel
theorem dX2_take_36 : decode cX2_take 36 = .ok (.aload_n 0, 1) := by decide +kernel
theorem dX2_take_37 : decode cX2_take 37 = .ok (.getfield 15, 3) := by decide +kernel
theorem dX2_take_40 : decode cX2_take 40 = .ok (.iload 6, 2) := by decide +kernel
theorem dX2_take_42 : decode cX2_take 42 = .ok (.laload, 1) := by decide +kernel
theorem dX2_take_43 : decode cX2_take 43 = .ok (.iload 4, 2) := by decide +kernel
theorem dX2_take_45 : decode cX2_take 45 = .ok (.aload_n 0, 1) := by decide +kernel
theorem dX2_take_46 : decode cX2_take 46 = .ok (.getfield 22, 3) := by decide +kernel
theorem dX2_take_49 : decode cX2_take 49 = .ok (.iload_n 1, 1) := by decide +kernel
theorem dX2_take_50 : decode cX2_take 50 = .ok (.laload, 1) := by decide +kernel
theorem dX2_take_51 : decode cX2_take 51 = .ok (.invokevirtual 68, 3) := by decide +kernel
theorem dX2_take_54 : decode cX2_take 54 = .ok (.lastore, 1) := by decide +kernel
theorem dX2_take_55 : decode cX2_take 55 = .ok (.iinc 5 1, 3) := by decide +kernel
theorem dX2_take_58 : decode cX2_take 58 = .ok (.goto (-55), 3) := by decide +kernel
theorem dX2_take_61 : decode cX2_take 61 = .ok (.aload_n 0, 1) := by decide +kernel
theorem dX2_take_62 : decode cX2_take 62 = .ok (.getfield 19, 3) := by decide +kernel
theorem dX2_take_65 : decode cX2_take 65 = .ok (.iload_n 1, 1) := by decide +kernel
theorem dX2_take_66 : decode cX2_take 66 = .ok (.iload_n 2, 1) := by decide +kernel
theorem dX2_take_67 : decode cX2_take 67 = .ok (.invokestatic 72, 3) := by decide +kernel
theorem dX2_take_70 : decode cX2_take 70 = .ok (.iload_n 3, 1) := by decide +kernel
theorem dX2_take_71 : decode cX2_take 71 = .ok (.iastore, 1) := by decide +kernel
theorem dX2_take_72 : decode cX2_take 72 = .ok (.aload_n 0, 1) := by decide +kernel
theorem dX2_take_73 : decode cX2_take 73 = .ok (.getfield 22, 3) := by decide +kernel
theorem dX2_take_76 : decode cX2_take 76 = .ok (.iload_n 1, 1) := by decide +kernel
theorem dX2_take_77 : decode cX2_take 77 = .ok (.iload 4, 2) := by decide +kernel
theorem dX2_take_79 : decode cX2_take 79 = .ok (.i2l, 1) := by decide +kernel
theorem dX2_take_80 : decode cX2_take 80 = .ok (.lastore, 1) := by decide +kernel
theorem dX2_take_81 : decode cX2_take 81 = .ok (.return_, 1) := by decide +kernel
theorem dX2_joinedState_0 : decode cX2_joinedState 0 = .ok (.aload_n 0, 1) := by decide +kernel
theorem dX2_joinedState_1 : decode cX2_joinedState 1 = .ok (.getfield 15, 3) := by decide +kernel
theorem dX2_joinedState_4 : decode cX2_joinedState 4 = .ok (.iload_n 1, 1) := by decide +kernel
theorem dX2_joinedState_5 : decode cX2_joinedState 5 = .ok (.iconst 0, 1) := by decide +kernel
theorem dX2_joinedState_6 : decode cX2_joinedState 6 = .ok (.iload_n 2, 1) := by decide +kernel
theorem dX2_joinedState_7 : decode cX2_joinedState 7 = .ok (.invokestatic 47, 3) := by decide +kernel
theorem dX2_joinedState_10 : decode cX2_joinedState 10 = .ok (.laload, 1) := by decide +kernel
theorem dX2_joinedState_11 : decode cX2_joinedState 11 = .ok (.lstore_n 3, 1) := by decide +kernel
theorem dX2_joinedState_12 : decode cX2_joinedState 12 = .ok (.aload_n 0, 1) := by decide +kernel
theorem dX2_joinedState_13 : decode cX2_joinedState 13 = .ok (.getfield 19, 3) := by decide +kernel
theorem dX2_joinedState_16 : decode cX2_joinedState 16 = .ok (.iload_n 1, 1) := by decide +kernel
theorem dX2_joinedState_17 : decode cX2_joinedState 17 = .ok (.iconst 0, 1) := by decide +kernel
theorem dX2_joinedState_18 : decode cX2_joinedState 18 = .ok (.invokestatic 72, 3) := by decide +kernel
theorem dX2_joinedState_21 : decode cX2_joinedState 21 = .ok (.iaload, 1) := by decide +kernel
theorem dX2_joinedState_22 : decode cX2_joinedState 22 = .ok (.istore 5, 2) := by decide +kernel
theorem dX2_joinedState_24 : decode cX2_joinedState 24 = .ok (.iconst 1, 1) := by decide +kernel
theorem dX2_joinedState_25 : decode cX2_joinedState 25 = .ok (.istore 6, 2) := by decide +kernel
theorem dX2_joinedState_27 : decode cX2_joinedState 27 = .ok (.iload 6, 2) := by decide +kernel
theorem dX2_joinedState_29 : decode cX2_joinedState 29 = .ok (.aload_n 0, 1) := by decide +kernel
theorem dX2_joinedState_30 : decode cX2_joinedState 30 = .ok (.getfield 9, 3) := by decide +kernel
theorem dX2_joinedState_33 : decode cX2_joinedState 33 = .ok (.iload_n 1, 1) := by decide +kernel
theorem dX2_joinedState_34 : decode cX2_joinedState 34 = .ok (.iaload, 1) := by decide +kernel
theorem dX2_joinedState_35 : decode cX2_joinedState 35 = .ok (.if_icmp .ge 65, 3) := by decide +kernel
theorem dX2_joinedState_38 : decode cX2_joinedState 38 = .ok (.aload_n 0, 1) := by decide +kernel
theorem dX2_joinedState_39 : decode cX2_joinedState 39 = .ok (.getfield 19, 3) := by decide +kernel
theorem dX2_joinedState_42 : decode cX2_joinedState 42 = .ok (.iload_n 1, 1) := by decide +kernel
theorem dX2_joinedState_43 : decode cX2_joinedState 43 = .ok (.iload 6, 2) := by decide +kernel
theorem dX2_joinedState_45 : decode cX2_joinedState 45 = .ok (.invokestatic 72, 3) := by decide +kernel
theorem dX2_joinedState_48 : decode cX2_joinedState 48 = .ok (.iaload, 1) := by decide +kernel
theorem dX2_joinedState_49 : decode cX2_joinedState 49 = .ok (.istore 7, 2) := by decide +kernel
theorem dX2_joinedState_51 : decode cX2_joinedState 51 = .ok (.aload_n 0, 1) := by decide +kernel
theorem dX2_joinedState_52 : decode cX2_joinedState 52 = .ok (.getfield 25, 3) := by decide +kernel
theorem dX2_joinedState_55 : decode cX2_joinedState 55 = .ok (.iload_n 2, 1) := by decide +kernel
theorem dX2_joinedState_56 : decode cX2_joinedState 56 = .ok (.lload_n 3, 1) := by decide +kernel
theorem dX2_joinedState_57 : decode cX2_joinedState 57 = .ok (.aload_n 0, 1) := by decide +kernel
theorem dX2_joinedState_58 : decode cX2_joinedState 58 = .ok (.getfield 15, 3) := by decide +kernel
theorem dX2_joinedState_61 : decode cX2_joinedState 61 = .ok (.iload_n 1, 1) := by decide +kernel
theorem dX2_joinedState_62 : decode cX2_joinedState 62 = .ok (.iload 6, 2) := by decide +kernel
theorem dX2_joinedState_64 : decode cX2_joinedState 64 = .ok (.iload_n 2, 1) := by decide +kernel
theorem dX2_joinedState_65 : decode cX2_joinedState 65 = .ok (.invokestatic 47, 3) := by decide +kernel
theorem dX2_joinedState_68 : decode cX2_joinedState 68 = .ok (.laload, 1) := by decide +kernel
theorem dX2_joinedState_69 : decode cX2_joinedState 69 = .ok (.iload 7, 2) := by decide +kernel
theorem dX2_joinedState_71 : decode cX2_joinedState 71 = .ok (.iload 5, 2) := by decide +kernel
theorem dX2_joinedState_73 : decode cX2_joinedState 73 = .ok (.if_icmp .le 7, 3) := by decide +kernel
theorem dX2_joinedState_76 : decode cX2_joinedState 76 = .ok (.iconst 1, 1) := by decide +kernel
theorem dX2_joinedState_77 : decode cX2_joinedState 77 = .ok (.goto 4, 3) := by decide +kernel
theorem dX2_joinedState_80 : decode cX2_joinedState 80 = .ok (.iconst 0, 1) := by decide +kernel
theorem dX2_joinedState_81 : decode cX2_joinedState 81 = .ok (.invokevirtual 76, 3) := by decide +kernel
theorem dX2_joinedState_84 : decode cX2_joinedState 84 = .ok (.lstore_n 3, 1) := by decide +kernel
theorem dX2_joinedState_85 : decode cX2_joinedState 85 = .ok (.iload 5, 2) := by decide +kernel
theorem dX2_joinedState_87 : decode cX2_joinedState 87 = .ok (.iload 7, 2) := by decide +kernel
theorem dX2_joinedState_89 : decode cX2_joinedState 89 = .ok (.invokestatic 80, 3) := by decide +kernel
theorem dX2_joinedState_92 : decode cX2_joinedState 92 = .ok (.istore 5, 2) := by decide +kernel
theorem dX2_joinedState_94 : decode cX2_joinedState 94 = .ok (.iinc 6 1, 3) := by decide +kernel
theorem dX2_joinedState_97 : decode cX2_joinedState 97 = .ok (.goto (-70), 3) := by decide +kernel
theorem dX2_joinedState_100 : decode cX2_joinedState 100 = .ok (.lload_n 3, 1) := by decide +kernel
theorem dX2_joinedState_101 : decode cX2_joinedState 101 = .ok (.lreturn, 1) := by decide +kernel
theorem dX2_joinedLatestRow_0 : decode cX2_joinedLatestRow 0 = .ok (.iconst (-1), 1) := by decide +kernel
theorem dX2_joinedLatestRow_1 : decode cX2_joinedLatestRow 1 = .ok (.istore_n 2, 1) := by decide +kernel
theorem dX2_joinedLatestRow_2 : decode cX2_joinedLatestRow 2 = .ok (.iconst 0, 1) := by decide +kernel
theorem dX2_joinedLatestRow_3 : decode cX2_joinedLatestRow 3 = .ok (.istore_n 3, 1) := by decide +kernel
theorem dX2_joinedLatestRow_4 : decode cX2_joinedLatestRow 4 = .ok (.iload_n 3, 1) := by decide +kernel
theorem dX2_joinedLatestRow_5 : decode cX2_joinedLatestRow 5 = .ok (.aload_n 0, 1) := by decide +kernel
theorem dX2_joinedLatestRow_6 : decode cX2_joinedLatestRow 6 = .ok (.getfield 9, 3) := by decide +kernel
theorem dX2_joinedLatestRow_9 : decode cX2_joinedLatestRow 9 = .ok (.iload_n 1, 1) := by decide +kernel
theorem dX2_joinedLatestRow_10 : decode cX2_joinedLatestRow 10 = .ok (.iaload, 1) := by decide +kernel
theorem dX2_joinedLatestRow_11 : decode cX2_joinedLatestRow 11 = .ok (.if_icmp .ge 24, 3) := by decide +kernel
theorem dX2_joinedLatestRow_14 : decode cX2_joinedLatestRow 14 = .ok (.iload_n 2, 1) := by decide +kernel
theorem dX2_joinedLatestRow_15 : decode cX2_joinedLatestRow 15 = .ok (.aload_n 0, 1) := by decide +kernel
theorem dX2_joinedLatestRow_16 : decode cX2_joinedLatestRow 16 = .ok (.getfield 19, 3) := by decide +kernel
theorem dX2_joinedLatestRow_19 : decode cX2_joinedLatestRow 19 = .ok (.iload_n 1, 1) := by decide +kernel
theorem dX2_joinedLatestRow_20 : decode cX2_joinedLatestRow 20 = .ok (.iload_n 3, 1) := by decide +kernel
theorem dX2_joinedLatestRow_21 : decode cX2_joinedLatestRow 21 = .ok (.invokestatic 72, 3) := by decide +kernel
theorem dX2_joinedLatestRow_24 : decode cX2_joinedLatestRow 24 = .ok (.iaload, 1) := by decide +kernel
theorem dX2_joinedLatestRow_25 : decode cX2_joinedLatestRow 25 = .ok (.invokestatic 80, 3) := by decide +kernel
theorem dX2_joinedLatestRow_28 : decode cX2_joinedLatestRow 28 = .ok (.istore_n 2, 1) := by decide +kernel
theorem dX2_joinedLatestRow_29 : decode cX2_joinedLatestRow 29 = .ok (.iinc 3 1, 3) := by decide +kernel
theorem dX2_joinedLatestRow_32 : decode cX2_joinedLatestRow 32 = .ok (.goto (-28), 3) := by decide +kernel
theorem dX2_joinedLatestRow_35 : decode cX2_joinedLatestRow 35 = .ok (.iload_n 2, 1) := by decide +kernel
theorem dX2_joinedLatestRow_36 : decode cX2_joinedLatestRow 36 = .ok (.ireturn, 1) := by decide +kernel
theorem dX2_emptyPart_0 : decode cX2_emptyPart 0 = .ok (.iconst 0, 1) := by decide +kernel
theorem dX2_emptyPart_1 : decode cX2_emptyPart 1 = .ok (.istore_n 3, 1) := by decide +kernel
theorem dX2_emptyPart_2 : decode cX2_emptyPart 2 = .ok (.iload_n 3, 1) := by decide +kernel
theorem dX2_emptyPart_3 : decode cX2_emptyPart 3 = .ok (.aload_n 0, 1) := by decide +kernel
theorem dX2_emptyPart_4 : decode cX2_emptyPart 4 = .ok (.getfield 25, 3) := by decide +kernel
theorem dX2_emptyPart_7 : decode cX2_emptyPart 7 = .ok (.getfield 65, 3) := by decide +kernel
theorem dX2_emptyPart_10 : decode cX2_emptyPart 10 = .ok (.if_icmp .ge 28, 3) := by decide +kernel
theorem dX2_emptyPart_13 : decode cX2_emptyPart 13 = .ok (.aload_n 0, 1) := by decide +kernel
theorem dX2_emptyPart_14 : decode cX2_emptyPart 14 = .ok (.getfield 15, 3) := by decide +kernel
theorem dX2_emptyPart_17 : decode cX2_emptyPart 17 = .ok (.iload_n 1, 1) := by decide +kernel
theorem dX2_emptyPart_18 : decode cX2_emptyPart 18 = .ok (.iload_n 2, 1) := by decide +kernel
theorem dX2_emptyPart_19 : decode cX2_emptyPart 19 = .ok (.iload_n 3, 1) := by decide +kernel
theorem dX2_emptyPart_20 : decode cX2_emptyPart 20 = .ok (.invokestatic 47, 3) := by decide +kernel
theorem dX2_emptyPart_23 : decode cX2_emptyPart 23 = .ok (.aload_n 0, 1) := by decide +kernel
theorem dX2_emptyPart_24 : decode cX2_emptyPart 24 = .ok (.getfield 25, 3) := by decide +kernel
theorem dX2_emptyPart_27 : decode cX2_emptyPart 27 = .ok (.iload_n 3, 1) := by decide +kernel
theorem dX2_emptyPart_28 : decode cX2_emptyPart 28 = .ok (.invokevirtual 51, 3) := by decide +kernel
theorem dX2_emptyPart_31 : decode cX2_emptyPart 31 = .ok (.lastore, 1) := by decide +kernel
theorem dX2_emptyPart_32 : decode cX2_emptyPart 32 = .ok (.iinc 3 1, 3) := by decide +kernel
theorem dX2_emptyPart_35 : decode cX2_emptyPart 35 = .ok (.goto (-33), 3) := by decide +kernel
theorem dX2_emptyPart_38 : decode cX2_emptyPart 38 = .ok (.aload_n 0, 1) := by decide +kernel
theorem dX2_emptyPart_39 : decode cX2_emptyPart 39 = .ok (.getfield 19, 3) := by decide +kernel
theorem dX2_emptyPart_42 : decode cX2_emptyPart 42 = .ok (.iload_n 1, 1) := by decide +kernel
theorem dX2_emptyPart_43 : decode cX2_emptyPart 43 = .ok (.iload_n 2, 1) := by decide +kernel
theorem dX2_emptyPart_44 : decode cX2_emptyPart 44 = .ok (.invokestatic 72, 3) := by decide +kernel
theorem dX2_emptyPart_47 : decode cX2_emptyPart 47 = .ok (.iconst (-1), 1) := by decide +kernel
theorem dX2_emptyPart_48 : decode cX2_emptyPart 48 = .ok (.iastore, 1) := by decide +kernel
theorem dX2_emptyPart_49 : decode cX2_emptyPart 49 = .ok (.return_, 1) := by decide +kernel
theorem dX2_emptyKey_0 : decode cX2_emptyKey 0 = .ok (.iconst 0, 1) := by decide +kernel
theorem dX2_emptyKey_1 : decode cX2_emptyKey 1 = .ok (.istore_n 2, 1) := by decide +kernel
theorem dX2_emptyKey_2 : decode cX2_emptyKey 2 = .ok (.iload_n 2, 1) := by decide +kernel
theorem dX2_emptyKey_3 : decode cX2_emptyKey 3 = .ok (.aload_n 0, 1) := by decide +kernel
theorem dX2_emptyKey_4 : decode cX2_emptyKey 4 = .ok (.getfield 9, 3) := by decide +kernel
theorem dX2_emptyKey_7 : decode cX2_emptyKey 7 = .ok (.iload_n 1, 1) := by decide +kernel
theorem dX2_emptyKey_8 : decode cX2_emptyKey 8 = .ok (.iaload, 1) := by decide +kernel
theorem dX2_emptyKey_9 : decode cX2_emptyKey 9 = .ok (.if_icmp .ge 15, 3) := by decide +kernel
theorem dX2_emptyKey_12 : decode cX2_emptyKey 12 = .ok (.aload_n 0, 1) := by decide +kernel
theorem dX2_emptyKey_13 : decode cX2_emptyKey 13 = .ok (.iload_n 1, 1) := by decide +kernel
theorem dX2_emptyKey_14 : decode cX2_emptyKey 14 = .ok (.iload_n 2, 1) := by decide +kernel
theorem dX2_emptyKey_15 : decode cX2_emptyKey 15 = .ok (.invokevirtual 85, 3) := by decide +kernel
theorem dX2_emptyKey_18 : decode cX2_emptyKey 18 = .ok (.iinc 2 1, 3) := by decide +kernel
theorem dX2_emptyKey_21 : decode cX2_emptyKey 21 = .ok (.goto (-19), 3) := by decide +kernel
theorem dX2_emptyKey_24 : decode cX2_emptyKey 24 = .ok (.aload_n 0, 1) := by decide +kernel
theorem dX2_emptyKey_25 : decode cX2_emptyKey 25 = .ok (.getfield 22, 3) := by decide +kernel
theorem dX2_emptyKey_28 : decode cX2_emptyKey 28 = .ok (.iload_n 1, 1) := by decide +kernel
theorem dX2_emptyKey_29 : decode cX2_emptyKey 29 = .ok (.ldc2_w 38, 3) := by decide +kernel
theorem dX2_emptyKey_32 : decode cX2_emptyKey 32 = .ok (.lastore, 1) := by decide +kernel
theorem dX2_emptyKey_33 : decode cX2_emptyKey 33 = .ok (.return_, 1) := by decide +kernel
theorem dX2_breakUp_0 : decode cX2_breakUp 0 = .ok (.iconst 1, 1) := by decide +kernel
theorem dX2_breakUp_1 : decode cX2_breakUp 1 = .ok (.istore_n 3, 1) := by decide +kernel
theorem dX2_breakUp_2 : decode cX2_breakUp 2 = .ok (.iload_n 3, 1) := by decide +kernel
theorem dX2_breakUp_3 : decode cX2_breakUp 3 = .ok (.iload_n 2, 1) := by decide +kernel
theorem dX2_breakUp_4 : decode cX2_breakUp 4 = .ok (.if_icmp .ge 15, 3) := by decide +kernel
theorem dX2_breakUp_7 : decode cX2_breakUp 7 = .ok (.aload_n 0, 1) := by decide +kernel
theorem dX2_breakUp_8 : decode cX2_breakUp 8 = .ok (.iload_n 1, 1) := by decide +kernel
theorem dX2_breakUp_9 : decode cX2_breakUp 9 = .ok (.iload_n 3, 1) := by decide +kernel
theorem dX2_breakUp_10 : decode cX2_breakUp 10 = .ok (.invokevirtual 85, 3) := by decide +kernel
theorem dX2_breakUp_13 : decode cX2_breakUp 13 = .ok (.iinc 3 1, 3) := by decide +kernel
theorem dX2_breakUp_16 : decode cX2_breakUp 16 = .ok (.goto (-14), 3) := by decide +kernel
theorem dX2_breakUp_19 : decode cX2_breakUp 19 = .ok (.aload_n 0, 1) := by decide +kernel
theorem dX2_breakUp_20 : decode cX2_breakUp 20 = .ok (.getfield 9, 3) := by decide +kernel
theorem dX2_breakUp_23 : decode cX2_breakUp 23 = .ok (.iload_n 1, 1) := by decide +kernel
theorem dX2_breakUp_24 : decode cX2_breakUp 24 = .ok (.iload_n 2, 1) := by decide +kernel
theorem dX2_breakUp_25 : decode cX2_breakUp 25 = .ok (.iastore, 1) := by decide +kernel
theorem dX2_breakUp_26 : decode cX2_breakUp 26 = .ok (.return_, 1) := by decide +kernel
theorem dX2_bringBack_0 : decode cX2_bringBack 0 = .ok (.iconst 0, 1) := by decide +kernel
theorem dX2_bringBack_1 : decode cX2_bringBack 1 = .ok (.istore_n 2, 1) := by decide +kernel
theorem dX2_bringBack_2 : decode cX2_bringBack 2 = .ok (.iconst 1, 1) := by decide +kernel
theorem dX2_bringBack_3 : decode cX2_bringBack 3 = .ok (.istore_n 3, 1) := by decide +kernel
theorem dX2_bringBack_4 : decode cX2_bringBack 4 = .ok (.iload_n 3, 1) := by decide +kernel
theorem dX2_bringBack_5 : decode cX2_bringBack 5 = .ok (.aload_n 0, 1) := by decide +kernel
theorem dX2_bringBack_6 : decode cX2_bringBack 6 = .ok (.getfield 9, 3) := by decide +kernel
theorem dX2_bringBack_9 : decode cX2_bringBack 9 = .ok (.iload_n 1, 1) := by decide +kernel
theorem dX2_bringBack_10 : decode cX2_bringBack 10 = .ok (.iaload, 1) := by decide +kernel
theorem dX2_bringBack_11 : decode cX2_bringBack 11 = .ok (.if_icmp .ge 26, 3) := by decide +kernel
theorem dX2_bringBack_14 : decode cX2_bringBack 14 = .ok (.aload_n 0, 1) := by decide +kernel
theorem dX2_bringBack_15 : decode cX2_bringBack 15 = .ok (.getfield 19, 3) := by decide +kernel
theorem dX2_bringBack_18 : decode cX2_bringBack 18 = .ok (.iload_n 1, 1) := by decide +kernel
theorem dX2_bringBack_19 : decode cX2_bringBack 19 = .ok (.iload_n 3, 1) := by decide +kernel
theorem dX2_bringBack_20 : decode cX2_bringBack 20 = .ok (.invokestatic 72, 3) := by decide +kernel
theorem dX2_bringBack_23 : decode cX2_bringBack 23 = .ok (.iaload, 1) := by decide +kernel
theorem dX2_bringBack_24 : decode cX2_bringBack 24 = .ok (.iconst (-1), 1) := by decide +kernel
theorem dX2_bringBack_25 : decode cX2_bringBack 25 = .ok (.if_icmp .eq 6, 3) := by decide +kernel
theorem dX2_bringBack_28 : decode cX2_bringBack 28 = .ok (.iinc 2 1, 3) := by decide +kernel
theorem dX2_bringBack_31 : decode cX2_bringBack 31 = .ok (.iinc 3 1, 3) := by decide +kernel
theorem dX2_bringBack_34 : decode cX2_bringBack 34 = .ok (.goto (-30), 3) := by decide +kernel
theorem dX2_bringBack_37 : decode cX2_bringBack 37 = .ok (.iconst 0, 1) := by decide +kernel
theorem dX2_bringBack_38 : decode cX2_bringBack 38 = .ok (.istore_n 3, 1) := by decide +kernel
theorem dX2_bringBack_39 : decode cX2_bringBack 39 = .ok (.iload_n 3, 1) := by decide +kernel
theorem dX2_bringBack_40 : decode cX2_bringBack 40 = .ok (.aload_n 0, 1) := by decide +kernel
theorem dX2_bringBack_41 : decode cX2_bringBack 41 = .ok (.getfield 25, 3) := by decide +kernel
theorem dX2_bringBack_44 : decode cX2_bringBack 44 = .ok (.getfield 65, 3) := by decide +kernel
theorem dX2_bringBack_47 : decode cX2_bringBack 47 = .ok (.if_icmp .ge 26, 3) := by decide +kernel
theorem dX2_bringBack_50 : decode cX2_bringBack 50 = .ok (.aload_n 0, 1) := by decide +kernel
theorem dX2_bringBack_51 : decode cX2_bringBack 51 = .ok (.getfield 15, 3) := by decide +kernel
theorem dX2_bringBack_54 : decode cX2_bringBack 54 = .ok (.iload_n 1, 1) := by decide +kernel
theorem dX2_bringBack_55 : decode cX2_bringBack 55 = .ok (.iconst 0, 1) := by decide +kernel
theorem dX2_bringBack_56 : decode cX2_bringBack 56 = .ok (.iload_n 3, 1) := by decide +kernel
theorem dX2_bringBack_57 : decode cX2_bringBack 57 = .ok (.invokestatic 47, 3) := by decide +kernel
theorem dX2_bringBack_60 : decode cX2_bringBack 60 = .ok (.aload_n 0, 1) := by decide +kernel
theorem dX2_bringBack_61 : decode cX2_bringBack 61 = .ok (.iload_n 1, 1) := by decide +kernel
theorem dX2_bringBack_62 : decode cX2_bringBack 62 = .ok (.iload_n 3, 1) := by decide +kernel
theorem dX2_bringBack_63 : decode cX2_bringBack 63 = .ok (.invokevirtual 89, 3) := by decide +kernel
theorem dX2_bringBack_66 : decode cX2_bringBack 66 = .ok (.lastore, 1) := by decide +kernel
theorem dX2_bringBack_67 : decode cX2_bringBack 67 = .ok (.iinc 3 1, 3) := by decide +kernel
theorem dX2_bringBack_70 : decode cX2_bringBack 70 = .ok (.goto (-31), 3) := by decide +kernel
theorem dX2_bringBack_73 : decode cX2_bringBack 73 = .ok (.aload_n 0, 1) := by decide +kernel
theorem dX2_bringBack_74 : decode cX2_bringBack 74 = .ok (.getfield 19, 3) := by decide +kernel
theorem dX2_bringBack_77 : decode cX2_bringBack 77 = .ok (.iload_n 1, 1) := by decide +kernel
theorem dX2_bringBack_78 : decode cX2_bringBack 78 = .ok (.iconst 0, 1) := by decide +kernel
theorem dX2_bringBack_79 : decode cX2_bringBack 79 = .ok (.invokestatic 72, 3) := by decide +kernel
theorem dX2_bringBack_82 : decode cX2_bringBack 82 = .ok (.aload_n 0, 1) := by decide +kernel
theorem dX2_bringBack_83 : decode cX2_bringBack 83 = .ok (.iload_n 1, 1) := by decide +kernel
theorem dX2_bringBack_84 : decode cX2_bringBack 84 = .ok (.invokevirtual 93, 3) := by decide +kernel
theorem dX2_bringBack_87 : decode cX2_bringBack 87 = .ok (.iastore, 1) := by decide +kernel
theorem dX2_bringBack_88 : decode cX2_bringBack 88 = .ok (.aload_n 0, 1) := by decide +kernel
theorem dX2_bringBack_89 : decode cX2_bringBack 89 = .ok (.getfield 9, 3) := by decide +kernel
theorem dX2_bringBack_92 : decode cX2_bringBack 92 = .ok (.iload_n 1, 1) := by decide +kernel
theorem dX2_bringBack_93 : decode cX2_bringBack 93 = .ok (.iconst 1, 1) := by decide +kernel
theorem dX2_bringBack_94 : decode cX2_bringBack 94 = .ok (.iastore, 1) := by decide +kernel
theorem dX2_bringBack_95 : decode cX2_bringBack 95 = .ok (.aload_n 0, 1) := by decide +kernel
theorem dX2_bringBack_96 : decode cX2_bringBack 96 = .ok (.dup, 1) := by decide +kernel
theorem dX2_bringBack_97 : decode cX2_bringBack 97 = .ok (.getfield 43, 3) := by decide +kernel
theorem dX2_bringBack_100 : decode cX2_bringBack 100 = .ok (.iload_n 2, 1) := by decide +kernel
theorem dX2_bringBack_101 : decode cX2_bringBack 101 = .ok (.iadd, 1) := by decide +kernel
theorem dX2_bringBack_102 : decode cX2_bringBack 102 = .ok (.putfield 43, 3) := by decide +kernel
theorem dX2_bringBack_105 : decode cX2_bringBack 105 = .ok (.iload_n 2, 1) := by decide +kernel
theorem dX2_bringBack_106 : decode cX2_bringBack 106 = .ok (.ireturn, 1) := by decide +kernel
theorem dX2_holdIn_0 : decode cX2_holdIn 0 = .ok (.iconst 0, 1) := by decide +kernel
theorem dX2_holdIn_1 : decode cX2_holdIn 1 = .ok (.istore_n 2, 1) := by decide +kernel
theorem dX2_holdIn_2 : decode cX2_holdIn 2 = .ok (.iload_n 2, 1) := by decide +kernel
theorem dX2_holdIn_3 : decode cX2_holdIn 3 = .ok (.bipush 100, 2) := by decide +kernel
theorem dX2_holdIn_5 : decode cX2_holdIn 5 = .ok (.if_icmp .ge 68, 3) := by decide +kernel
theorem dX2_holdIn_8 : decode cX2_holdIn 8 = .ok (.iconst 0, 1) := by decide +kernel
theorem dX2_holdIn_9 : decode cX2_holdIn 9 = .ok (.istore_n 3, 1) := by decide +kernel
theorem dX2_holdIn_10 : decode cX2_holdIn 10 = .ok (.iload_n 3, 1) := by decide +kernel
theorem dX2_holdIn_11 : decode cX2_holdIn 11 = .ok (.aload_n 0, 1) := by decide +kernel
theorem dX2_holdIn_12 : decode cX2_holdIn 12 = .ok (.getfield 25, 3) := by decide +kernel
theorem dX2_holdIn_15 : decode cX2_holdIn 15 = .ok (.getfield 65, 3) := by decide +kernel
theorem dX2_holdIn_18 : decode cX2_holdIn 18 = .ok (.if_icmp .ge 26, 3) := by decide +kernel
theorem dX2_holdIn_21 : decode cX2_holdIn 21 = .ok (.aload_n 1, 1) := by decide +kernel
theorem dX2_holdIn_22 : decode cX2_holdIn 22 = .ok (.getfield 97, 3) := by decide +kernel
theorem dX2_holdIn_25 : decode cX2_holdIn 25 = .ok (.iload_n 2, 1) := by decide +kernel
theorem dX2_holdIn_26 : decode cX2_holdIn 26 = .ok (.bipush 6, 2) := by decide +kernel
theorem dX2_holdIn_28 : decode cX2_holdIn 28 = .ok (.imul, 1) := by decide +kernel
theorem dX2_holdIn_29 : decode cX2_holdIn 29 = .ok (.iload_n 3, 1) := by decide +kernel
theorem dX2_holdIn_30 : decode cX2_holdIn 30 = .ok (.iadd, 1) := by decide +kernel
theorem dX2_holdIn_31 : decode cX2_holdIn 31 = .ok (.aload_n 0, 1) := by decide +kernel
theorem dX2_holdIn_32 : decode cX2_holdIn 32 = .ok (.iload_n 2, 1) := by decide +kernel
theorem dX2_holdIn_33 : decode cX2_holdIn 33 = .ok (.iload_n 3, 1) := by decide +kernel
theorem dX2_holdIn_34 : decode cX2_holdIn 34 = .ok (.invokevirtual 89, 3) := by decide +kernel
theorem dX2_holdIn_37 : decode cX2_holdIn 37 = .ok (.lastore, 1) := by decide +kernel
theorem dX2_holdIn_38 : decode cX2_holdIn 38 = .ok (.iinc 3 1, 3) := by decide +kernel
theorem dX2_holdIn_41 : decode cX2_holdIn 41 = .ok (.goto (-31), 3) := by decide +kernel
theorem dX2_holdIn_44 : decode cX2_holdIn 44 = .ok (.aload_n 1, 1) := by decide +kernel
theorem dX2_holdIn_45 : decode cX2_holdIn 45 = .ok (.getfield 100, 3) := by decide +kernel
theorem dX2_holdIn_48 : decode cX2_holdIn 48 = .ok (.iload_n 2, 1) := by decide +kernel
theorem dX2_holdIn_49 : decode cX2_holdIn 49 = .ok (.aload_n 0, 1) := by decide +kernel
theorem dX2_holdIn_50 : decode cX2_holdIn 50 = .ok (.iload_n 2, 1) := by decide +kernel
theorem dX2_holdIn_51 : decode cX2_holdIn 51 = .ok (.invokevirtual 93, 3) := by decide +kernel
theorem dX2_holdIn_54 : decode cX2_holdIn 54 = .ok (.iastore, 1) := by decide +kernel
theorem dX2_holdIn_55 : decode cX2_holdIn 55 = .ok (.aload_n 1, 1) := by decide +kernel
theorem dX2_holdIn_56 : decode cX2_holdIn 56 = .ok (.getfield 101, 3) := by decide +kernel
theorem dX2_holdIn_59 : decode cX2_holdIn 59 = .ok (.iload_n 2, 1) := by decide +kernel
theorem dX2_holdIn_60 : decode cX2_holdIn 60 = .ok (.aload_n 0, 1) := by decide +kernel
theorem dX2_holdIn_61 : decode cX2_holdIn 61 = .ok (.getfield 22, 3) := by decide +kernel
theorem dX2_holdIn_64 : decode cX2_holdIn 64 = .ok (.iload_n 2, 1) := by decide +kernel
theorem dX2_holdIn_65 : decode cX2_holdIn 65 = .ok (.laload, 1) := by decide +kernel
theorem dX2_holdIn_66 : decode cX2_holdIn 66 = .ok (.lastore, 1) := by decide +kernel
theorem dX2_holdIn_67 : decode cX2_holdIn 67 = .ok (.iinc 2 1, 3) := by decide +kernel
theorem dX2_holdIn_70 : decode cX2_holdIn 70 = .ok (.goto (-68), 3) := by decide +kernel
theorem dX2_holdIn_73 : decode cX2_holdIn 73 = .ok (.return_, 1) := by decide +kernel
theorem dX2_takeFrom_0 : decode cX2_takeFrom 0 = .ok (.aload_n 0, 1) := by decide +kernel
theorem dX2_takeFrom_1 : decode cX2_takeFrom 1 = .ok (.invokevirtual 29, 3) := by decide +kernel
theorem dX2_takeFrom_4 : decode cX2_takeFrom 4 = .ok (.iconst 0, 1) := by decide +kernel
theorem dX2_takeFrom_5 : decode cX2_takeFrom 5 = .ok (.istore_n 2, 1) := by decide +kernel
theorem dX2_takeFrom_6 : decode cX2_takeFrom 6 = .ok (.iload_n 2, 1) := by decide +kernel
theorem dX2_takeFrom_7 : decode cX2_takeFrom 7 = .ok (.bipush 100, 2) := by decide +kernel
theorem dX2_takeFrom_9 : decode cX2_takeFrom 9 = .ok (.if_icmp .ge 78, 3) := by decide +kernel
theorem dX2_takeFrom_12 : decode cX2_takeFrom 12 = .ok (.iconst 0, 1) := by decide +kernel
theorem dX2_takeFrom_13 : decode cX2_takeFrom 13 = .ok (.istore_n 3, 1) := by decide +kernel
theorem dX2_takeFrom_14 : decode cX2_takeFrom 14 = .ok (.iload_n 3, 1) := by decide +kernel
theorem dX2_takeFrom_15 : decode cX2_takeFrom 15 = .ok (.aload_n 0, 1) := by decide +kernel
theorem dX2_takeFrom_16 : decode cX2_takeFrom 16 = .ok (.getfield 25, 3) := by decide +kernel
theorem dX2_takeFrom_19 : decode cX2_takeFrom 19 = .ok (.getfield 65, 3) := by decide +kernel
theorem dX2_takeFrom_22 : decode cX2_takeFrom 22 = .ok (.if_icmp .ge 31, 3) := by decide +kernel
theorem dX2_takeFrom_25 : decode cX2_takeFrom 25 = .ok (.aload_n 0, 1) := by decide +kernel
theorem dX2_takeFrom_26 : decode cX2_takeFrom 26 = .ok (.getfield 15, 3) := by decide +kernel
theorem dX2_takeFrom_29 : decode cX2_takeFrom 29 = .ok (.iload_n 2, 1) := by decide +kernel
theorem dX2_takeFrom_30 : decode cX2_takeFrom 30 = .ok (.iconst 0, 1) := by decide +kernel
theorem dX2_takeFrom_31 : decode cX2_takeFrom 31 = .ok (.iload_n 3, 1) := by decide +kernel
theorem dX2_takeFrom_32 : decode cX2_takeFrom 32 = .ok (.invokestatic 47, 3) := by decide +kernel
theorem dX2_takeFrom_35 : decode cX2_takeFrom 35 = .ok (.aload_n 1, 1) := by decide +kernel
theorem dX2_takeFrom_36 : decode cX2_takeFrom 36 = .ok (.getfield 97, 3) := by decide +kernel
theorem dX2_takeFrom_39 : decode cX2_takeFrom 39 = .ok (.iload_n 2, 1) := by decide +kernel
theorem dX2_takeFrom_40 : decode cX2_takeFrom 40 = .ok (.bipush 6, 2) := by decide +kernel
theorem dX2_takeFrom_42 : decode cX2_takeFrom 42 = .ok (.imul, 1) := by decide +kernel
theorem dX2_takeFrom_43 : decode cX2_takeFrom 43 = .ok (.iload_n 3, 1) := by decide +kernel
theorem dX2_takeFrom_44 : decode cX2_takeFrom 44 = .ok (.iadd, 1) := by decide +kernel
theorem dX2_takeFrom_45 : decode cX2_takeFrom 45 = .ok (.laload, 1) := by decide +kernel
theorem dX2_takeFrom_46 : decode cX2_takeFrom 46 = .ok (.lastore, 1) := by decide +kernel
theorem dX2_takeFrom_47 : decode cX2_takeFrom 47 = .ok (.iinc 3 1, 3) := by decide +kernel
theorem dX2_takeFrom_50 : decode cX2_takeFrom 50 = .ok (.goto (-36), 3) := by decide +kernel
theorem dX2_takeFrom_53 : decode cX2_takeFrom 53 = .ok (.aload_n 0, 1) := by decide +kernel
theorem dX2_takeFrom_54 : decode cX2_takeFrom 54 = .ok (.getfield 19, 3) := by decide +kernel
theorem dX2_takeFrom_57 : decode cX2_takeFrom 57 = .ok (.iload_n 2, 1) := by decide +kernel
theorem dX2_takeFrom_58 : decode cX2_takeFrom 58 = .ok (.iconst 0, 1) := by decide +kernel
theorem dX2_takeFrom_59 : decode cX2_takeFrom 59 = .ok (.invokestatic 72, 3) := by decide +kernel
theorem dX2_takeFrom_62 : decode cX2_takeFrom 62 = .ok (.aload_n 1, 1) := by decide +kernel
theorem dX2_takeFrom_63 : decode cX2_takeFrom 63 = .ok (.getfield 100, 3) := by decide +kernel
theorem dX2_takeFrom_66 : decode cX2_takeFrom 66 = .ok (.iload_n 2, 1) := by decide +kernel
theorem dX2_takeFrom_67 : decode cX2_takeFrom 67 = .ok (.iaload, 1) := by decide +kernel
theorem dX2_takeFrom_68 : decode cX2_takeFrom 68 = .ok (.iastore, 1) := by decide +kernel
theorem dX2_takeFrom_69 : decode cX2_takeFrom 69 = .ok (.aload_n 0, 1) := by decide +kernel
theorem dX2_takeFrom_70 : decode cX2_takeFrom 70 = .ok (.getfield 22, 3) := by decide +kernel
theorem dX2_takeFrom_73 : decode cX2_takeFrom 73 = .ok (.iload_n 2, 1) := by decide +kernel
theorem dX2_takeFrom_74 : decode cX2_takeFrom 74 = .ok (.aload_n 1, 1) := by decide +kernel
theorem dX2_takeFrom_75 : decode cX2_takeFrom 75 = .ok (.getfield 101, 3) := by decide +kernel
theorem dX2_takeFrom_78 : decode cX2_takeFrom 78 = .ok (.iload_n 2, 1) := by decide +kernel
theorem dX2_takeFrom_79 : decode cX2_takeFrom 79 = .ok (.laload, 1) := by decide +kernel
theorem dX2_takeFrom_80 : decode cX2_takeFrom 80 = .ok (.lastore, 1) := by decide +kernel
theorem dX2_takeFrom_81 : decode cX2_takeFrom 81 = .ok (.iinc 2 1, 3) := by decide +kernel
theorem dX2_takeFrom_84 : decode cX2_takeFrom 84 = .ok (.goto (-78), 3) := by decide +kernel
theorem dX2_takeFrom_87 : decode cX2_takeFrom 87 = .ok (.return_, 1) := by decide +kernel
