theorem dX0_init_0 : decode cX0_init 0 = .ok (.aload_n 0, 1) := by decide +kernel
theorem dX0_init_1 : decode cX0_init 1 = .ok (.invokespecial 3, 3) := by decide +kernel
theorem dX0_init_4 : decode cX0_init 4 = .ok (.aload_n 0, 1) := by decide +kernel
theorem dX0_init_5 : decode cX0_init 5 = .ok (.bipush 12, 2) := by decide +kernel
theorem dX0_init_7 : decode cX0_init 7 = .ok (.newarray .int, 2) := by decide +kernel
theorem dX0_init_9 : decode cX0_init 9 = .ok (.putfield 9, 3) := by decide +kernel
theorem dX0_init_12 : decode cX0_init 12 = .ok (.aload_n 0, 1) := by decide +kernel
theorem dX0_init_13 : decode cX0_init 13 = .ok (.bipush 12, 2) := by decide +kernel
theorem dX0_init_15 : decode cX0_init 15 = .ok (.newarray .int, 2) := by decide +kernel
theorem dX0_init_17 : decode cX0_init 17 = .ok (.putfield 15, 3) := by decide +kernel
theorem dX0_init_20 : decode cX0_init 20 = .ok (.aload_n 0, 1) := by decide +kernel
theorem dX0_init_21 : decode cX0_init 21 = .ok (.bipush 12, 2) := by decide +kernel
theorem dX0_init_23 : decode cX0_init 23 = .ok (.newarray .int, 2) := by decide +kernel
theorem dX0_init_25 : decode cX0_init 25 = .ok (.putfield 18, 3) := by decide +kernel
theorem dX0_init_28 : decode cX0_init 28 = .ok (.return_, 1) := by decide +kernel
theorem dX0_take_0 : decode cX0_take 0 = .ok (.aload_n 0, 1) := by decide +kernel
theorem dX0_take_1 : decode cX0_take 1 = .ok (.iload_n 1, 1) := by decide +kernel
theorem dX0_take_2 : decode cX0_take 2 = .ok (.invokevirtual 21, 3) := by decide +kernel
theorem dX0_take_5 : decode cX0_take 5 = .ok (.istore_n 2, 1) := by decide +kernel
theorem dX0_take_6 : decode cX0_take 6 = .ok (.iload_n 2, 1) := by decide +kernel
theorem dX0_take_7 : decode cX0_take 7 = .ok (.iconst (-1), 1) := by decide +kernel
theorem dX0_take_8 : decode cX0_take 8 = .ok (.if_icmp .eq 16, 3) := by decide +kernel
theorem dX0_take_11 : decode cX0_take 11 = .ok (.aload_n 0, 1) := by decide +kernel
theorem dX0_take_12 : decode cX0_take 12 = .ok (.getfield 15, 3) := by decide +kernel
theorem dX0_take_15 : decode cX0_take 15 = .ok (.iload_n 2, 1) := by decide +kernel
theorem dX0_take_16 : decode cX0_take 16 = .ok (.dup2, 1) := by decide +kernel
theorem dX0_take_17 : decode cX0_take 17 = .ok (.iaload, 1) := by decide +kernel
theorem dX0_take_18 : decode cX0_take 18 = .ok (.iconst 1, 1) := by decide +kernel
theorem dX0_take_19 : decode cX0_take 19 = .ok (.iadd, 1) := by decide +kernel
theorem dX0_take_20 : decode cX0_take 20 = .ok (.iastore, 1) := by decide +kernel
theorem dX0_take_21 : decode cX0_take 21 = .ok (.goto 54, 3) := by decide +kernel
theorem dX0_take_24 : decode cX0_take 24 = .ok (.aload_n 0, 1) := by decide +kernel
theorem dX0_take_25 : decode cX0_take 25 = .ok (.getfield 25, 3) := by decide +kernel
theorem dX0_take_28 : decode cX0_take 28 = .ok (.aload_n 0, 1) := by decide +kernel
theorem dX0_take_29 : decode cX0_take 29 = .ok (.getfield 29, 3) := by decide +kernel
theorem dX0_take_32 : decode cX0_take 32 = .ok (.if_icmp .ge 26, 3) := by decide +kernel
theorem dX0_take_35 : decode cX0_take 35 = .ok (.aload_n 0, 1) := by decide +kernel
theorem dX0_take_36 : decode cX0_take 36 = .ok (.aload_n 0, 1) := by decide +kernel
theorem dX0_take_37 : decode cX0_take 37 = .ok (.getfield 25, 3) := by decide +kernel
theorem dX0_take_40 : decode cX0_take 40 = .ok (.iload_n 1, 1) := by decide +kernel
theorem dX0_take_41 : decode cX0_take 41 = .ok (.iconst 0, 1) := by decide +kernel
theorem dX0_take_42 : decode cX0_take 42 = .ok (.invokevirtual 32, 3) := by decide +kernel
theorem dX0_take_45 : decode cX0_take 45 = .ok (.aload_n 0, 1) := by decide +kernel
theorem dX0_take_46 : decode cX0_take 46 = .ok (.dup, 1) := by decide +kernel
theorem dX0_take_47 : decode cX0_take 47 = .ok (.getfield 25, 3) := by decide +kernel
theorem dX0_take_50 : decode cX0_take 50 = .ok (.iconst 1, 1) := by decide +kernel
theorem dX0_take_51 : decode cX0_take 51 = .ok (.iadd, 1) := by decide +kernel
theorem dX0_take_52 : decode cX0_take 52 = .ok (.putfield 25, 3) := by decide +kernel
theorem dX0_take_55 : decode cX0_take 55 = .ok (.goto 20, 3) := by decide +kernel
theorem dX0_take_58 : decode cX0_take 58 = .ok (.aload_n 0, 1) := by decide +kernel
theorem dX0_take_59 : decode cX0_take 59 = .ok (.invokevirtual 36, 3) := by decide +kernel
theorem dX0_take_62 : decode cX0_take 62 = .ok (.istore_n 3, 1) := by decide +kernel
theorem dX0_take_63 : decode cX0_take 63 = .ok (.aload_n 0, 1) := by decide +kernel
theorem dX0_take_64 : decode cX0_take 64 = .ok (.iload_n 3, 1) := by decide +kernel
theorem dX0_take_65 : decode cX0_take 65 = .ok (.iload_n 1, 1) := by decide +kernel
theorem dX0_take_66 : decode cX0_take 66 = .ok (.aload_n 0, 1) := by decide +kernel
theorem dX0_take_67 : decode cX0_take 67 = .ok (.getfield 15, 3) := by decide +kernel
theorem dX0_take_70 : decode cX0_take 70 = .ok (.iload_n 3, 1) := by decide +kernel
theorem dX0_take_71 : decode cX0_take 71 = .ok (.iaload, 1) := by decide +kernel
theorem dX0_take_72 : decode cX0_take 72 = .ok (.invokevirtual 32, 3) := by decide +kernel
theorem dX0_take_75 : decode cX0_take 75 = .ok (.return_, 1) := by decide +kernel
theorem dX0_put_0 : decode cX0_put 0 = .ok (.aload_n 0, 1) := by decide +kernel
theorem dX0_put_1 : decode cX0_put 1 = .ok (.getfield 9, 3) := by decide +kernel
theorem dX0_put_4 : decode cX0_put 4 = .ok (.iload_n 1, 1) := by decide +kernel
theorem dX0_put_5 : decode cX0_put 5 = .ok (.iload_n 2, 1) := by decide +kernel
theorem dX0_put_6 : decode cX0_put 6 = .ok (.iastore, 1) := by decide +kernel
theorem dX0_put_7 : decode cX0_put 7 = .ok (.aload_n 0, 1) := by decide +kernel
theorem dX0_put_8 : decode cX0_put 8 = .ok (.getfield 18, 3) := by decide +kernel
theorem dX0_put_11 : decode cX0_put 11 = .ok (.iload_n 1, 1) := by decide +kernel
theorem dX0_put_12 : decode cX0_put 12 = .ok (.iload_n 3, 1) := by decide +kernel
theorem dX0_put_13 : decode cX0_put 13 = .ok (.iastore, 1) := by decide +kernel
theorem dX0_put_14 : decode cX0_put 14 = .ok (.aload_n 0, 1) := by decide +kernel
theorem dX0_put_15 : decode cX0_put 15 = .ok (.getfield 15, 3) := by decide +kernel
theorem dX0_put_18 : decode cX0_put 18 = .ok (.iload_n 1, 1) := by decide +kernel
theorem dX0_put_19 : decode cX0_put 19 = .ok (.iload_n 3, 1) := by decide +kernel
theorem dX0_put_20 : decode cX0_put 20 = .ok (.iconst 1, 1) := by decide +kernel
theorem dX0_put_21 : decode cX0_put 21 = .ok (.iadd, 1) := by decide +kernel
theorem dX0_put_22 : decode cX0_put 22 = .ok (.iastore, 1) := by decide +kernel
theorem dX0_put_23 : decode cX0_put 23 = .ok (.return_, 1) := by decide +kernel
theorem dX0_find_0 : decode cX0_find 0 = .ok (.iconst 0, 1) := by decide +kernel
theorem dX0_find_1 : decode cX0_find 1 = .ok (.istore_n 2, 1) := by decide +kernel
theorem dX0_find_2 : decode cX0_find 2 = .ok (.iload_n 2, 1) := by decide +kernel
theorem dX0_find_3 : decode cX0_find 3 = .ok (.aload_n 0, 1) := by decide +kernel
theorem dX0_find_4 : decode cX0_find 4 = .ok (.getfield 25, 3) := by decide +kernel
theorem dX0_find_7 : decode cX0_find 7 = .ok (.if_icmp .ge 21, 3) := by decide +kernel
theorem dX0_find_10 : decode cX0_find 10 = .ok (.aload_n 0, 1) := by decide +kernel
theorem dX0_find_11 : decode cX0_find 11 = .ok (.getfield 9, 3) := by decide +kernel
theorem dX0_find_14 : decode cX0_find 14 = .ok (.iload_n 2, 1) := by decide +kernel
theorem dX0_find_15 : decode cX0_find 15 = .ok (.iaload, 1) := by decide +kernel
theorem dX0_find_16 : decode cX0_find 16 = .ok (.iload_n 1, 1) := by decide +kernel
theorem dX0_find_17 : decode cX0_find 17 = .ok (.if_icmp .ne 5, 3) := by decide +kernel
theorem dX0_find_20 : decode cX0_find 20 = .ok (.iload_n 2, 1) := by decide +kernel
theorem dX0_find_21 : decode cX0_find 21 = .ok (.ireturn, 1) := by decide +kernel
theorem dX0_find_22 : decode cX0_find 22 = .ok (.iinc 2 1, 3) := by decide +kernel
theorem dX0_find_25 : decode cX0_find 25 = .ok (.goto (-23), 3) := by decide +kernel
theorem dX0_find_28 : decode cX0_find 28 = .ok (.iconst (-1), 1) := by decide +kernel
theorem dX0_find_29 : decode cX0_find 29 = .ok (.ireturn, 1) := by decide +kernel
theorem dX0_leastAt_0 : decode cX0_leastAt 0 = .ok (.iconst 0, 1) := by decide +kernel
theorem dX0_leastAt_1 : decode cX0_leastAt 1 = .ok (.istore_n 1, 1) := by decide +kernel
theorem dX0_leastAt_2 : decode cX0_leastAt 2 = .ok (.iconst 1, 1) := by decide +kernel
theorem dX0_leastAt_3 : decode cX0_leastAt 3 = .ok (.istore_n 2, 1) := by decide +kernel
theorem dX0_leastAt_4 : decode cX0_leastAt 4 = .ok (.iload_n 2, 1) := by decide +kernel
theorem dX0_leastAt_5 : decode cX0_leastAt 5 = .ok (.aload_n 0, 1) := by decide +kernel
theorem dX0_leastAt_6 : decode cX0_leastAt 6 = .ok (.getfield 25, 3) := by decide +kernel
theorem dX0_leastAt_9 : decode cX0_leastAt 9 = .ok (.if_icmp .ge 26, 3) := by decide +kernel
theorem dX0_leastAt_12 : decode cX0_leastAt 12 = .ok (.aload_n 0, 1) := by decide +kernel
theorem dX0_leastAt_13 : decode cX0_leastAt 13 = .ok (.getfield 15, 3) := by decide +kernel
theorem dX0_leastAt_16 : decode cX0_leastAt 16 = .ok (.iload_n 2, 1) := by decide +kernel
theorem dX0_leastAt_17 : decode cX0_leastAt 17 = .ok (.iaload, 1) := by decide +kernel
theorem dX0_leastAt_18 : decode cX0_leastAt 18 = .ok (.aload_n 0, 1) := by decide +kernel
theorem dX0_leastAt_19 : decode cX0_leastAt 19 = .ok (.getfield 15, 3) := by decide +kernel
theorem dX0_leastAt_22 : decode cX0_leastAt 22 = .ok (.iload_n 1, 1) := by decide +kernel
theorem dX0_leastAt_23 : decode cX0_leastAt 23 = .ok (.iaload, 1) := by decide +kernel
theorem dX0_leastAt_24 : decode cX0_leastAt 24 = .ok (.if_icmp .ge 5, 3) := by decide +kernel
theorem dX0_leastAt_27 : decode cX0_leastAt 27 = .ok (.iload_n 2, 1) := by decide +kernel
theorem dX0_leastAt_28 : decode cX0_leastAt 28 = .ok (.istore_n 1, 1) := by decide +kernel
theorem dX0_leastAt_29 : decode cX0_leastAt 29 = .ok (.iinc 2 1, 3) := by decide +kernel
theorem dX0_leastAt_32 : decode cX0_leastAt 32 = .ok (.goto (-28), 3) := by decide +kernel
theorem dX0_leastAt_35 : decode cX0_leastAt 35 = .ok (.iload_n 1, 1) := by decide +kernel
theorem dX0_leastAt_36 : decode cX0_leastAt 36 = .ok (.ireturn, 1) := by decide +kernel
theorem dX0_keyAt_0 : decode cX0_keyAt 0 = .ok (.iload_n 1, 1) := by decide +kernel
theorem dX0_keyAt_1 : decode cX0_keyAt 1 = .ok (.aload_n 0, 1) := by decide +kernel
theorem dX0_keyAt_2 : decode cX0_keyAt 2 = .ok (.getfield 25, 3) := by decide +kernel
theorem dX0_keyAt_5 : decode cX0_keyAt 5 = .ok (.if_icmp .ge 12, 3) := by decide +kernel
theorem dX0_keyAt_8 : decode cX0_keyAt 8 = .ok (.aload_n 0, 1) := by decide +kernel
theorem dX0_keyAt_9 : decode cX0_keyAt 9 = .ok (.getfield 9, 3) := by decide +kernel
theorem dX0_keyAt_12 : decode cX0_keyAt 12 = .ok (.iload_n 1, 1) := by decide +kernel
theorem dX0_keyAt_13 : decode cX0_keyAt 13 = .ok (.iaload, 1) := by decide +kernel
theorem dX0_keyAt_14 : decode cX0_keyAt 14 = .ok (.goto 4, 3) := by decide +kernel
theorem dX0_keyAt_17 : decode cX0_keyAt 17 = .ok (.iconst (-1), 1) := by decide +kernel
theorem dX0_keyAt_18 : decode cX0_keyAt 18 = .ok (.ireturn, 1) := by decide +kernel
theorem dX0_countAt_0 : decode cX0_countAt 0 = .ok (.iload_n 1, 1) := by decide +kernel
theorem dX0_countAt_1 : decode cX0_countAt 1 = .ok (.aload_n 0, 1) := by decide +kernel
theorem dX0_countAt_2 : decode cX0_countAt 2 = .ok (.getfield 25, 3) := by decide +kernel
theorem dX0_countAt_5 : decode cX0_countAt 5 = .ok (.if_icmp .ge 12, 3) := by decide +kernel
theorem dX0_countAt_8 : decode cX0_countAt 8 = .ok (.aload_n 0, 1) := by decide +kernel
theorem dX0_countAt_9 : decode cX0_countAt 9 = .ok (.getfield 15, 3) := by decide +kernel
theorem dX0_countAt_12 : decode cX0_countAt 12 = .ok (.iload_n 1, 1) := by decide +kernel
theorem dX0_countAt_13 : decode cX0_countAt 13 = .ok (.iaload, 1) := by decide +kernel
theorem dX0_countAt_14 : decode cX0_countAt 14 = .ok (.goto 4, 3) := by decide +kernel
theorem dX0_countAt_17 : decode cX0_countAt 17 = .ok (.iconst 0, 1) := by decide +kernel
theorem dX0_countAt_18 : decode cX0_countAt 18 = .ok (.ireturn, 1) := by decide +kernel
theorem dX0_errorAt_0 : decode cX0_errorAt 0 = .ok (.iload_n 1, 1) := by decide +kernel
theorem dX0_errorAt_1 : decode cX0_errorAt 1 = .ok (.aload_n 0, 1) := by decide +kernel
theorem dX0_errorAt_2 : decode cX0_errorAt 2 = .ok (.getfield 25, 3) := by decide +kernel
theorem dX0_errorAt_5 : decode cX0_errorAt 5 = .ok (.if_icmp .ge 12, 3) := by decide +kernel
theorem dX0_errorAt_8 : decode cX0_errorAt 8 = .ok (.aload_n 0, 1) := by decide +kernel
theorem dX0_errorAt_9 : decode cX0_errorAt 9 = .ok (.getfield 18, 3) := by decide +kernel
theorem dX0_errorAt_12 : decode cX0_errorAt 12 = .ok (.iload_n 1, 1) := by decide +kernel
theorem dX0_errorAt_13 : decode cX0_errorAt 13 = .ok (.iaload, 1) := by decide +kernel
theorem dX0_errorAt_14 : decode cX0_errorAt 14 = .ok (.goto 4, 3) := by decide +kernel
theorem dX0_errorAt_17 : decode cX0_errorAt 17 = .ok (.iconst 0, 1) := by decide +kernel
theorem dX0_errorAt_18 : decode cX0_errorAt 18 = .ok (.ireturn, 1) := by decide +kernel
theorem dX0_surelyAt_0 : decode cX0_surelyAt 0 = .ok (.aload_n 0, 1) := by decide +kernel
theorem dX0_surelyAt_1 : decode cX0_surelyAt 1 = .ok (.iload_n 1, 1) := by decide +kernel
theorem dX0_surelyAt_2 : decode cX0_surelyAt 2 = .ok (.invokevirtual 40, 3) := by decide +kernel
theorem dX0_surelyAt_5 : decode cX0_surelyAt 5 = .ok (.aload_n 0, 1) := by decide +kernel
theorem dX0_surelyAt_6 : decode cX0_surelyAt 6 = .ok (.iload_n 1, 1) := by decide +kernel
theorem dX0_surelyAt_7 : decode cX0_surelyAt 7 = .ok (.invokevirtual 43, 3) := by decide +kernel
theorem dX0_surelyAt_10 : decode cX0_surelyAt 10 = .ok (.isub, 1) := by decide +kernel
theorem dX0_surelyAt_11 : decode cX0_surelyAt 11 = .ok (.ireturn, 1) := by decide +kernel
theorem dX0_atLeast_0 : decode cX0_atLeast 0 = .ok (.aload_n 0, 1) := by decide +kernel
theorem dX0_atLeast_1 : decode cX0_atLeast 1 = .ok (.iload_n 1, 1) := by decide +kernel
theorem dX0_atLeast_2 : decode cX0_atLeast 2 = .ok (.invokevirtual 21, 3) := by decide +kernel
theorem dX0_atLeast_5 : decode cX0_atLeast 5 = .ok (.istore_n 2, 1) := by decide +kernel
theorem dX0_atLeast_6 : decode cX0_atLeast 6 = .ok (.iload_n 2, 1) := by decide +kernel
theorem dX0_atLeast_7 : decode cX0_atLeast 7 = .ok (.iconst (-1), 1) := by decide +kernel
theorem dX0_atLeast_8 : decode cX0_atLeast 8 = .ok (.if_icmp .ne 7, 3) := by decide +kernel
theorem dX0_atLeast_11 : decode cX0_atLeast 11 = .ok (.iconst 0, 1) := by decide +kernel
theorem dX0_atLeast_12 : decode cX0_atLeast 12 = .ok (.goto 8, 3) := by decide +kernel
theorem dX0_atLeast_15 : decode cX0_atLeast 15 = .ok (.aload_n 0, 1) := by decide +kernel
theorem dX0_atLeast_16 : decode cX0_atLeast 16 = .ok (.iload_n 2, 1) := by decide +kernel
theorem dX0_atLeast_17 : decode cX0_atLeast 17 = .ok (.invokevirtual 46, 3) := by decide +kernel
theorem dX0_atLeast_20 : decode cX0_atLeast 20 = .ok (.ireturn, 1) := by decide +kernel
theorem dX0_atMost_0 : decode cX0_atMost 0 = .ok (.aload_n 0, 1) := by decide +kernel
theorem dX0_atMost_1 : decode cX0_atMost 1 = .ok (.iload_n 1, 1) := by decide +kernel
theorem dX0_atMost_2 : decode cX0_atMost 2 = .ok (.invokevirtual 21, 3) := by decide +kernel
theorem dX0_atMost_5 : decode cX0_atMost 5 = .ok (.istore_n 2, 1) := by decide +kernel
theorem dX0_atMost_6 : decode cX0_atMost 6 = .ok (.iload_n 2, 1) := by decide +kernel
theorem dX0_atMost_7 : decode cX0_atMost 7 = .ok (.iconst (-1), 1) := by decide +kernel
theorem dX0_atMost_8 : decode cX0_atMost 8 = .ok (.if_icmp .eq 10, 3) := by decide +kernel
theorem dX0_atMost_11 : decode cX0_atMost 11 = .ok (.aload_n 0, 1) := by decide +kernel
theorem dX0_atMost_12 : decode cX0_atMost 12 = .ok (.getfield 15, 3) := by decide +kernel
theorem dX0_atMost_15 : decode cX0_atMost 15 = .ok (.iload_n 2, 1) := by decide +kernel
theorem dX0_atMost_16 : decode cX0_atMost 16 = .ok (.iaload, 1) := by decide +kernel
theorem dX0_atMost_17 : decode cX0_atMost 17 = .ok (.ireturn, 1) := by decide +kernel
theorem dX0_atMost_18 : decode cX0_atMost 18 = .ok (.aload_n 0, 1) := by decide +kernel
theorem dX0_atMost_19 : decode cX0_atMost 19 = .ok (.getfield 25, 3) := by decide +kernel
theorem dX0_atMost_22 : decode cX0_atMost 22 = .ok (.aload_n 0, 1) := by decide +kernel
theorem dX0_atMost_23 : decode cX0_atMost 23 = .ok (.getfield 29, 3) := by decide +kernel
theorem dX0_atMost_26 : decode cX0_atMost 26 = .ok (.if_icmp .ge 7, 3) := by decide +kernel
theorem dX0_atMost_29 : decode cX0_atMost 29 = .ok (.iconst 0, 1) := by decide +kernel
theorem dX0_atMost_30 : decode cX0_atMost 30 = .ok (.goto 12, 3) := by decide +kernel
theorem dX0_atMost_33 : decode cX0_atMost 33 = .ok (.aload_n 0, 1) := by decide +kernel
theorem dX0_atMost_34 : decode cX0_atMost 34 = .ok (.getfield 15, 3) := by decide +kernel
theorem dX0_atMost_37 : decode cX0_atMost 37 = .ok (.aload_n 0, 1) := by decide +kernel
theorem dX0_atMost_38 : decode cX0_atMost 38 = .ok (.invokevirtual 36, 3) := by decide +kernel
theorem dX0_atMost_41 : decode cX0_atMost 41 = .ok (.iaload, 1) := by decide +kernel
theorem dX0_atMost_42 : decode cX0_atMost 42 = .ok (.ireturn, 1) := by decide +kernel
