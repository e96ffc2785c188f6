theorem dX7_joinOfTree_4 : decode cX7_joinOfTree 4 = .ok (.iload_n 3, 1) := by decide +kernel
theorem dX7_joinOfTree_5 : decode cX7_joinOfTree 5 = .ok (.iload_n 0, 1) := by decide +kernel
theorem dX7_joinOfTree_6 : decode cX7_joinOfTree 6 = .ok (.if_icmp .ge 51, 3) := by decide +kernel
theorem dX7_joinOfTree_9 : decode cX7_joinOfTree 9 = .ok (.iconst 0, 1) := by decide +kernel
theorem dX7_joinOfTree_10 : decode cX7_joinOfTree 10 = .ok (.istore 4, 2) := by decide +kernel
theorem dX7_joinOfTree_12 : decode cX7_joinOfTree 12 = .ok (.iload 4, 2) := by decide +kernel
theorem dX7_joinOfTree_14 : decode cX7_joinOfTree 14 = .ok (.iload_n 3, 1) := by decide +kernel
theorem dX7_joinOfTree_15 : decode cX7_joinOfTree 15 = .ok (.iadd, 1) := by decide +kernel
theorem dX7_joinOfTree_16 : decode cX7_joinOfTree 16 = .ok (.iload_n 0, 1) := by decide +kernel
theorem dX7_joinOfTree_17 : decode cX7_joinOfTree 17 = .ok (.if_icmp .ge 33, 3) := by decide +kernel
theorem dX7_joinOfTree_20 : decode cX7_joinOfTree 20 = .ok (.iload_n 2, 1) := by decide +kernel
theorem dX7_joinOfTree_21 : decode cX7_joinOfTree 21 = .ok (.iload_n 1, 1) := by decide +kernel
theorem dX7_joinOfTree_22 : decode cX7_joinOfTree 22 = .ok (.if_icmp .ne 14, 3) := by decide +kernel
theorem dX7_joinOfTree_25 : decode cX7_joinOfTree 25 = .ok (.bipush 8, 2) := by decide +kernel
theorem dX7_joinOfTree_27 : decode cX7_joinOfTree 27 = .ok (.iload 4, 2) := by decide +kernel
theorem dX7_joinOfTree_29 : decode cX7_joinOfTree 29 = .ok (.imul, 1) := by decide +kernel
theorem dX7_joinOfTree_30 : decode cX7_joinOfTree 30 = .ok (.iload 4, 2) := by decide +kernel
theorem dX7_joinOfTree_32 : decode cX7_joinOfTree 32 = .ok (.iadd, 1) := by decide +kernel
theorem dX7_joinOfTree_33 : decode cX7_joinOfTree 33 = .ok (.iload_n 3, 1) := by decide +kernel
theorem dX7_joinOfTree_34 : decode cX7_joinOfTree 34 = .ok (.iadd, 1) := by decide +kernel
theorem dX7_joinOfTree_35 : decode cX7_joinOfTree 35 = .ok (.ireturn, 1) := by decide +kernel
theorem dX7_joinOfTree_36 : decode cX7_joinOfTree 36 = .ok (.iinc 2 1, 3) := by decide +kernel
theorem dX7_joinOfTree_39 : decode cX7_joinOfTree 39 = .ok (.iload 4, 2) := by decide +kernel
theorem dX7_joinOfTree_41 : decode cX7_joinOfTree 41 = .ok (.iconst 2, 1) := by decide +kernel
theorem dX7_joinOfTree_42 : decode cX7_joinOfTree 42 = .ok (.iload_n 3, 1) := by decide +kernel
theorem dX7_joinOfTree_43 : decode cX7_joinOfTree 43 = .ok (.imul, 1) := by decide +kernel
theorem dX7_joinOfTree_44 : decode cX7_joinOfTree 44 = .ok (.iadd, 1) := by decide +kernel
theorem dX7_joinOfTree_45 : decode cX7_joinOfTree 45 = .ok (.istore 4, 2) := by decide +kernel
theorem dX7_joinOfTree_47 : decode cX7_joinOfTree 47 = .ok (.goto (-35), 3) := by decide +kernel
theorem dX7_joinOfTree_50 : decode cX7_joinOfTree 50 = .ok (.iload_n 3, 1) := by decide +kernel
theorem dX7_joinOfTree_51 : decode cX7_joinOfTree 51 = .ok (.iload_n 3, 1) := by decide +kernel
theorem dX7_joinOfTree_52 : decode cX7_joinOfTree 52 = .ok (.iadd, 1) := by decide +kernel
theorem dX7_joinOfTree_53 : decode cX7_joinOfTree 53 = .ok (.istore_n 3, 1) := by decide +kernel
theorem dX7_joinOfTree_54 : decode cX7_joinOfTree 54 = .ok (.goto (-50), 3) := by decide +kernel
theorem dX7_joinOfTree_57 : decode cX7_joinOfTree 57 = .ok (.iconst (-1), 1) := by decide +kernel
theorem dX7_joinOfTree_58 : decode cX7_joinOfTree 58 = .ok (.ireturn, 1) := by decide +kernel
theorem dX7_endRound_0 : decode cX7_endRound 0 = .ok (.aload_n 0, 1) := by decide +kernel
theorem dX7_endRound_1 : decode cX7_endRound 1 = .ok (.invokevirtual 288, 3) := by decide +kernel
theorem dX7_endRound_4 : decode cX7_endRound 4 = .ok (.aload_n 0, 1) := by decide +kernel
theorem dX7_endRound_5 : decode cX7_endRound 5 = .ok (.invokevirtual 291, 3) := by decide +kernel
theorem dX7_endRound_8 : decode cX7_endRound 8 = .ok (.aload_n 0, 1) := by decide +kernel
theorem dX7_endRound_9 : decode cX7_endRound 9 = .ok (.getfield 28, 3) := by decide +kernel
theorem dX7_endRound_12 : decode cX7_endRound 12 = .ok (.iconst 0, 1) := by decide +kernel
theorem dX7_endRound_13 : decode cX7_endRound 13 = .ok (.putfield 272, 3) := by decide +kernel
theorem dX7_endRound_16 : decode cX7_endRound 16 = .ok (.aload_n 0, 1) := by decide +kernel
theorem dX7_endRound_17 : decode cX7_endRound 17 = .ok (.iconst 0, 1) := by decide +kernel
theorem dX7_endRound_18 : decode cX7_endRound 18 = .ok (.putfield 122, 3) := by decide +kernel
theorem dX7_endRound_21 : decode cX7_endRound 21 = .ok (.aload_n 0, 1) := by decide +kernel
theorem dX7_endRound_22 : decode cX7_endRound 22 = .ok (.dup, 1) := by decide +kernel
theorem dX7_endRound_23 : decode cX7_endRound 23 = .ok (.getfield 252, 3) := by decide +kernel
theorem dX7_endRound_26 : decode cX7_endRound 26 = .ok (.iconst 1, 1) := by decide +kernel
theorem dX7_endRound_27 : decode cX7_endRound 27 = .ok (.iadd, 1) := by decide +kernel
theorem dX7_endRound_28 : decode cX7_endRound 28 = .ok (.putfield 252, 3) := by decide +kernel
theorem dX7_endRound_31 : decode cX7_endRound 31 = .ok (.return_, 1) := by decide +kernel
theorem dX7_splitHotKeys_0 : decode cX7_splitHotKeys 0 = .ok (.iconst 0, 1) := by decide +kernel
theorem dX7_splitHotKeys_1 : decode cX7_splitHotKeys 1 = .ok (.istore_n 1, 1) := by decide +kernel
theorem dX7_splitHotKeys_2 : decode cX7_splitHotKeys 2 = .ok (.iload_n 1, 1) := by decide +kernel
theorem dX7_splitHotKeys_3 : decode cX7_splitHotKeys 3 = .ok (.aload_n 0, 1) := by decide +kernel
theorem dX7_splitHotKeys_4 : decode cX7_splitHotKeys 4 = .ok (.getfield 28, 3) := by decide +kernel
theorem dX7_splitHotKeys_7 : decode cX7_splitHotKeys 7 = .ok (.getfield 272, 3) := by decide +kernel
theorem dX7_splitHotKeys_10 : decode cX7_splitHotKeys 10 = .ok (.if_icmp .ge 111, 3) := by decide +kernel
theorem dX7_splitHotKeys_13 : decode cX7_splitHotKeys 13 = .ok (.aload_n 0, 1) := by decide +kernel
theorem dX7_splitHotKeys_14 : decode cX7_splitHotKeys 14 = .ok (.getfield 28, 3) := by decide +kernel
theorem dX7_splitHotKeys_17 : decode cX7_splitHotKeys 17 = .ok (.iload_n 1, 1) := by decide +kernel
theorem dX7_splitHotKeys_18 : decode cX7_splitHotKeys 18 = .ok (.invokevirtual 172, 3) := by decide +kernel
theorem dX7_splitHotKeys_21 : decode cX7_splitHotKeys 21 = .ok (.istore_n 2, 1) := by decide +kernel
theorem dX7_splitHotKeys_22 : decode cX7_splitHotKeys 22 = .ok (.aload_n 0, 1) := by decide +kernel
theorem dX7_splitHotKeys_23 : decode cX7_splitHotKeys 23 = .ok (.getfield 28, 3) := by decide +kernel
theorem dX7_splitHotKeys_26 : decode cX7_splitHotKeys 26 = .ok (.iload_n 1, 1) := by decide +kernel
theorem dX7_splitHotKeys_27 : decode cX7_splitHotKeys 27 = .ok (.invokevirtual 294, 3) := by decide +kernel
theorem dX7_splitHotKeys_30 : decode cX7_splitHotKeys 30 = .ok (.aload_n 0, 1) := by decide +kernel
theorem dX7_splitHotKeys_31 : decode cX7_splitHotKeys 31 = .ok (.getfield 184, 3) := by decide +kernel
theorem dX7_splitHotKeys_34 : decode cX7_splitHotKeys 34 = .ok (.if_icmp .lt 81, 3) := by decide +kernel
theorem dX7_splitHotKeys_37 : decode cX7_splitHotKeys 37 = .ok (.aload_n 0, 1) := by decide +kernel
theorem dX7_splitHotKeys_38 : decode cX7_splitHotKeys 38 = .ok (.getfield 21, 3) := by decide +kernel
theorem dX7_splitHotKeys_41 : decode cX7_splitHotKeys 41 = .ok (.iload_n 2, 1) := by decide +kernel
theorem dX7_splitHotKeys_42 : decode cX7_splitHotKeys 42 = .ok (.invokevirtual 153, 3) := by decide +kernel
theorem dX7_splitHotKeys_45 : decode cX7_splitHotKeys 45 = .ok (.ifCond .ne 70, 3) := by decide +kernel
theorem dX7_splitHotKeys_48 : decode cX7_splitHotKeys 48 = .ok (.aload_n 0, 1) := by decide +kernel
theorem dX7_splitHotKeys_49 : decode cX7_splitHotKeys 49 = .ok (.getfield 12, 3) := by decide +kernel
theorem dX7_splitHotKeys_52 : decode cX7_splitHotKeys 52 = .ok (.invokevirtual 156, 3) := by decide +kernel
theorem dX7_splitHotKeys_55 : decode cX7_splitHotKeys 55 = .ok (.ifCond .eq 50, 3) := by decide +kernel
theorem dX7_splitHotKeys_58 : decode cX7_splitHotKeys 58 = .ok (.aload_n 0, 1) := by decide +kernel
theorem dX7_splitHotKeys_59 : decode cX7_splitHotKeys 59 = .ok (.getfield 28, 3) := by decide +kernel
theorem dX7_splitHotKeys_62 : decode cX7_splitHotKeys 62 = .ok (.iload_n 1, 1) := by decide +kernel
theorem dX7_splitHotKeys_63 : decode cX7_splitHotKeys 63 = .ok (.invokevirtual 175, 3) := by decide +kernel
theorem dX7_splitHotKeys_66 : decode cX7_splitHotKeys 66 = .ok (.aload_n 0, 1) := by decide +kernel
theorem dX7_splitHotKeys_67 : decode cX7_splitHotKeys 67 = .ok (.getfield 184, 3) := by decide +kernel
theorem dX7_splitHotKeys_70 : decode cX7_splitHotKeys 70 = .ok (.invokestatic 297, 3) := by decide +kernel
theorem dX7_splitHotKeys_73 : decode cX7_splitHotKeys 73 = .ok (.iconst 1, 1) := by decide +kernel
theorem dX7_splitHotKeys_74 : decode cX7_splitHotKeys 74 = .ok (.iadd, 1) := by decide +kernel
theorem dX7_splitHotKeys_75 : decode cX7_splitHotKeys 75 = .ok (.istore_n 3, 1) := by decide +kernel
theorem dX7_splitHotKeys_76 : decode cX7_splitHotKeys 76 = .ok (.aload_n 0, 1) := by decide +kernel
theorem dX7_splitHotKeys_77 : decode cX7_splitHotKeys 77 = .ok (.getfield 21, 3) := by decide +kernel
theorem dX7_splitHotKeys_80 : decode cX7_splitHotKeys 80 = .ok (.iload_n 2, 1) := by decide +kernel
theorem dX7_splitHotKeys_81 : decode cX7_splitHotKeys 81 = .ok (.aload_n 0, 1) := by decide +kernel
theorem dX7_splitHotKeys_82 : decode cX7_splitHotKeys 82 = .ok (.getfield 150, 3) := by decide +kernel
theorem dX7_splitHotKeys_85 : decode cX7_splitHotKeys 85 = .ok (.iload_n 3, 1) := by decide +kernel
theorem dX7_splitHotKeys_86 : decode cX7_splitHotKeys 86 = .ok (.invokestatic 300, 3) := by decide +kernel
theorem dX7_splitHotKeys_89 : decode cX7_splitHotKeys 89 = .ok (.invokevirtual 160, 3) := by decide +kernel
theorem dX7_splitHotKeys_92 : decode cX7_splitHotKeys 92 = .ok (.aload_n 0, 1) := by decide +kernel
theorem dX7_splitHotKeys_93 : decode cX7_splitHotKeys 93 = .ok (.dup, 1) := by decide +kernel
theorem dX7_splitHotKeys_94 : decode cX7_splitHotKeys 94 = .ok (.getfield 255, 3) := by decide +kernel
theorem dX7_splitHotKeys_97 : decode cX7_splitHotKeys 97 = .ok (.iconst 1, 1) := by decide +kernel
theorem dX7_splitHotKeys_98 : decode cX7_splitHotKeys 98 = .ok (.iadd, 1) := by decide +kernel
theorem dX7_splitHotKeys_99 : decode cX7_splitHotKeys 99 = .ok (.putfield 255, 3) := by decide +kernel
theorem dX7_splitHotKeys_102 : decode cX7_splitHotKeys 102 = .ok (.goto 13, 3) := by decide +kernel
theorem dX7_splitHotKeys_105 : decode cX7_splitHotKeys 105 = .ok (.aload_n 0, 1) := by decide +kernel
theorem dX7_splitHotKeys_106 : decode cX7_splitHotKeys 106 = .ok (.dup, 1) := by decide +kernel
theorem dX7_splitHotKeys_107 : decode cX7_splitHotKeys 107 = .ok (.getfield 258, 3) := by decide +kernel
theorem dX7_splitHotKeys_110 : decode cX7_splitHotKeys 110 = .ok (.iconst 1, 1) := by decide +kernel
theorem dX7_splitHotKeys_111 : decode cX7_splitHotKeys 111 = .ok (.iadd, 1) := by decide +kernel
theorem dX7_splitHotKeys_112 : decode cX7_splitHotKeys 112 = .ok (.putfield 258, 3) := by decide +kernel
theorem dX7_splitHotKeys_115 : decode cX7_splitHotKeys 115 = .ok (.iinc 1 1, 3) := by decide +kernel
theorem dX7_splitHotKeys_118 : decode cX7_splitHotKeys 118 = .ok (.goto (-116), 3) := by decide +kernel
theorem dX7_splitHotKeys_121 : decode cX7_splitHotKeys 121 = .ok (.return_, 1) := by decide +kernel
theorem dX7_joinCoolKeys_0 : decode cX7_joinCoolKeys 0 = .ok (.iconst 0, 1) := by decide +kernel
theorem dX7_joinCoolKeys_1 : decode cX7_joinCoolKeys 1 = .ok (.istore_n 1, 1) := by decide +kernel
theorem dX7_joinCoolKeys_2 : decode cX7_joinCoolKeys 2 = .ok (.iload_n 1, 1) := by decide +kernel
theorem dX7_joinCoolKeys_3 : decode cX7_joinCoolKeys 3 = .ok (.bipush 100, 2) := by decide +kernel
theorem dX7_joinCoolKeys_5 : decode cX7_joinCoolKeys 5 = .ok (.if_icmp .ge 59, 3) := by decide +kernel
theorem dX7_joinCoolKeys_8 : decode cX7_joinCoolKeys 8 = .ok (.aload_n 0, 1) := by decide +kernel
theorem dX7_joinCoolKeys_9 : decode cX7_joinCoolKeys 9 = .ok (.getfield 21, 3) := by decide +kernel
theorem dX7_joinCoolKeys_12 : decode cX7_joinCoolKeys 12 = .ok (.iload_n 1, 1) := by decide +kernel
theorem dX7_joinCoolKeys_13 : decode cX7_joinCoolKeys 13 = .ok (.invokevirtual 153, 3) := by decide +kernel
theorem dX7_joinCoolKeys_16 : decode cX7_joinCoolKeys 16 = .ok (.ifCond .eq 42, 3) := by decide +kernel
theorem dX7_joinCoolKeys_19 : decode cX7_joinCoolKeys 19 = .ok (.aload_n 0, 1) := by decide +kernel
theorem dX7_joinCoolKeys_20 : decode cX7_joinCoolKeys 20 = .ok (.getfield 28, 3) := by decide +kernel
theorem dX7_joinCoolKeys_23 : decode cX7_joinCoolKeys 23 = .ok (.iload_n 1, 1) := by decide +kernel
theorem dX7_joinCoolKeys_24 : decode cX7_joinCoolKeys 24 = .ok (.invokevirtual 187, 3) := by decide +kernel
theorem dX7_joinCoolKeys_27 : decode cX7_joinCoolKeys 27 = .ok (.aload_n 0, 1) := by decide +kernel
theorem dX7_joinCoolKeys_28 : decode cX7_joinCoolKeys 28 = .ok (.getfield 184, 3) := by decide +kernel
theorem dX7_joinCoolKeys_31 : decode cX7_joinCoolKeys 31 = .ok (.aload_n 0, 1) := by decide +kernel
theorem dX7_joinCoolKeys_32 : decode cX7_joinCoolKeys 32 = .ok (.getfield 281, 3) := by decide +kernel
theorem dX7_joinCoolKeys_35 : decode cX7_joinCoolKeys 35 = .ok (.isub, 1) := by decide +kernel
theorem dX7_joinCoolKeys_36 : decode cX7_joinCoolKeys 36 = .ok (.if_icmp .ge 22, 3) := by decide +kernel
theorem dX7_joinCoolKeys_39 : decode cX7_joinCoolKeys 39 = .ok (.aload_n 0, 1) := by decide +kernel
theorem dX7_joinCoolKeys_40 : decode cX7_joinCoolKeys 40 = .ok (.getfield 21, 3) := by decide +kernel
theorem dX7_joinCoolKeys_43 : decode cX7_joinCoolKeys 43 = .ok (.iload_n 1, 1) := by decide +kernel
theorem dX7_joinCoolKeys_44 : decode cX7_joinCoolKeys 44 = .ok (.invokevirtual 163, 3) := by decide +kernel
theorem dX7_joinCoolKeys_47 : decode cX7_joinCoolKeys 47 = .ok (.pop, 1) := by decide +kernel
theorem dX7_joinCoolKeys_48 : decode cX7_joinCoolKeys 48 = .ok (.aload_n 0, 1) := by decide +kernel
theorem dX7_joinCoolKeys_49 : decode cX7_joinCoolKeys 49 = .ok (.dup, 1) := by decide +kernel
theorem dX7_joinCoolKeys_50 : decode cX7_joinCoolKeys 50 = .ok (.getfield 255, 3) := by decide +kernel
theorem dX7_joinCoolKeys_53 : decode cX7_joinCoolKeys 53 = .ok (.iconst 1, 1) := by decide +kernel
theorem dX7_joinCoolKeys_54 : decode cX7_joinCoolKeys 54 = .ok (.iadd, 1) := by decide +kernel
theorem dX7_joinCoolKeys_55 : decode cX7_joinCoolKeys 55 = .ok (.putfield 255, 3) := by decide +kernel
theorem dX7_joinCoolKeys_58 : decode cX7_joinCoolKeys 58 = .ok (.iinc 1 1, 3) := by decide +kernel
theorem dX7_joinCoolKeys_61 : decode cX7_joinCoolKeys 61 = .ok (.goto (-59), 3) := by decide +kernel
theorem dX7_joinCoolKeys_64 : decode cX7_joinCoolKeys 64 = .ok (.return_, 1) := by decide +kernel
theorem dX7_ring_0 : decode cX7_ring 0 = .ok (.aload_n 0, 1) := by decide +kernel
theorem dX7_ring_1 : decode cX7_ring 1 = .ok (.getfield 49, 3) := by decide +kernel
theorem dX7_ring_4 : decode cX7_ring 4 = .ok (.iload_n 1, 1) := by decide +kernel
theorem dX7_ring_5 : decode cX7_ring 5 = .ok (.iload_n 2, 1) := by decide +kernel
theorem dX7_ring_6 : decode cX7_ring 6 = .ok (.invokevirtual 305, 3) := by decide +kernel
theorem dX7_ring_9 : decode cX7_ring 9 = .ok (.istore_n 3, 1) := by decide +kernel
theorem dX7_ring_10 : decode cX7_ring 10 = .ok (.iconst 0, 1) := by decide +kernel
theorem dX7_ring_11 : decode cX7_ring 11 = .ok (.istore 4, 2) := by decide +kernel
theorem dX7_ring_13 : decode cX7_ring 13 = .ok (.iload 4, 2) := by decide +kernel
theorem dX7_ring_15 : decode cX7_ring 15 = .ok (.aload_n 0, 1) := by decide +kernel
theorem dX7_ring_16 : decode cX7_ring 16 = .ok (.getfield 12, 3) := by decide +kernel
theorem dX7_ring_19 : decode cX7_ring 19 = .ok (.getfield 88, 3) := by decide +kernel
theorem dX7_ring_22 : decode cX7_ring 22 = .ok (.if_icmp .ge 29, 3) := by decide +kernel
theorem dX7_ring_25 : decode cX7_ring 25 = .ok (.aload_n 0, 1) := by decide +kernel
theorem dX7_ring_26 : decode cX7_ring 26 = .ok (.getfield 49, 3) := by decide +kernel
theorem dX7_ring_29 : decode cX7_ring 29 = .ok (.iload_n 3, 1) := by decide +kernel
theorem dX7_ring_30 : decode cX7_ring 30 = .ok (.iload 4, 2) := by decide +kernel
theorem dX7_ring_32 : decode cX7_ring 32 = .ok (.aload_n 0, 1) := by decide +kernel
theorem dX7_ring_33 : decode cX7_ring 33 = .ok (.getfield 21, 3) := by decide +kernel
theorem dX7_ring_36 : decode cX7_ring 36 = .ok (.iload_n 1, 1) := by decide +kernel
theorem dX7_ring_37 : decode cX7_ring 37 = .ok (.iload 4, 2) := by decide +kernel
theorem dX7_ring_39 : decode cX7_ring 39 = .ok (.invokevirtual 138, 3) := by decide +kernel
theorem dX7_ring_42 : decode cX7_ring 42 = .ok (.invokevirtual 308, 3) := by decide +kernel
theorem dX7_ring_45 : decode cX7_ring 45 = .ok (.iinc 4 1, 3) := by decide +kernel
theorem dX7_ring_48 : decode cX7_ring 48 = .ok (.goto (-35), 3) := by decide +kernel
theorem dX7_ring_51 : decode cX7_ring 51 = .ok (.aload_n 0, 1) := by decide +kernel
theorem dX7_ring_52 : decode cX7_ring 52 = .ok (.getfield 21, 3) := by decide +kernel
theorem dX7_ring_55 : decode cX7_ring 55 = .ok (.iload_n 1, 1) := by decide +kernel
theorem dX7_ring_56 : decode cX7_ring 56 = .ok (.invokevirtual 312, 3) := by decide +kernel
theorem dX7_ring_59 : decode cX7_ring 59 = .ok (.return_, 1) := by decide +kernel
