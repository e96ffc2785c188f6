theorem dX1_init_0 : decode cX1_init 0 = .ok (.aload_n 0, 1) := by decide +kernel
theorem dX1_init_1 : decode cX1_init 1 = .ok (.invokespecial 3, 3) := by decide +kernel
theorem dX1_init_4 : decode cX1_init 4 = .ok (.aload_n 0, 1) := by decide +kernel
theorem dX1_init_5 : decode cX1_init 5 = .ok (.bipush 6, 2) := by decide +kernel
theorem dX1_init_7 : decode cX1_init 7 = .ok (.newarray .int, 2) := by decide +kernel
theorem dX1_init_9 : decode cX1_init 9 = .ok (.putfield 9, 3) := by decide +kernel
theorem dX1_init_12 : decode cX1_init 12 = .ok (.aload_n 0, 1) := by decide +kernel
theorem dX1_init_13 : decode cX1_init 13 = .ok (.bipush 6, 2) := by decide +kernel
theorem dX1_init_15 : decode cX1_init 15 = .ok (.newarray .boolean, 2) := by decide +kernel
theorem dX1_init_17 : decode cX1_init 17 = .ok (.putfield 15, 3) := by decide +kernel
theorem dX1_init_20 : decode cX1_init 20 = .ok (.return_, 1) := by decide +kernel
theorem dX1_add_0 : decode cX1_add 0 = .ok (.aload_n 0, 1) := by decide +kernel
theorem dX1_add_1 : decode cX1_add 1 = .ok (.getfield 19, 3) := by decide +kernel
theorem dX1_add_4 : decode cX1_add 4 = .ok (.istore_n 3, 1) := by decide +kernel
theorem dX1_add_5 : decode cX1_add 5 = .ok (.aload_n 0, 1) := by decide +kernel
theorem dX1_add_6 : decode cX1_add 6 = .ok (.getfield 9, 3) := by decide +kernel
theorem dX1_add_9 : decode cX1_add 9 = .ok (.iload_n 3, 1) := by decide +kernel
theorem dX1_add_10 : decode cX1_add 10 = .ok (.iload_n 1, 1) := by decide +kernel
theorem dX1_add_11 : decode cX1_add 11 = .ok (.iastore, 1) := by decide +kernel
theorem dX1_add_12 : decode cX1_add 12 = .ok (.aload_n 0, 1) := by decide +kernel
theorem dX1_add_13 : decode cX1_add 13 = .ok (.getfield 15, 3) := by decide +kernel
theorem dX1_add_16 : decode cX1_add 16 = .ok (.iload_n 3, 1) := by decide +kernel
theorem dX1_add_17 : decode cX1_add 17 = .ok (.iload_n 2, 1) := by decide +kernel
theorem dX1_add_18 : decode cX1_add 18 = .ok (.bastore, 1) := by decide +kernel
theorem dX1_add_19 : decode cX1_add 19 = .ok (.aload_n 0, 1) := by decide +kernel
theorem dX1_add_20 : decode cX1_add 20 = .ok (.dup, 1) := by decide +kernel
theorem dX1_add_21 : decode cX1_add 21 = .ok (.getfield 19, 3) := by decide +kernel
theorem dX1_add_24 : decode cX1_add 24 = .ok (.iconst 1, 1) := by decide +kernel
theorem dX1_add_25 : decode cX1_add 25 = .ok (.iadd, 1) := by decide +kernel
theorem dX1_add_26 : decode cX1_add 26 = .ok (.putfield 19, 3) := by decide +kernel
theorem dX1_add_29 : decode cX1_add 29 = .ok (.iload_n 3, 1) := by decide +kernel
theorem dX1_add_30 : decode cX1_add 30 = .ok (.ireturn, 1) := by decide +kernel
theorem dX1_allCanBeJoined_0 : decode cX1_allCanBeJoined 0 = .ok (.iconst 0, 1) := by decide +kernel
theorem dX1_allCanBeJoined_1 : decode cX1_allCanBeJoined 1 = .ok (.istore_n 1, 1) := by decide +kernel
theorem dX1_allCanBeJoined_2 : decode cX1_allCanBeJoined 2 = .ok (.iload_n 1, 1) := by decide +kernel
theorem dX1_allCanBeJoined_3 : decode cX1_allCanBeJoined 3 = .ok (.aload_n 0, 1) := by decide +kernel
theorem dX1_allCanBeJoined_4 : decode cX1_allCanBeJoined 4 = .ok (.getfield 19, 3) := by decide +kernel
theorem dX1_allCanBeJoined_7 : decode cX1_allCanBeJoined 7 = .ok (.if_icmp .ge 42, 3) := by decide +kernel
theorem dX1_allCanBeJoined_10 : decode cX1_allCanBeJoined 10 = .ok (.aload_n 0, 1) := by decide +kernel
theorem dX1_allCanBeJoined_11 : decode cX1_allCanBeJoined 11 = .ok (.getfield 15, 3) := by decide +kernel
theorem dX1_allCanBeJoined_14 : decode cX1_allCanBeJoined 14 = .ok (.iload_n 1, 1) := by decide +kernel
theorem dX1_allCanBeJoined_15 : decode cX1_allCanBeJoined 15 = .ok (.baload, 1) := by decide +kernel
theorem dX1_allCanBeJoined_16 : decode cX1_allCanBeJoined 16 = .ok (.ifCond .eq 25, 3) := by decide +kernel
theorem dX1_allCanBeJoined_19 : decode cX1_allCanBeJoined 19 = .ok (.aload_n 0, 1) := by decide +kernel
theorem dX1_allCanBeJoined_20 : decode cX1_allCanBeJoined 20 = .ok (.getfield 9, 3) := by decide +kernel
theorem dX1_allCanBeJoined_23 : decode cX1_allCanBeJoined 23 = .ok (.iload_n 1, 1) := by decide +kernel
theorem dX1_allCanBeJoined_24 : decode cX1_allCanBeJoined 24 = .ok (.iaload, 1) := by decide +kernel
theorem dX1_allCanBeJoined_25 : decode cX1_allCanBeJoined 25 = .ok (.bipush 6, 2) := by decide +kernel
theorem dX1_allCanBeJoined_27 : decode cX1_allCanBeJoined 27 = .ok (.if_icmp .eq 14, 3) := by decide +kernel
theorem dX1_allCanBeJoined_30 : decode cX1_allCanBeJoined 30 = .ok (.aload_n 0, 1) := by decide +kernel
theorem dX1_allCanBeJoined_31 : decode cX1_allCanBeJoined 31 = .ok (.getfield 9, 3) := by decide +kernel
theorem dX1_allCanBeJoined_34 : decode cX1_allCanBeJoined 34 = .ok (.iload_n 1, 1) := by decide +kernel
theorem dX1_allCanBeJoined_35 : decode cX1_allCanBeJoined 35 = .ok (.iaload, 1) := by decide +kernel
theorem dX1_allCanBeJoined_36 : decode cX1_allCanBeJoined 36 = .ok (.bipush 7, 2) := by decide +kernel
theorem dX1_allCanBeJoined_38 : decode cX1_allCanBeJoined 38 = .ok (.if_icmp .ne 5, 3) := by decide +kernel
theorem dX1_allCanBeJoined_41 : decode cX1_allCanBeJoined 41 = .ok (.iconst 0, 1) := by decide +kernel
theorem dX1_allCanBeJoined_42 : decode cX1_allCanBeJoined 42 = .ok (.ireturn, 1) := by decide +kernel
theorem dX1_allCanBeJoined_43 : decode cX1_allCanBeJoined 43 = .ok (.iinc 1 1, 3) := by decide +kernel
theorem dX1_allCanBeJoined_46 : decode cX1_allCanBeJoined 46 = .ok (.goto (-44), 3) := by decide +kernel
theorem dX1_allCanBeJoined_49 : decode cX1_allCanBeJoined 49 = .ok (.iconst 1, 1) := by decide +kernel
theorem dX1_allCanBeJoined_50 : decode cX1_allCanBeJoined 50 = .ok (.ireturn, 1) := by decide +kernel
theorem dX1_emptyState_0 : decode cX1_emptyState 0 = .ok (.aload_n 0, 1) := by decide +kernel
theorem dX1_emptyState_1 : decode cX1_emptyState 1 = .ok (.getfield 9, 3) := by decide +kernel
theorem dX1_emptyState_4 : decode cX1_emptyState 4 = .ok (.iload_n 1, 1) := by decide +kernel
theorem dX1_emptyState_5 : decode cX1_emptyState 5 = .ok (.iaload, 1) := by decide +kernel
theorem dX1_emptyState_6 : decode cX1_emptyState 6 = .ok (.tableswitch 42 2 6 #[34, 34, 42, 34, 38], 34) := by decide +kernel
theorem dX1_emptyState_40 : decode cX1_emptyState 40 = .ok (.ldc2_w 23, 3) := by decide +kernel
theorem dX1_emptyState_43 : decode cX1_emptyState 43 = .ok (.lreturn, 1) := by decide +kernel
theorem dX1_emptyState_44 : decode cX1_emptyState 44 = .ok (.ldc2_w 25, 3) := by decide +kernel
theorem dX1_emptyState_47 : decode cX1_emptyState 47 = .ok (.lreturn, 1) := by decide +kernel
theorem dX1_emptyState_48 : decode cX1_emptyState 48 = .ok (.lconst 0, 1) := by decide +kernel
theorem dX1_emptyState_49 : decode cX1_emptyState 49 = .ok (.lreturn, 1) := by decide +kernel
theorem dX1_folded_0 : decode cX1_folded 0 = .ok (.aload_n 0, 1) := by decide +kernel
theorem dX1_folded_1 : decode cX1_folded 1 = .ok (.getfield 9, 3) := by decide +kernel
theorem dX1_folded_4 : decode cX1_folded 4 = .ok (.iload_n 1, 1) := by decide +kernel
theorem dX1_folded_5 : decode cX1_folded 5 = .ok (.iaload, 1) := by decide +kernel
theorem dX1_folded_6 : decode cX1_folded 6 = .ok (.tableswitch 127 0 7 #[46, 50, 56, 78, 86, 96, 100, 110], 46) := by decide +kernel
theorem dX1_folded_52 : decode cX1_folded 52 = .ok (.lload_n 2, 1) := by decide +kernel
theorem dX1_folded_53 : decode cX1_folded 53 = .ok (.lconst 1, 1) := by decide +kernel
theorem dX1_folded_54 : decode cX1_folded 54 = .ok (.ladd, 1) := by decide +kernel
theorem dX1_folded_55 : decode cX1_folded 55 = .ok (.lreturn, 1) := by decide +kernel
theorem dX1_folded_56 : decode cX1_folded 56 = .ok (.lload_n 2, 1) := by decide +kernel
theorem dX1_folded_57 : decode cX1_folded 57 = .ok (.iload 4, 2) := by decide +kernel
theorem dX1_folded_59 : decode cX1_folded 59 = .ok (.i2l, 1) := by decide +kernel
theorem dX1_folded_60 : decode cX1_folded 60 = .ok (.ladd, 1) := by decide +kernel
theorem dX1_folded_61 : decode cX1_folded 61 = .ok (.lreturn, 1) := by decide +kernel
theorem dX1_folded_62 : decode cX1_folded 62 = .ok (.lload_n 2, 1) := by decide +kernel
theorem dX1_folded_63 : decode cX1_folded 63 = .ok (.ldc2_w 23, 3) := by decide +kernel
theorem dX1_folded_66 : decode cX1_folded 66 = .ok (.lcmp, 1) := by decide +kernel
theorem dX1_folded_67 : decode cX1_folded 67 = .ok (.ifCond .ne 9, 3) := by decide +kernel
theorem dX1_folded_70 : decode cX1_folded 70 = .ok (.iload 4, 2) := by decide +kernel
theorem dX1_folded_72 : decode cX1_folded 72 = .ok (.i2l, 1) := by decide +kernel
theorem dX1_folded_73 : decode cX1_folded 73 = .ok (.goto 10, 3) := by decide +kernel
theorem dX1_folded_76 : decode cX1_folded 76 = .ok (.lload_n 2, 1) := by decide +kernel
theorem dX1_folded_77 : decode cX1_folded 77 = .ok (.iload 4, 2) := by decide +kernel
theorem dX1_folded_79 : decode cX1_folded 79 = .ok (.i2l, 1) := by decide +kernel
theorem dX1_folded_80 : decode cX1_folded 80 = .ok (.invokestatic 27, 3) := by decide +kernel
theorem dX1_folded_83 : decode cX1_folded 83 = .ok (.lreturn, 1) := by decide +kernel
theorem dX1_folded_84 : decode cX1_folded 84 = .ok (.lload_n 2, 1) := by decide +kernel
theorem dX1_folded_85 : decode cX1_folded 85 = .ok (.iload 4, 2) := by decide +kernel
theorem dX1_folded_87 : decode cX1_folded 87 = .ok (.i2l, 1) := by decide +kernel
theorem dX1_folded_88 : decode cX1_folded 88 = .ok (.invokestatic 33, 3) := by decide +kernel
theorem dX1_folded_91 : decode cX1_folded 91 = .ok (.lreturn, 1) := by decide +kernel
theorem dX1_folded_92 : decode cX1_folded 92 = .ok (.lload_n 2, 1) := by decide +kernel
theorem dX1_folded_93 : decode cX1_folded 93 = .ok (.lconst 1, 1) := by decide +kernel
theorem dX1_folded_94 : decode cX1_folded 94 = .ok (.iload 4, 2) := by decide +kernel
theorem dX1_folded_96 : decode cX1_folded 96 = .ok (.bipush 15, 2) := by decide +kernel
theorem dX1_folded_98 : decode cX1_folded 98 = .ok (.iand, 1) := by decide +kernel
theorem dX1_folded_99 : decode cX1_folded 99 = .ok (.lshl, 1) := by decide +kernel
theorem dX1_folded_100 : decode cX1_folded 100 = .ok (.lor, 1) := by decide +kernel
theorem dX1_folded_101 : decode cX1_folded 101 = .ok (.lreturn, 1) := by decide +kernel
theorem dX1_folded_102 : decode cX1_folded 102 = .ok (.iload 4, 2) := by decide +kernel
theorem dX1_folded_104 : decode cX1_folded 104 = .ok (.i2l, 1) := by decide +kernel
theorem dX1_folded_105 : decode cX1_folded 105 = .ok (.lreturn, 1) := by decide +kernel
theorem dX1_folded_106 : decode cX1_folded 106 = .ok (.bipush 31, 2) := by decide +kernel
theorem dX1_folded_108 : decode cX1_folded 108 = .ok (.lload_n 2, 1) := by decide +kernel
theorem dX1_folded_109 : decode cX1_folded 109 = .ok (.l2i, 1) := by decide +kernel
theorem dX1_folded_110 : decode cX1_folded 110 = .ok (.imul, 1) := by decide +kernel
theorem dX1_folded_111 : decode cX1_folded 111 = .ok (.iload 4, 2) := by decide +kernel
theorem dX1_folded_113 : decode cX1_folded 113 = .ok (.iadd, 1) := by decide +kernel
theorem dX1_folded_114 : decode cX1_folded 114 = .ok (.i2l, 1) := by decide +kernel
theorem dX1_folded_115 : decode cX1_folded 115 = .ok (.lreturn, 1) := by decide +kernel
theorem dX1_folded_116 : decode cX1_folded 116 = .ok (.iload 4, 2) := by decide +kernel
theorem dX1_folded_118 : decode cX1_folded 118 = .ok (.i2l, 1) := by decide +kernel
theorem dX1_folded_119 : decode cX1_folded 119 = .ok (.lload 5, 2) := by decide +kernel
theorem dX1_folded_121 : decode cX1_folded 121 = .ok (.lcmp, 1) := by decide +kernel
theorem dX1_folded_122 : decode cX1_folded 122 = .ok (.ifCond .ge 9, 3) := by decide +kernel
theorem dX1_folded_125 : decode cX1_folded 125 = .ok (.lload_n 2, 1) := by decide +kernel
theorem dX1_folded_126 : decode cX1_folded 126 = .ok (.lconst 1, 1) := by decide +kernel
theorem dX1_folded_127 : decode cX1_folded 127 = .ok (.ladd, 1) := by decide +kernel
theorem dX1_folded_128 : decode cX1_folded 128 = .ok (.goto 4, 3) := by decide +kernel
theorem dX1_folded_131 : decode cX1_folded 131 = .ok (.lload_n 2, 1) := by decide +kernel
theorem dX1_folded_132 : decode cX1_folded 132 = .ok (.lreturn, 1) := by decide +kernel
theorem dX1_folded_133 : decode cX1_folded 133 = .ok (.lload_n 2, 1) := by decide +kernel
theorem dX1_folded_134 : decode cX1_folded 134 = .ok (.lreturn, 1) := by decide +kernel
theorem dX1_joined_0 : decode cX1_joined 0 = .ok (.aload_n 0, 1) := by decide +kernel
theorem dX1_joined_1 : decode cX1_joined 1 = .ok (.getfield 9, 3) := by decide +kernel
theorem dX1_joined_4 : decode cX1_joined 4 = .ok (.iload_n 1, 1) := by decide +kernel
theorem dX1_joined_5 : decode cX1_joined 5 = .ok (.iaload, 1) := by decide +kernel
theorem dX1_joined_6 : decode cX1_joined 6 = .ok (.tableswitch 100 0 5 #[38, 38, 43, 76, 83, 88], 38) := by decide +kernel
theorem dX1_joined_44 : decode cX1_joined 44 = .ok (.lload_n 2, 1) := by decide +kernel
theorem dX1_joined_45 : decode cX1_joined 45 = .ok (.lload 4, 2) := by decide +kernel
theorem dX1_joined_47 : decode cX1_joined 47 = .ok (.ladd, 1) := by decide +kernel
theorem dX1_joined_48 : decode cX1_joined 48 = .ok (.lreturn, 1) := by decide +kernel
theorem dX1_joined_49 : decode cX1_joined 49 = .ok (.lload_n 2, 1) := by decide +kernel
theorem dX1_joined_50 : decode cX1_joined 50 = .ok (.ldc2_w 23, 3) := by decide +kernel
theorem dX1_joined_53 : decode cX1_joined 53 = .ok (.lcmp, 1) := by decide +kernel
theorem dX1_joined_54 : decode cX1_joined 54 = .ok (.ifCond .eq 12, 3) := by decide +kernel
theorem dX1_joined_57 : decode cX1_joined 57 = .ok (.lload 4, 2) := by decide +kernel
theorem dX1_joined_59 : decode cX1_joined 59 = .ok (.ldc2_w 23, 3) := by decide +kernel
theorem dX1_joined_62 : decode cX1_joined 62 = .ok (.lcmp, 1) := by decide +kernel
theorem dX1_joined_63 : decode cX1_joined 63 = .ok (.ifCond .ne 12, 3) := by decide +kernel
theorem dX1_joined_66 : decode cX1_joined 66 = .ok (.lload_n 2, 1) := by decide +kernel
theorem dX1_joined_67 : decode cX1_joined 67 = .ok (.lload 4, 2) := by decide +kernel
theorem dX1_joined_69 : decode cX1_joined 69 = .ok (.invokestatic 33, 3) := by decide +kernel
theorem dX1_joined_72 : decode cX1_joined 72 = .ok (.goto 9, 3) := by decide +kernel
theorem dX1_joined_75 : decode cX1_joined 75 = .ok (.lload_n 2, 1) := by decide +kernel
theorem dX1_joined_76 : decode cX1_joined 76 = .ok (.lload 4, 2) := by decide +kernel
theorem dX1_joined_78 : decode cX1_joined 78 = .ok (.invokestatic 27, 3) := by decide +kernel
theorem dX1_joined_81 : decode cX1_joined 81 = .ok (.lreturn, 1) := by decide +kernel
theorem dX1_joined_82 : decode cX1_joined 82 = .ok (.lload_n 2, 1) := by decide +kernel
theorem dX1_joined_83 : decode cX1_joined 83 = .ok (.lload 4, 2) := by decide +kernel
theorem dX1_joined_85 : decode cX1_joined 85 = .ok (.invokestatic 33, 3) := by decide +kernel
theorem dX1_joined_88 : decode cX1_joined 88 = .ok (.lreturn, 1) := by decide +kernel
theorem dX1_joined_89 : decode cX1_joined 89 = .ok (.lload_n 2, 1) := by decide +kernel
theorem dX1_joined_90 : decode cX1_joined 90 = .ok (.lload 4, 2) := by decide +kernel
theorem dX1_joined_92 : decode cX1_joined 92 = .ok (.lor, 1) := by decide +kernel
theorem dX1_joined_93 : decode cX1_joined 93 = .ok (.lreturn, 1) := by decide +kernel
theorem dX1_joined_94 : decode cX1_joined 94 = .ok (.iload 6, 2) := by decide +kernel
theorem dX1_joined_96 : decode cX1_joined 96 = .ok (.ifCond .eq 8, 3) := by decide +kernel
theorem dX1_joined_99 : decode cX1_joined 99 = .ok (.lload 4, 2) := by decide +kernel
theorem dX1_joined_101 : decode cX1_joined 101 = .ok (.goto 4, 3) := by decide +kernel
theorem dX1_joined_104 : decode cX1_joined 104 = .ok (.lload_n 2, 1) := by decide +kernel
theorem dX1_joined_105 : decode cX1_joined 105 = .ok (.lreturn, 1) := by decide +kernel
theorem dX1_joined_106 : decode cX1_joined 106 = .ok (.lload_n 2, 1) := by decide +kernel
theorem dX1_joined_107 : decode cX1_joined 107 = .ok (.lreturn, 1) := by decide +kernel
