theorem dX8_due_9 : decode cX8_due 9 = .ok (.if_icmp .ge 64, 3) := by decide +kernel
theorem dX8_due_12 : decode cX8_due 12 = .ok (.aload_n 0, 1) := by decide +kernel
theorem dX8_due_13 : decode cX8_due 13 = .ok (.getfield 57, 3) := by decide +kernel
theorem dX8_due_16 : decode cX8_due 16 = .ok (.iload_n 3, 1) := by decide +kernel
theorem dX8_due_17 : decode cX8_due 17 = .ok (.iaload, 1) := by decide +kernel
theorem dX8_due_18 : decode cX8_due 18 = .ok (.iload_n 1, 1) := by decide +kernel
theorem dX8_due_19 : decode cX8_due 19 = .ok (.if_icmp .gt 34, 3) := by decide +kernel
theorem dX8_due_22 : decode cX8_due 22 = .ok (.iload_n 2, 1) := by decide +kernel
theorem dX8_due_23 : decode cX8_due 23 = .ok (.ifCond .lt 26, 3) := by decide +kernel
theorem dX8_due_26 : decode cX8_due 26 = .ok (.aload_n 0, 1) := by decide +kernel
theorem dX8_due_27 : decode cX8_due 27 = .ok (.getfield 57, 3) := by decide +kernel
theorem dX8_due_30 : decode cX8_due 30 = .ok (.iload_n 3, 1) := by decide +kernel
theorem dX8_due_31 : decode cX8_due 31 = .ok (.iaload, 1) := by decide +kernel
theorem dX8_due_32 : decode cX8_due 32 = .ok (.aload_n 0, 1) := by decide +kernel
theorem dX8_due_33 : decode cX8_due 33 = .ok (.getfield 57, 3) := by decide +kernel
theorem dX8_due_36 : decode cX8_due 36 = .ok (.iload_n 2, 1) := by decide +kernel
theorem dX8_due_37 : decode cX8_due 37 = .ok (.ifCond .ge 7, 3) := by decide +kernel
theorem dX8_due_40 : decode cX8_due 40 = .ok (.iconst 0, 1) := by decide +kernel
theorem dX8_due_41 : decode cX8_due 41 = .ok (.goto 4, 3) := by decide +kernel
theorem dX8_due_44 : decode cX8_due 44 = .ok (.iload_n 2, 1) := by decide +kernel
theorem dX8_due_45 : decode cX8_due 45 = .ok (.iaload, 1) := by decide +kernel
theorem dX8_due_46 : decode cX8_due 46 = .ok (.if_icmp .ge 7, 3) := by decide +kernel
theorem dX8_due_49 : decode cX8_due 49 = .ok (.iconst 1, 1) := by decide +kernel
theorem dX8_due_50 : decode cX8_due 50 = .ok (.goto 4, 3) := by decide +kernel
theorem dX8_due_53 : decode cX8_due 53 = .ok (.iconst 0, 1) := by decide +kernel
theorem dX8_due_54 : decode cX8_due 54 = .ok (.istore 4, 2) := by decide +kernel
theorem dX8_due_56 : decode cX8_due 56 = .ok (.iload 4, 2) := by decide +kernel
theorem dX8_due_58 : decode cX8_due 58 = .ok (.ifCond .eq 7, 3) := by decide +kernel
theorem dX8_due_61 : decode cX8_due 61 = .ok (.iload_n 3, 1) := by decide +kernel
theorem dX8_due_62 : decode cX8_due 62 = .ok (.goto 4, 3) := by decide +kernel
theorem dX8_due_65 : decode cX8_due 65 = .ok (.iload_n 2, 1) := by decide +kernel
theorem dX8_due_66 : decode cX8_due 66 = .ok (.istore_n 2, 1) := by decide +kernel
theorem dX8_due_67 : decode cX8_due 67 = .ok (.iinc 3 1, 3) := by decide +kernel
theorem dX8_due_70 : decode cX8_due 70 = .ok (.goto (-66), 3) := by decide +kernel
theorem dX8_due_73 : decode cX8_due 73 = .ok (.iload_n 2, 1) := by decide +kernel
theorem dX8_due_74 : decode cX8_due 74 = .ok (.ireturn, 1) := by decide +kernel
theorem dX8_ring_0 : decode cX8_ring 0 = .ok (.aload_n 0, 1) := by decide +kernel
theorem dX8_ring_1 : decode cX8_ring 1 = .ok (.getfield 54, 3) := by decide +kernel
theorem dX8_ring_4 : decode cX8_ring 4 = .ok (.iload_n 1, 1) := by decide +kernel
theorem dX8_ring_5 : decode cX8_ring 5 = .ok (.iaload, 1) := by decide +kernel
theorem dX8_ring_6 : decode cX8_ring 6 = .ok (.istore_n 2, 1) := by decide +kernel
theorem dX8_ring_7 : decode cX8_ring 7 = .ok (.aload_n 0, 1) := by decide +kernel
theorem dX8_ring_8 : decode cX8_ring 8 = .ok (.getfield 174, 3) := by decide +kernel
theorem dX8_ring_11 : decode cX8_ring 11 = .ok (.bipush 64, 2) := by decide +kernel
theorem dX8_ring_13 : decode cX8_ring 13 = .ok (.irem, 1) := by decide +kernel
theorem dX8_ring_14 : decode cX8_ring 14 = .ok (.istore_n 3, 1) := by decide +kernel
theorem dX8_ring_15 : decode cX8_ring 15 = .ok (.aload_n 0, 1) := by decide +kernel
theorem dX8_ring_16 : decode cX8_ring 16 = .ok (.getfield 60, 3) := by decide +kernel
theorem dX8_ring_19 : decode cX8_ring 19 = .ok (.iload_n 3, 1) := by decide +kernel
theorem dX8_ring_20 : decode cX8_ring 20 = .ok (.iload_n 2, 1) := by decide +kernel
theorem dX8_ring_21 : decode cX8_ring 21 = .ok (.iastore, 1) := by decide +kernel
theorem dX8_ring_22 : decode cX8_ring 22 = .ok (.aload_n 0, 1) := by decide +kernel
theorem dX8_ring_23 : decode cX8_ring 23 = .ok (.getfield 63, 3) := by decide +kernel
theorem dX8_ring_26 : decode cX8_ring 26 = .ok (.iload_n 3, 1) := by decide +kernel
theorem dX8_ring_27 : decode cX8_ring 27 = .ok (.aload_n 0, 1) := by decide +kernel
theorem dX8_ring_28 : decode cX8_ring 28 = .ok (.getfield 57, 3) := by decide +kernel
theorem dX8_ring_31 : decode cX8_ring 31 = .ok (.iload_n 1, 1) := by decide +kernel
theorem dX8_ring_32 : decode cX8_ring 32 = .ok (.iaload, 1) := by decide +kernel
theorem dX8_ring_33 : decode cX8_ring 33 = .ok (.iastore, 1) := by decide +kernel
theorem dX8_ring_34 : decode cX8_ring 34 = .ok (.iconst 0, 1) := by decide +kernel
theorem dX8_ring_35 : decode cX8_ring 35 = .ok (.istore 4, 2) := by decide +kernel
theorem dX8_ring_37 : decode cX8_ring 37 = .ok (.iload 4, 2) := by decide +kernel
theorem dX8_ring_39 : decode cX8_ring 39 = .ok (.bipush 6, 2) := by decide +kernel
theorem dX8_ring_41 : decode cX8_ring 41 = .ok (.if_icmp .ge 43, 3) := by decide +kernel
theorem dX8_ring_44 : decode cX8_ring 44 = .ok (.aload_n 0, 1) := by decide +kernel
theorem dX8_ring_45 : decode cX8_ring 45 = .ok (.getfield 66, 3) := by decide +kernel
theorem dX8_ring_48 : decode cX8_ring 48 = .ok (.bipush 6, 2) := by decide +kernel
theorem dX8_ring_50 : decode cX8_ring 50 = .ok (.iload_n 3, 1) := by decide +kernel
theorem dX8_ring_51 : decode cX8_ring 51 = .ok (.imul, 1) := by decide +kernel
theorem dX8_ring_52 : decode cX8_ring 52 = .ok (.iload 4, 2) := by decide +kernel
theorem dX8_ring_54 : decode cX8_ring 54 = .ok (.iadd, 1) := by decide +kernel
theorem dX8_ring_55 : decode cX8_ring 55 = .ok (.iload 4, 2) := by decide +kernel
theorem dX8_ring_57 : decode cX8_ring 57 = .ok (.aload_n 0, 1) := by decide +kernel
theorem dX8_ring_58 : decode cX8_ring 58 = .ok (.getfield 130, 3) := by decide +kernel
theorem dX8_ring_61 : decode cX8_ring 61 = .ok (.if_icmp .ge 13, 3) := by decide +kernel
theorem dX8_ring_64 : decode cX8_ring 64 = .ok (.aload_n 0, 1) := by decide +kernel
theorem dX8_ring_65 : decode cX8_ring 65 = .ok (.iload 4, 2) := by decide +kernel
theorem dX8_ring_67 : decode cX8_ring 67 = .ok (.iload_n 2, 1) := by decide +kernel
theorem dX8_ring_68 : decode cX8_ring 68 = .ok (.invokevirtual 268, 3) := by decide +kernel
theorem dX8_ring_71 : decode cX8_ring 71 = .ok (.goto 6, 3) := by decide +kernel
theorem dX8_ring_74 : decode cX8_ring 74 = .ok (.ldc2_w 185, 3) := by decide +kernel
theorem dX8_ring_77 : decode cX8_ring 77 = .ok (.lastore, 1) := by decide +kernel
theorem dX8_ring_78 : decode cX8_ring 78 = .ok (.iinc 4 1, 3) := by decide +kernel
theorem dX8_ring_81 : decode cX8_ring 81 = .ok (.goto (-44), 3) := by decide +kernel
theorem dX8_ring_84 : decode cX8_ring 84 = .ok (.aload_n 0, 1) := by decide +kernel
theorem dX8_ring_85 : decode cX8_ring 85 = .ok (.dup, 1) := by decide +kernel
theorem dX8_ring_86 : decode cX8_ring 86 = .ok (.getfield 174, 3) := by decide +kernel
theorem dX8_ring_89 : decode cX8_ring 89 = .ok (.iconst 1, 1) := by decide +kernel
theorem dX8_ring_90 : decode cX8_ring 90 = .ok (.iadd, 1) := by decide +kernel
theorem dX8_ring_91 : decode cX8_ring 91 = .ok (.putfield 174, 3) := by decide +kernel
theorem dX8_ring_94 : decode cX8_ring 94 = .ok (.iconst 0, 1) := by decide +kernel
theorem dX8_ring_95 : decode cX8_ring 95 = .ok (.istore 4, 2) := by decide +kernel
theorem dX8_ring_97 : decode cX8_ring 97 = .ok (.iload 4, 2) := by decide +kernel
theorem dX8_ring_99 : decode cX8_ring 99 = .ok (.aload_n 0, 1) := by decide +kernel
theorem dX8_ring_100 : decode cX8_ring 100 = .ok (.getfield 33, 3) := by decide +kernel
theorem dX8_ring_103 : decode cX8_ring 103 = .ok (.iload_n 2, 1) := by decide +kernel
theorem dX8_ring_104 : decode cX8_ring 104 = .ok (.iaload, 1) := by decide +kernel
theorem dX8_ring_105 : decode cX8_ring 105 = .ok (.if_icmp .ge 16, 3) := by decide +kernel
theorem dX8_ring_108 : decode cX8_ring 108 = .ok (.aload_n 0, 1) := by decide +kernel
theorem dX8_ring_109 : decode cX8_ring 109 = .ok (.iload 4, 2) := by decide +kernel
theorem dX8_ring_111 : decode cX8_ring 111 = .ok (.iload_n 2, 1) := by decide +kernel
theorem dX8_ring_112 : decode cX8_ring 112 = .ok (.invokevirtual 167, 3) := by decide +kernel
theorem dX8_ring_115 : decode cX8_ring 115 = .ok (.iinc 4 1, 3) := by decide +kernel
theorem dX8_ring_118 : decode cX8_ring 118 = .ok (.goto (-21), 3) := by decide +kernel
theorem dX8_ring_121 : decode cX8_ring 121 = .ok (.aload_n 0, 1) := by decide +kernel
theorem dX8_ring_122 : decode cX8_ring 122 = .ok (.dup, 1) := by decide +kernel
theorem dX8_ring_123 : decode cX8_ring 123 = .ok (.getfield 161, 3) := by decide +kernel
theorem dX8_ring_126 : decode cX8_ring 126 = .ok (.iconst 1, 1) := by decide +kernel
theorem dX8_ring_127 : decode cX8_ring 127 = .ok (.isub, 1) := by decide +kernel
theorem dX8_ring_128 : decode cX8_ring 128 = .ok (.putfield 161, 3) := by decide +kernel
theorem dX8_ring_131 : decode cX8_ring 131 = .ok (.iload_n 1, 1) := by decide +kernel
theorem dX8_ring_132 : decode cX8_ring 132 = .ok (.istore 4, 2) := by decide +kernel
theorem dX8_ring_134 : decode cX8_ring 134 = .ok (.iload 4, 2) := by decide +kernel
theorem dX8_ring_136 : decode cX8_ring 136 = .ok (.aload_n 0, 1) := by decide +kernel
theorem dX8_ring_137 : decode cX8_ring 137 = .ok (.getfield 161, 3) := by decide +kernel
theorem dX8_ring_140 : decode cX8_ring 140 = .ok (.if_icmp .ge 41, 3) := by decide +kernel
theorem dX8_ring_143 : decode cX8_ring 143 = .ok (.aload_n 0, 1) := by decide +kernel
theorem dX8_ring_144 : decode cX8_ring 144 = .ok (.getfield 54, 3) := by decide +kernel
theorem dX8_ring_147 : decode cX8_ring 147 = .ok (.iload 4, 2) := by decide +kernel
theorem dX8_ring_149 : decode cX8_ring 149 = .ok (.aload_n 0, 1) := by decide +kernel
theorem dX8_ring_150 : decode cX8_ring 150 = .ok (.getfield 54, 3) := by decide +kernel
theorem dX8_ring_153 : decode cX8_ring 153 = .ok (.iload 4, 2) := by decide +kernel
theorem dX8_ring_155 : decode cX8_ring 155 = .ok (.iconst 1, 1) := by decide +kernel
theorem dX8_ring_156 : decode cX8_ring 156 = .ok (.iadd, 1) := by decide +kernel
theorem dX8_ring_157 : decode cX8_ring 157 = .ok (.iaload, 1) := by decide +kernel
theorem dX8_ring_158 : decode cX8_ring 158 = .ok (.iastore, 1) := by decide +kernel
theorem dX8_ring_159 : decode cX8_ring 159 = .ok (.aload_n 0, 1) := by decide +kernel
theorem dX8_ring_160 : decode cX8_ring 160 = .ok (.getfield 57, 3) := by decide +kernel
theorem dX8_ring_163 : decode cX8_ring 163 = .ok (.iload 4, 2) := by decide +kernel
theorem dX8_ring_165 : decode cX8_ring 165 = .ok (.aload_n 0, 1) := by decide +kernel
theorem dX8_ring_166 : decode cX8_ring 166 = .ok (.getfield 57, 3) := by decide +kernel
theorem dX8_ring_169 : decode cX8_ring 169 = .ok (.iload 4, 2) := by decide +kernel
theorem dX8_ring_171 : decode cX8_ring 171 = .ok (.iconst 1, 1) := by decide +kernel
theorem dX8_ring_172 : decode cX8_ring 172 = .ok (.iadd, 1) := by decide +kernel
theorem dX8_ring_173 : decode cX8_ring 173 = .ok (.iaload, 1) := by decide +kernel
theorem dX8_ring_174 : decode cX8_ring 174 = .ok (.iastore, 1) := by decide +kernel
theorem dX8_ring_175 : decode cX8_ring 175 = .ok (.iinc 4 1, 3) := by decide +kernel
theorem dX8_ring_178 : decode cX8_ring 178 = .ok (.goto (-44), 3) := by decide +kernel
theorem dX8_ring_181 : decode cX8_ring 181 = .ok (.return_, 1) := by decide +kernel
theorem dX8_tick_0 : decode cX8_tick 0 = .ok (.iload_n 1, 1) := by decide +kernel
theorem dX8_tick_1 : decode cX8_tick 1 = .ok (.aload_n 0, 1) := by decide +kernel
theorem dX8_tick_2 : decode cX8_tick 2 = .ok (.getfield 151, 3) := by decide +kernel
theorem dX8_tick_5 : decode cX8_tick 5 = .ok (.if_icmp .lt 10, 3) := by decide +kernel
theorem dX8_tick_8 : decode cX8_tick 8 = .ok (.iload_n 1, 1) := by decide +kernel
theorem dX8_tick_9 : decode cX8_tick 9 = .ok (.ldc_w 272, 3) := by decide +kernel
theorem dX8_tick_12 : decode cX8_tick 12 = .ok (.if_icmp .le 6, 3) := by decide +kernel
theorem dX8_tick_15 : decode cX8_tick 15 = .ok (.bipush (-102), 2) := by decide +kernel
theorem dX8_tick_17 : decode cX8_tick 17 = .ok (.ireturn, 1) := by decide +kernel
theorem dX8_tick_18 : decode cX8_tick 18 = .ok (.iconst 0, 1) := by decide +kernel
theorem dX8_tick_19 : decode cX8_tick 19 = .ok (.istore_n 2, 1) := by decide +kernel
theorem dX8_tick_20 : decode cX8_tick 20 = .ok (.aload_n 0, 1) := by decide +kernel
theorem dX8_tick_21 : decode cX8_tick 21 = .ok (.iload_n 1, 1) := by decide +kernel
theorem dX8_tick_22 : decode cX8_tick 22 = .ok (.invokevirtual 273, 3) := by decide +kernel
theorem dX8_tick_25 : decode cX8_tick 25 = .ok (.istore_n 3, 1) := by decide +kernel
theorem dX8_tick_26 : decode cX8_tick 26 = .ok (.iload_n 3, 1) := by decide +kernel
theorem dX8_tick_27 : decode cX8_tick 27 = .ok (.ifCond .lt 20, 3) := by decide +kernel
theorem dX8_tick_30 : decode cX8_tick 30 = .ok (.aload_n 0, 1) := by decide +kernel
theorem dX8_tick_31 : decode cX8_tick 31 = .ok (.iload_n 3, 1) := by decide +kernel
theorem dX8_tick_32 : decode cX8_tick 32 = .ok (.invokevirtual 276, 3) := by decide +kernel
theorem dX8_tick_35 : decode cX8_tick 35 = .ok (.iinc 2 1, 3) := by decide +kernel
theorem dX8_tick_38 : decode cX8_tick 38 = .ok (.aload_n 0, 1) := by decide +kernel
theorem dX8_tick_39 : decode cX8_tick 39 = .ok (.iload_n 1, 1) := by decide +kernel
theorem dX8_tick_40 : decode cX8_tick 40 = .ok (.invokevirtual 273, 3) := by decide +kernel
theorem dX8_tick_43 : decode cX8_tick 43 = .ok (.istore_n 3, 1) := by decide +kernel
theorem dX8_tick_44 : decode cX8_tick 44 = .ok (.goto (-18), 3) := by decide +kernel
theorem dX8_tick_47 : decode cX8_tick 47 = .ok (.aload_n 0, 1) := by decide +kernel
theorem dX8_tick_48 : decode cX8_tick 48 = .ok (.iload_n 1, 1) := by decide +kernel
theorem dX8_tick_49 : decode cX8_tick 49 = .ok (.putfield 151, 3) := by decide +kernel
theorem dX8_tick_52 : decode cX8_tick 52 = .ok (.iload_n 2, 1) := by decide +kernel
theorem dX8_tick_53 : decode cX8_tick 53 = .ok (.ireturn, 1) := by decide +kernel
theorem dX8_keptLogs_0 : decode cX8_keptLogs 0 = .ok (.aload_n 0, 1) := by decide +kernel
theorem dX8_keptLogs_1 : decode cX8_keptLogs 1 = .ok (.getfield 174, 3) := by decide +kernel
theorem dX8_keptLogs_4 : decode cX8_keptLogs 4 = .ok (.bipush 64, 2) := by decide +kernel
theorem dX8_keptLogs_6 : decode cX8_keptLogs 6 = .ok (.if_icmp .ge 10, 3) := by decide +kernel
theorem dX8_keptLogs_9 : decode cX8_keptLogs 9 = .ok (.aload_n 0, 1) := by decide +kernel
theorem dX8_keptLogs_10 : decode cX8_keptLogs 10 = .ok (.getfield 174, 3) := by decide +kernel
theorem dX8_keptLogs_13 : decode cX8_keptLogs 13 = .ok (.goto 5, 3) := by decide +kernel
theorem dX8_keptLogs_16 : decode cX8_keptLogs 16 = .ok (.bipush 64, 2) := by decide +kernel
theorem dX8_keptLogs_18 : decode cX8_keptLogs 18 = .ok (.ireturn, 1) := by decide +kernel
theorem dX8_log_0 : decode cX8_log 0 = .ok (.iload_n 1, 1) := by decide +kernel
theorem dX8_log_1 : decode cX8_log 1 = .ok (.i2l, 1) := by decide +kernel
theorem dX8_log_2 : decode cX8_log 2 = .ok (.lconst 0, 1) := by decide +kernel
theorem dX8_log_3 : decode cX8_log 3 = .ok (.aload_n 0, 1) := by decide +kernel
theorem dX8_log_4 : decode cX8_log 4 = .ok (.invokevirtual 279, 3) := by decide +kernel
theorem dX8_log_7 : decode cX8_log 7 = .ok (.iconst 1, 1) := by decide +kernel
theorem dX8_log_8 : decode cX8_log 8 = .ok (.isub, 1) := by decide +kernel
theorem dX8_log_9 : decode cX8_log 9 = .ok (.i2l, 1) := by decide +kernel
theorem dX8_log_10 : decode cX8_log 10 = .ok (.invokestatic 197, 3) := by decide +kernel
theorem dX8_log_13 : decode cX8_log 13 = .ok (.ifCond .eq 15, 3) := by decide +kernel
theorem dX8_log_16 : decode cX8_log 16 = .ok (.iload_n 2, 1) := by decide +kernel
theorem dX8_log_17 : decode cX8_log 17 = .ok (.i2l, 1) := by decide +kernel
theorem dX8_log_18 : decode cX8_log 18 = .ok (.lconst 0, 1) := by decide +kernel
theorem dX8_log_19 : decode cX8_log 19 = .ok (.ldc2_w 183, 3) := by decide +kernel
theorem dX8_log_22 : decode cX8_log 22 = .ok (.invokestatic 197, 3) := by decide +kernel
theorem dX8_log_25 : decode cX8_log 25 = .ok (.ifCond .ne 7, 3) := by decide +kernel
theorem dX8_log_28 : decode cX8_log 28 = .ok (.ldc2_w 185, 3) := by decide +kernel
theorem dX8_log_31 : decode cX8_log 31 = .ok (.lreturn, 1) := by decide +kernel
theorem dX8_log_32 : decode cX8_log 32 = .ok (.aload_n 0, 1) := by decide +kernel
theorem dX8_log_33 : decode cX8_log 33 = .ok (.getfield 174, 3) := by decide +kernel
theorem dX8_log_36 : decode cX8_log 36 = .ok (.iconst 1, 1) := by decide +kernel
theorem dX8_log_37 : decode cX8_log 37 = .ok (.isub, 1) := by decide +kernel
theorem dX8_log_38 : decode cX8_log 38 = .ok (.iload_n 1, 1) := by decide +kernel
theorem dX8_log_39 : decode cX8_log 39 = .ok (.isub, 1) := by decide +kernel
theorem dX8_log_40 : decode cX8_log 40 = .ok (.bipush 64, 2) := by decide +kernel
theorem dX8_log_42 : decode cX8_log 42 = .ok (.irem, 1) := by decide +kernel
theorem dX8_log_43 : decode cX8_log 43 = .ok (.istore_n 3, 1) := by decide +kernel
theorem dX8_log_44 : decode cX8_log 44 = .ok (.iload_n 2, 1) := by decide +kernel
theorem dX8_log_45 : decode cX8_log 45 = .ok (.ifCond .ne 13, 3) := by decide +kernel
theorem dX8_log_48 : decode cX8_log 48 = .ok (.aload_n 0, 1) := by decide +kernel
theorem dX8_log_49 : decode cX8_log 49 = .ok (.getfield 60, 3) := by decide +kernel
theorem dX8_log_52 : decode cX8_log 52 = .ok (.iload_n 3, 1) := by decide +kernel
theorem dX8_log_53 : decode cX8_log 53 = .ok (.iaload, 1) := by decide +kernel
theorem dX8_log_54 : decode cX8_log 54 = .ok (.i2l, 1) := by decide +kernel
theorem dX8_log_55 : decode cX8_log 55 = .ok (.goto 31, 3) := by decide +kernel
theorem dX8_log_58 : decode cX8_log 58 = .ok (.iload_n 2, 1) := by decide +kernel
theorem dX8_log_59 : decode cX8_log 59 = .ok (.iconst 1, 1) := by decide +kernel
theorem dX8_log_60 : decode cX8_log 60 = .ok (.if_icmp .ne 13, 3) := by decide +kernel
theorem dX8_log_63 : decode cX8_log 63 = .ok (.aload_n 0, 1) := by decide +kernel
theorem dX8_log_64 : decode cX8_log 64 = .ok (.getfield 63, 3) := by decide +kernel
theorem dX8_log_67 : decode cX8_log 67 = .ok (.iload_n 3, 1) := by decide +kernel
theorem dX8_log_68 : decode cX8_log 68 = .ok (.iaload, 1) := by decide +kernel
theorem dX8_log_69 : decode cX8_log 69 = .ok (.i2l, 1) := by decide +kernel
theorem dX8_log_70 : decode cX8_log 70 = .ok (.goto 16, 3) := by decide +kernel
theorem dX8_log_73 : decode cX8_log 73 = .ok (.aload_n 0, 1) := by decide +kernel
theorem dX8_log_74 : decode cX8_log 74 = .ok (.getfield 66, 3) := by decide +kernel
theorem dX8_log_77 : decode cX8_log 77 = .ok (.bipush 6, 2) := by decide +kernel
theorem dX8_log_79 : decode cX8_log 79 = .ok (.iload_n 3, 1) := by decide +kernel
theorem dX8_log_80 : decode cX8_log 80 = .ok (.imul, 1) := by decide +kernel
theorem dX8_log_81 : decode cX8_log 81 = .ok (.iload_n 2, 1) := by decide +kernel
theorem dX8_log_82 : decode cX8_log 82 = .ok (.iadd, 1) := by decide +kernel
theorem dX8_log_83 : decode cX8_log 83 = .ok (.iconst 2, 1) := by decide +kernel
theorem dX8_log_84 : decode cX8_log 84 = .ok (.isub, 1) := by decide +kernel
theorem dX8_log_85 : decode cX8_log 85 = .ok (.laload, 1) := by decide +kernel
theorem dX8_log_86 : decode cX8_log 86 = .ok (.lreturn, 1) := by decide +kernel
theorem dX8_mark_0 : decode cX8_mark 0 = .ok (.aload_n 0, 1) := by decide +kernel
theorem dX8_mark_1 : decode cX8_mark 1 = .ok (.getfield 164, 3) := by decide +kernel
theorem dX8_mark_4 : decode cX8_mark 4 = .ok (.iconst 4, 1) := by decide +kernel
theorem dX8_mark_5 : decode cX8_mark 5 = .ok (.if_icmp .ne 6, 3) := by decide +kernel
theorem dX8_mark_8 : decode cX8_mark 8 = .ok (.bipush (-104), 2) := by decide +kernel
theorem dX8_mark_10 : decode cX8_mark 10 = .ok (.ireturn, 1) := by decide +kernel
theorem dX8_mark_11 : decode cX8_mark 11 = .ok (.aload_n 0, 1) := by decide +kernel
theorem dX8_mark_12 : decode cX8_mark 12 = .ok (.getfield 164, 3) := by decide +kernel
theorem dX8_mark_15 : decode cX8_mark 15 = .ok (.istore_n 1, 1) := by decide +kernel
theorem dX8_mark_16 : decode cX8_mark 16 = .ok (.iconst 0, 1) := by decide +kernel
theorem dX8_mark_17 : decode cX8_mark 17 = .ok (.istore_n 2, 1) := by decide +kernel
theorem dX8_mark_18 : decode cX8_mark 18 = .ok (.iload_n 2, 1) := by decide +kernel
theorem dX8_mark_19 : decode cX8_mark 19 = .ok (.bipush 100, 2) := by decide +kernel
theorem dX8_mark_21 : decode cX8_mark 21 = .ok (.if_icmp .ge 82, 3) := by decide +kernel
theorem dX8_mark_24 : decode cX8_mark 24 = .ok (.iconst 0, 1) := by decide +kernel
theorem dX8_mark_25 : decode cX8_mark 25 = .ok (.istore_n 3, 1) := by decide +kernel
theorem dX8_mark_26 : decode cX8_mark 26 = .ok (.iload_n 3, 1) := by decide +kernel
theorem dX8_mark_27 : decode cX8_mark 27 = .ok (.aload_n 0, 1) := by decide +kernel
theorem dX8_mark_28 : decode cX8_mark 28 = .ok (.getfield 130, 3) := by decide +kernel
theorem dX8_mark_31 : decode cX8_mark 31 = .ok (.if_icmp .ge 32, 3) := by decide +kernel
theorem dX8_mark_34 : decode cX8_mark 34 = .ok (.aload_n 0, 1) := by decide +kernel
theorem dX8_mark_35 : decode cX8_mark 35 = .ok (.getfield 69, 3) := by decide +kernel
theorem dX8_mark_38 : decode cX8_mark 38 = .ok (.sipush 600, 3) := by decide +kernel
theorem dX8_mark_41 : decode cX8_mark 41 = .ok (.iload_n 1, 1) := by decide +kernel
theorem dX8_mark_42 : decode cX8_mark 42 = .ok (.imul, 1) := by decide +kernel
theorem dX8_mark_43 : decode cX8_mark 43 = .ok (.bipush 6, 2) := by decide +kernel
theorem dX8_mark_45 : decode cX8_mark 45 = .ok (.iload_n 2, 1) := by decide +kernel
theorem dX8_mark_46 : decode cX8_mark 46 = .ok (.imul, 1) := by decide +kernel
theorem dX8_mark_47 : decode cX8_mark 47 = .ok (.iadd, 1) := by decide +kernel
theorem dX8_mark_48 : decode cX8_mark 48 = .ok (.iload_n 3, 1) := by decide +kernel
theorem dX8_mark_49 : decode cX8_mark 49 = .ok (.iadd, 1) := by decide +kernel
theorem dX8_mark_50 : decode cX8_mark 50 = .ok (.aload_n 0, 1) := by decide +kernel
theorem dX8_mark_51 : decode cX8_mark 51 = .ok (.iload_n 3, 1) := by decide +kernel
theorem dX8_mark_52 : decode cX8_mark 52 = .ok (.iload_n 2, 1) := by decide +kernel
theorem dX8_mark_53 : decode cX8_mark 53 = .ok (.invokevirtual 268, 3) := by decide +kernel
theorem dX8_mark_56 : decode cX8_mark 56 = .ok (.lastore, 1) := by decide +kernel
theorem dX8_mark_57 : decode cX8_mark 57 = .ok (.iinc 3 1, 3) := by decide +kernel
theorem dX8_mark_60 : decode cX8_mark 60 = .ok (.goto (-34), 3) := by decide +kernel
theorem dX8_mark_63 : decode cX8_mark 63 = .ok (.aload_n 0, 1) := by decide +kernel
theorem dX8_mark_64 : decode cX8_mark 64 = .ok (.getfield 72, 3) := by decide +kernel
theorem dX8_mark_67 : decode cX8_mark 67 = .ok (.bipush 100, 2) := by decide +kernel
theorem dX8_mark_69 : decode cX8_mark 69 = .ok (.iload_n 1, 1) := by decide +kernel
theorem dX8_mark_70 : decode cX8_mark 70 = .ok (.imul, 1) := by decide +kernel
theorem dX8_mark_71 : decode cX8_mark 71 = .ok (.iload_n 2, 1) := by decide +kernel
theorem dX8_mark_72 : decode cX8_mark 72 = .ok (.iadd, 1) := by decide +kernel
theorem dX8_mark_73 : decode cX8_mark 73 = .ok (.aload_n 0, 1) := by decide +kernel
theorem dX8_mark_74 : decode cX8_mark 74 = .ok (.getfield 24, 3) := by decide +kernel
theorem dX8_mark_77 : decode cX8_mark 77 = .ok (.iload_n 2, 1) := by decide +kernel
theorem dX8_mark_78 : decode cX8_mark 78 = .ok (.iaload, 1) := by decide +kernel
theorem dX8_mark_79 : decode cX8_mark 79 = .ok (.iastore, 1) := by decide +kernel
theorem dX8_mark_80 : decode cX8_mark 80 = .ok (.aload_n 0, 1) := by decide +kernel
theorem dX8_mark_81 : decode cX8_mark 81 = .ok (.getfield 75, 3) := by decide +kernel
theorem dX8_mark_84 : decode cX8_mark 84 = .ok (.bipush 100, 2) := by decide +kernel
theorem dX8_mark_86 : decode cX8_mark 86 = .ok (.iload_n 1, 1) := by decide +kernel
theorem dX8_mark_87 : decode cX8_mark 87 = .ok (.imul, 1) := by decide +kernel
theorem dX8_mark_88 : decode cX8_mark 88 = .ok (.iload_n 2, 1) := by decide +kernel
theorem dX8_mark_89 : decode cX8_mark 89 = .ok (.iadd, 1) := by decide +kernel
theorem dX8_mark_90 : decode cX8_mark 90 = .ok (.aload_n 0, 1) := by decide +kernel
theorem dX8_mark_91 : decode cX8_mark 91 = .ok (.getfield 27, 3) := by decide +kernel
theorem dX8_mark_94 : decode cX8_mark 94 = .ok (.iload_n 2, 1) := by decide +kernel
theorem dX8_mark_95 : decode cX8_mark 95 = .ok (.baload, 1) := by decide +kernel
theorem dX8_mark_96 : decode cX8_mark 96 = .ok (.bastore, 1) := by decide +kernel
theorem dX8_mark_97 : decode cX8_mark 97 = .ok (.iinc 2 1, 3) := by decide +kernel
theorem dX8_mark_100 : decode cX8_mark 100 = .ok (.goto (-82), 3) := by decide +kernel
theorem dX8_mark_103 : decode cX8_mark 103 = .ok (.aload_n 0, 1) := by decide +kernel
theorem dX8_mark_104 : decode cX8_mark 104 = .ok (.getfield 78, 3) := by decide +kernel
theorem dX8_mark_107 : decode cX8_mark 107 = .ok (.iload_n 1, 1) := by decide +kernel
theorem dX8_mark_108 : decode cX8_mark 108 = .ok (.aload_n 0, 1) := by decide +kernel
theorem dX8_mark_109 : decode cX8_mark 109 = .ok (.getfield 158, 3) := by decide +kernel
theorem dX8_mark_112 : decode cX8_mark 112 = .ok (.iastore, 1) := by decide +kernel
theorem dX8_mark_113 : decode cX8_mark 113 = .ok (.iconst 0, 1) := by decide +kernel
theorem dX8_mark_114 : decode cX8_mark 114 = .ok (.istore_n 2, 1) := by decide +kernel
theorem dX8_mark_115 : decode cX8_mark 115 = .ok (.iload_n 2, 1) := by decide +kernel
theorem dX8_mark_116 : decode cX8_mark 116 = .ok (.aload_n 0, 1) := by decide +kernel
theorem dX8_mark_117 : decode cX8_mark 117 = .ok (.getfield 158, 3) := by decide +kernel
theorem dX8_mark_120 : decode cX8_mark 120 = .ok (.if_icmp .ge 43, 3) := by decide +kernel
theorem dX8_mark_123 : decode cX8_mark 123 = .ok (.aload_n 0, 1) := by decide +kernel
theorem dX8_mark_124 : decode cX8_mark 124 = .ok (.getfield 81, 3) := by decide +kernel
theorem dX8_mark_127 : decode cX8_mark 127 = .ok (.bipush 60, 2) := by decide +kernel
theorem dX8_mark_129 : decode cX8_mark 129 = .ok (.iload_n 1, 1) := by decide +kernel
theorem dX8_mark_130 : decode cX8_mark 130 = .ok (.imul, 1) := by decide +kernel
theorem dX8_mark_131 : decode cX8_mark 131 = .ok (.iload_n 2, 1) := by decide +kernel
theorem dX8_mark_132 : decode cX8_mark 132 = .ok (.iadd, 1) := by decide +kernel
theorem dX8_mark_133 : decode cX8_mark 133 = .ok (.aload_n 0, 1) := by decide +kernel
theorem dX8_mark_134 : decode cX8_mark 134 = .ok (.getfield 48, 3) := by decide +kernel
theorem dX8_mark_137 : decode cX8_mark 137 = .ok (.iload_n 2, 1) := by decide +kernel
theorem dX8_mark_138 : decode cX8_mark 138 = .ok (.iaload, 1) := by decide +kernel
theorem dX8_mark_139 : decode cX8_mark 139 = .ok (.iastore, 1) := by decide +kernel
theorem dX8_mark_140 : decode cX8_mark 140 = .ok (.aload_n 0, 1) := by decide +kernel
theorem dX8_mark_141 : decode cX8_mark 141 = .ok (.getfield 84, 3) := by decide +kernel
theorem dX8_mark_144 : decode cX8_mark 144 = .ok (.bipush 60, 2) := by decide +kernel
theorem dX8_mark_146 : decode cX8_mark 146 = .ok (.iload_n 1, 1) := by decide +kernel
theorem dX8_mark_147 : decode cX8_mark 147 = .ok (.imul, 1) := by decide +kernel
theorem dX8_mark_148 : decode cX8_mark 148 = .ok (.iload_n 2, 1) := by decide +kernel
theorem dX8_mark_149 : decode cX8_mark 149 = .ok (.iadd, 1) := by decide +kernel
theorem dX8_mark_150 : decode cX8_mark 150 = .ok (.aload_n 0, 1) := by decide +kernel
theorem dX8_mark_151 : decode cX8_mark 151 = .ok (.getfield 51, 3) := by decide +kernel
theorem dX8_mark_154 : decode cX8_mark 154 = .ok (.iload_n 2, 1) := by decide +kernel
theorem dX8_mark_155 : decode cX8_mark 155 = .ok (.iaload, 1) := by decide +kernel
theorem dX8_mark_156 : decode cX8_mark 156 = .ok (.iastore, 1) := by decide +kernel
theorem dX8_mark_157 : decode cX8_mark 157 = .ok (.iinc 2 1, 3) := by decide +kernel
theorem dX8_mark_160 : decode cX8_mark 160 = .ok (.goto (-45), 3) := by decide +kernel
theorem dX8_mark_163 : decode cX8_mark 163 = .ok (.aload_n 0, 1) := by decide +kernel
theorem dX8_mark_164 : decode cX8_mark 164 = .ok (.getfield 87, 3) := by decide +kernel
theorem dX8_mark_167 : decode cX8_mark 167 = .ok (.iload_n 1, 1) := by decide +kernel
theorem dX8_mark_168 : decode cX8_mark 168 = .ok (.aload_n 0, 1) := by decide +kernel
theorem dX8_mark_169 : decode cX8_mark 169 = .ok (.getfield 161, 3) := by decide +kernel
theorem dX8_mark_172 : decode cX8_mark 172 = .ok (.iastore, 1) := by decide +kernel
theorem dX8_mark_173 : decode cX8_mark 173 = .ok (.iconst 0, 1) := by decide +kernel
theorem dX8_mark_174 : decode cX8_mark 174 = .ok (.istore_n 2, 1) := by decide +kernel
theorem dX8_mark_175 : decode cX8_mark 175 = .ok (.iload_n 2, 1) := by decide +kernel
theorem dX8_mark_176 : decode cX8_mark 176 = .ok (.aload_n 0, 1) := by decide +kernel
theorem dX8_mark_177 : decode cX8_mark 177 = .ok (.getfield 161, 3) := by decide +kernel
theorem dX8_mark_180 : decode cX8_mark 180 = .ok (.if_icmp .ge 43, 3) := by decide +kernel
theorem dX8_mark_183 : decode cX8_mark 183 = .ok (.aload_n 0, 1) := by decide +kernel
theorem dX8_mark_184 : decode cX8_mark 184 = .ok (.getfield 90, 3) := by decide +kernel
theorem dX8_mark_187 : decode cX8_mark 187 = .ok (.bipush 40, 2) := by decide +kernel
theorem dX8_mark_189 : decode cX8_mark 189 = .ok (.iload_n 1, 1) := by decide +kernel
theorem dX8_mark_190 : decode cX8_mark 190 = .ok (.imul, 1) := by decide +kernel
theorem dX8_mark_191 : decode cX8_mark 191 = .ok (.iload_n 2, 1) := by decide +kernel
theorem dX8_mark_192 : decode cX8_mark 192 = .ok (.iadd, 1) := by decide +kernel
theorem dX8_mark_193 : decode cX8_mark 193 = .ok (.aload_n 0, 1) := by decide +kernel
theorem dX8_mark_194 : decode cX8_mark 194 = .ok (.getfield 54, 3) := by decide +kernel
theorem dX8_mark_197 : decode cX8_mark 197 = .ok (.iload_n 2, 1) := by decide +kernel
theorem dX8_mark_198 : decode cX8_mark 198 = .ok (.iaload, 1) := by decide +kernel
theorem dX8_mark_199 : decode cX8_mark 199 = .ok (.iastore, 1) := by decide +kernel
theorem dX8_mark_200 : decode cX8_mark 200 = .ok (.aload_n 0, 1) := by decide +kernel
theorem dX8_mark_201 : decode cX8_mark 201 = .ok (.getfield 93, 3) := by decide +kernel
theorem dX8_mark_204 : decode cX8_mark 204 = .ok (.bipush 40, 2) := by decide +kernel
theorem dX8_mark_206 : decode cX8_mark 206 = .ok (.iload_n 1, 1) := by decide +kernel
theorem dX8_mark_207 : decode cX8_mark 207 = .ok (.imul, 1) := by decide +kernel
theorem dX8_mark_208 : decode cX8_mark 208 = .ok (.iload_n 2, 1) := by decide +kernel
theorem dX8_mark_209 : decode cX8_mark 209 = .ok (.iadd, 1) := by decide +kernel
theorem dX8_mark_210 : decode cX8_mark 210 = .ok (.aload_n 0, 1) := by decide +kernel
theorem dX8_mark_211 : decode cX8_mark 211 = .ok (.getfield 57, 3) := by decide +kernel
theorem dX8_mark_214 : decode cX8_mark 214 = .ok (.iload_n 2, 1) := by decide +kernel
theorem dX8_mark_215 : decode cX8_mark 215 = .ok (.iaload, 1) := by decide +kernel
theorem dX8_mark_216 : decode cX8_mark 216 = .ok (.iastore, 1) := by decide +kernel
theorem dX8_mark_217 : decode cX8_mark 217 = .ok (.iinc 2 1, 3) := by decide +kernel
theorem dX8_mark_220 : decode cX8_mark 220 = .ok (.goto (-45), 3) := by decide +kernel
theorem dX8_mark_223 : decode cX8_mark 223 = .ok (.aload_n 0, 1) := by decide +kernel
theorem dX8_mark_224 : decode cX8_mark 224 = .ok (.getfield 96, 3) := by decide +kernel
theorem dX8_mark_227 : decode cX8_mark 227 = .ok (.iload_n 1, 1) := by decide +kernel
theorem dX8_mark_228 : decode cX8_mark 228 = .ok (.aload_n 0, 1) := by decide +kernel
theorem dX8_mark_229 : decode cX8_mark 229 = .ok (.getfield 151, 3) := by decide +kernel
theorem dX8_mark_232 : decode cX8_mark 232 = .ok (.iastore, 1) := by decide +kernel
theorem dX8_mark_233 : decode cX8_mark 233 = .ok (.aload_n 0, 1) := by decide +kernel
theorem dX8_mark_234 : decode cX8_mark 234 = .ok (.getfield 99, 3) := by decide +kernel
theorem dX8_mark_237 : decode cX8_mark 237 = .ok (.iload_n 1, 1) := by decide +kernel
theorem dX8_mark_238 : decode cX8_mark 238 = .ok (.aload_n 0, 1) := by decide +kernel
theorem dX8_mark_239 : decode cX8_mark 239 = .ok (.getfield 133, 3) := by decide +kernel
theorem dX8_mark_242 : decode cX8_mark 242 = .ok (.iastore, 1) := by decide +kernel
theorem dX8_mark_243 : decode cX8_mark 243 = .ok (.aload_n 0, 1) := by decide +kernel
theorem dX8_mark_244 : decode cX8_mark 244 = .ok (.getfield 102, 3) := by decide +kernel
theorem dX8_mark_247 : decode cX8_mark 247 = .ok (.iload_n 1, 1) := by decide +kernel
theorem dX8_mark_248 : decode cX8_mark 248 = .ok (.aload_n 0, 1) := by decide +kernel
theorem dX8_mark_249 : decode cX8_mark 249 = .ok (.getfield 145, 3) := by decide +kernel
theorem dX8_mark_252 : decode cX8_mark 252 = .ok (.iastore, 1) := by decide +kernel
theorem dX8_mark_253 : decode cX8_mark 253 = .ok (.aload_n 0, 1) := by decide +kernel
theorem dX8_mark_254 : decode cX8_mark 254 = .ok (.getfield 105, 3) := by decide +kernel
theorem dX8_mark_257 : decode cX8_mark 257 = .ok (.iload_n 1, 1) := by decide +kernel
theorem dX8_mark_258 : decode cX8_mark 258 = .ok (.aload_n 0, 1) := by decide +kernel
theorem dX8_mark_259 : decode cX8_mark 259 = .ok (.getfield 154, 3) := by decide +kernel
theorem dX8_mark_262 : decode cX8_mark 262 = .ok (.lastore, 1) := by decide +kernel
theorem dX8_mark_263 : decode cX8_mark 263 = .ok (.aload_n 0, 1) := by decide +kernel
theorem dX8_mark_264 : decode cX8_mark 264 = .ok (.dup, 1) := by decide +kernel
theorem dX8_mark_265 : decode cX8_mark 265 = .ok (.getfield 164, 3) := by decide +kernel
theorem dX8_mark_268 : decode cX8_mark 268 = .ok (.iconst 1, 1) := by decide +kernel
theorem dX8_mark_269 : decode cX8_mark 269 = .ok (.iadd, 1) := by decide +kernel
theorem dX8_mark_270 : decode cX8_mark 270 = .ok (.putfield 164, 3) := by decide +kernel
theorem dX8_mark_273 : decode cX8_mark 273 = .ok (.iload_n 1, 1) := by decide +kernel
theorem dX8_mark_274 : decode cX8_mark 274 = .ok (.ireturn, 1) := by decide +kernel
theorem dX8_restore_0 : decode cX8_restore 0 = .ok (.iload_n 1, 1) := by decide +kernel
theorem dX8_restore_1 : decode cX8_restore 1 = .ok (.i2l, 1) := by decide +kernel
theorem dX8_restore_2 : decode cX8_restore 2 = .ok (.lconst 0, 1) := by decide +kernel
theorem dX8_restore_3 : decode cX8_restore 3 = .ok (.aload_n 0, 1) := by decide +kernel
theorem dX8_restore_4 : decode cX8_restore 4 = .ok (.getfield 164, 3) := by decide +kernel
theorem dX8_restore_7 : decode cX8_restore 7 = .ok (.iconst 1, 1) := by decide +kernel
theorem dX8_restore_8 : decode cX8_restore 8 = .ok (.isub, 1) := by decide +kernel
theorem dX8_restore_9 : decode cX8_restore 9 = .ok (.i2l, 1) := by decide +kernel
theorem dX8_restore_10 : decode cX8_restore 10 = .ok (.invokestatic 197, 3) := by decide +kernel
theorem dX8_restore_13 : decode cX8_restore 13 = .ok (.ifCond .ne 6, 3) := by decide +kernel
theorem dX8_restore_16 : decode cX8_restore 16 = .ok (.bipush (-101), 2) := by decide +kernel
theorem dX8_restore_18 : decode cX8_restore 18 = .ok (.ireturn, 1) := by decide +kernel
theorem dX8_restore_19 : decode cX8_restore 19 = .ok (.iconst 0, 1) := by decide +kernel
theorem dX8_restore_20 : decode cX8_restore 20 = .ok (.istore_n 2, 1) := by decide +kernel
theorem dX8_restore_21 : decode cX8_restore 21 = .ok (.iload_n 2, 1) := by decide +kernel
theorem dX8_restore_22 : decode cX8_restore 22 = .ok (.bipush 100, 2) := by decide +kernel
theorem dX8_restore_24 : decode cX8_restore 24 = .ok (.if_icmp .ge 108, 3) := by decide +kernel
theorem dX8_restore_27 : decode cX8_restore 27 = .ok (.aload_n 0, 1) := by decide +kernel
theorem dX8_restore_28 : decode cX8_restore 28 = .ok (.getfield 33, 3) := by decide +kernel
theorem dX8_restore_31 : decode cX8_restore 31 = .ok (.iload_n 2, 1) := by decide +kernel
theorem dX8_restore_32 : decode cX8_restore 32 = .ok (.iconst 1, 1) := by decide +kernel
theorem dX8_restore_33 : decode cX8_restore 33 = .ok (.iastore, 1) := by decide +kernel
theorem dX8_restore_34 : decode cX8_restore 34 = .ok (.iconst 0, 1) := by decide +kernel
theorem dX8_restore_35 : decode cX8_restore 35 = .ok (.istore_n 3, 1) := by decide +kernel
theorem dX8_restore_36 : decode cX8_restore 36 = .ok (.iload_n 3, 1) := by decide +kernel
theorem dX8_restore_37 : decode cX8_restore 37 = .ok (.aload_n 0, 1) := by decide +kernel
theorem dX8_restore_38 : decode cX8_restore 38 = .ok (.getfield 130, 3) := by decide +kernel
theorem dX8_restore_41 : decode cX8_restore 41 = .ok (.if_icmp .ge 37, 3) := by decide +kernel
theorem dX8_restore_44 : decode cX8_restore 44 = .ok (.aload_n 0, 1) := by decide +kernel
theorem dX8_restore_45 : decode cX8_restore 45 = .ok (.getfield 17, 3) := by decide +kernel
theorem dX8_restore_48 : decode cX8_restore 48 = .ok (.bipush 6, 2) := by decide +kernel
theorem dX8_restore_50 : decode cX8_restore 50 = .ok (.iload_n 2, 1) := by decide +kernel
theorem dX8_restore_51 : decode cX8_restore 51 = .ok (.imul, 1) := by decide +kernel
theorem dX8_restore_52 : decode cX8_restore 52 = .ok (.iload_n 3, 1) := by decide +kernel
theorem dX8_restore_53 : decode cX8_restore 53 = .ok (.iadd, 1) := by decide +kernel
theorem dX8_restore_54 : decode cX8_restore 54 = .ok (.aload_n 0, 1) := by decide +kernel
theorem dX8_restore_55 : decode cX8_restore 55 = .ok (.getfield 69, 3) := by decide +kernel
theorem dX8_restore_58 : decode cX8_restore 58 = .ok (.sipush 600, 3) := by decide +kernel
theorem dX8_restore_61 : decode cX8_restore 61 = .ok (.iload_n 1, 1) := by decide +kernel
theorem dX8_restore_62 : decode cX8_restore 62 = .ok (.imul, 1) := by decide +kernel
theorem dX8_restore_63 : decode cX8_restore 63 = .ok (.bipush 6, 2) := by decide +kernel
theorem dX8_restore_65 : decode cX8_restore 65 = .ok (.iload_n 2, 1) := by decide +kernel
theorem dX8_restore_66 : decode cX8_restore 66 = .ok (.imul, 1) := by decide +kernel
theorem dX8_restore_67 : decode cX8_restore 67 = .ok (.iadd, 1) := by decide +kernel
theorem dX8_restore_68 : decode cX8_restore 68 = .ok (.iload_n 3, 1) := by decide +kernel
theorem dX8_restore_69 : decode cX8_restore 69 = .ok (.iadd, 1) := by decide +kernel
theorem dX8_restore_70 : decode cX8_restore 70 = .ok (.laload, 1) := by decide +kernel
theorem dX8_restore_71 : decode cX8_restore 71 = .ok (.lastore, 1) := by decide +kernel
theorem dX8_restore_72 : decode cX8_restore 72 = .ok (.iinc 3 1, 3) := by decide +kernel
theorem dX8_restore_75 : decode cX8_restore 75 = .ok (.goto (-39), 3) := by decide +kernel
theorem dX8_restore_78 : decode cX8_restore 78 = .ok (.aload_n 0, 1) := by decide +kernel
theorem dX8_restore_79 : decode cX8_restore 79 = .ok (.getfield 21, 3) := by decide +kernel
theorem dX8_restore_82 : decode cX8_restore 82 = .ok (.iload_n 2, 1) := by decide +kernel
theorem dX8_restore_83 : decode cX8_restore 83 = .ok (.iconst (-1), 1) := by decide +kernel
theorem dX8_restore_84 : decode cX8_restore 84 = .ok (.iastore, 1) := by decide +kernel
theorem dX8_restore_85 : decode cX8_restore 85 = .ok (.aload_n 0, 1) := by decide +kernel
theorem dX8_restore_86 : decode cX8_restore 86 = .ok (.getfield 24, 3) := by decide +kernel
theorem dX8_restore_89 : decode cX8_restore 89 = .ok (.iload_n 2, 1) := by decide +kernel
theorem dX8_restore_90 : decode cX8_restore 90 = .ok (.aload_n 0, 1) := by decide +kernel
theorem dX8_restore_91 : decode cX8_restore 91 = .ok (.getfield 72, 3) := by decide +kernel
theorem dX8_restore_94 : decode cX8_restore 94 = .ok (.bipush 100, 2) := by decide +kernel
theorem dX8_restore_96 : decode cX8_restore 96 = .ok (.iload_n 1, 1) := by decide +kernel
theorem dX8_restore_97 : decode cX8_restore 97 = .ok (.imul, 1) := by decide +kernel
theorem dX8_restore_98 : decode cX8_restore 98 = .ok (.iload_n 2, 1) := by decide +kernel
theorem dX8_restore_99 : decode cX8_restore 99 = .ok (.iadd, 1) := by decide +kernel
theorem dX8_restore_100 : decode cX8_restore 100 = .ok (.iaload, 1) := by decide +kernel
theorem dX8_restore_101 : decode cX8_restore 101 = .ok (.iastore, 1) := by decide +kernel
theorem dX8_restore_102 : decode cX8_restore 102 = .ok (.aload_n 0, 1) := by decide +kernel
theorem dX8_restore_103 : decode cX8_restore 103 = .ok (.getfield 27, 3) := by decide +kernel
theorem dX8_restore_106 : decode cX8_restore 106 = .ok (.iload_n 2, 1) := by decide +kernel
theorem dX8_restore_107 : decode cX8_restore 107 = .ok (.aload_n 0, 1) := by decide +kernel
theorem dX8_restore_108 : decode cX8_restore 108 = .ok (.getfield 75, 3) := by decide +kernel
theorem dX8_restore_111 : decode cX8_restore 111 = .ok (.bipush 100, 2) := by decide +kernel
theorem dX8_restore_113 : decode cX8_restore 113 = .ok (.iload_n 1, 1) := by decide +kernel
theorem dX8_restore_114 : decode cX8_restore 114 = .ok (.imul, 1) := by decide +kernel
theorem dX8_restore_115 : decode cX8_restore 115 = .ok (.iload_n 2, 1) := by decide +kernel
theorem dX8_restore_116 : decode cX8_restore 116 = .ok (.iadd, 1) := by decide +kernel
theorem dX8_restore_117 : decode cX8_restore 117 = .ok (.baload, 1) := by decide +kernel
theorem dX8_restore_118 : decode cX8_restore 118 = .ok (.bastore, 1) := by decide +kernel
theorem dX8_restore_119 : decode cX8_restore 119 = .ok (.aload_n 0, 1) := by decide +kernel
theorem dX8_restore_120 : decode cX8_restore 120 = .ok (.getfield 30, 3) := by decide +kernel
theorem dX8_restore_123 : decode cX8_restore 123 = .ok (.iload_n 2, 1) := by decide +kernel
theorem dX8_restore_124 : decode cX8_restore 124 = .ok (.iconst 0, 1) := by decide +kernel
theorem dX8_restore_125 : decode cX8_restore 125 = .ok (.bastore, 1) := by decide +kernel
theorem dX8_restore_126 : decode cX8_restore 126 = .ok (.iinc 2 1, 3) := by decide +kernel
theorem dX8_restore_129 : decode cX8_restore 129 = .ok (.goto (-108), 3) := by decide +kernel
theorem dX8_restore_132 : decode cX8_restore 132 = .ok (.aload_n 0, 1) := by decide +kernel
theorem dX8_restore_133 : decode cX8_restore 133 = .ok (.aload_n 0, 1) := by decide +kernel
theorem dX8_restore_134 : decode cX8_restore 134 = .ok (.getfield 78, 3) := by decide +kernel
theorem dX8_restore_137 : decode cX8_restore 137 = .ok (.iload_n 1, 1) := by decide +kernel
theorem dX8_restore_138 : decode cX8_restore 138 = .ok (.iaload, 1) := by decide +kernel
theorem dX8_restore_139 : decode cX8_restore 139 = .ok (.putfield 158, 3) := by decide +kernel
theorem dX8_restore_142 : decode cX8_restore 142 = .ok (.iconst 0, 1) := by decide +kernel
theorem dX8_restore_143 : decode cX8_restore 143 = .ok (.istore_n 2, 1) := by decide +kernel
theorem dX8_restore_144 : decode cX8_restore 144 = .ok (.iload_n 2, 1) := by decide +kernel
theorem dX8_restore_145 : decode cX8_restore 145 = .ok (.aload_n 0, 1) := by decide +kernel
theorem dX8_restore_146 : decode cX8_restore 146 = .ok (.getfield 158, 3) := by decide +kernel
theorem dX8_restore_149 : decode cX8_restore 149 = .ok (.if_icmp .ge 43, 3) := by decide +kernel
theorem dX8_restore_152 : decode cX8_restore 152 = .ok (.aload_n 0, 1) := by decide +kernel
theorem dX8_restore_153 : decode cX8_restore 153 = .ok (.getfield 48, 3) := by decide +kernel
theorem dX8_restore_156 : decode cX8_restore 156 = .ok (.iload_n 2, 1) := by decide +kernel
theorem dX8_restore_157 : decode cX8_restore 157 = .ok (.aload_n 0, 1) := by decide +kernel
theorem dX8_restore_158 : decode cX8_restore 158 = .ok (.getfield 81, 3) := by decide +kernel
theorem dX8_restore_161 : decode cX8_restore 161 = .ok (.bipush 60, 2) := by decide +kernel
theorem dX8_restore_163 : decode cX8_restore 163 = .ok (.iload_n 1, 1) := by decide +kernel
theorem dX8_restore_164 : decode cX8_restore 164 = .ok (.imul, 1) := by decide +kernel
theorem dX8_restore_165 : decode cX8_restore 165 = .ok (.iload_n 2, 1) := by decide +kernel
theorem dX8_restore_166 : decode cX8_restore 166 = .ok (.iadd, 1) := by decide +kernel
theorem dX8_restore_167 : decode cX8_restore 167 = .ok (.iaload, 1) := by decide +kernel
theorem dX8_restore_168 : decode cX8_restore 168 = .ok (.iastore, 1) := by decide +kernel
theorem dX8_restore_169 : decode cX8_restore 169 = .ok (.aload_n 0, 1) := by decide +kernel
theorem dX8_restore_170 : decode cX8_restore 170 = .ok (.getfield 51, 3) := by decide +kernel
theorem dX8_restore_173 : decode cX8_restore 173 = .ok (.iload_n 2, 1) := by decide +kernel
theorem dX8_restore_174 : decode cX8_restore 174 = .ok (.aload_n 0, 1) := by decide +kernel
theorem dX8_restore_175 : decode cX8_restore 175 = .ok (.getfield 84, 3) := by decide +kernel
theorem dX8_restore_178 : decode cX8_restore 178 = .ok (.bipush 60, 2) := by decide +kernel
theorem dX8_restore_180 : decode cX8_restore 180 = .ok (.iload_n 1, 1) := by decide +kernel
theorem dX8_restore_181 : decode cX8_restore 181 = .ok (.imul, 1) := by decide +kernel
theorem dX8_restore_182 : decode cX8_restore 182 = .ok (.iload_n 2, 1) := by decide +kernel
theorem dX8_restore_183 : decode cX8_restore 183 = .ok (.iadd, 1) := by decide +kernel
theorem dX8_restore_184 : decode cX8_restore 184 = .ok (.iaload, 1) := by decide +kernel
theorem dX8_restore_185 : decode cX8_restore 185 = .ok (.iastore, 1) := by decide +kernel
theorem dX8_restore_186 : decode cX8_restore 186 = .ok (.iinc 2 1, 3) := by decide +kernel
theorem dX8_restore_189 : decode cX8_restore 189 = .ok (.goto (-45), 3) := by decide +kernel
theorem dX8_restore_192 : decode cX8_restore 192 = .ok (.aload_n 0, 1) := by decide +kernel
theorem dX8_restore_193 : decode cX8_restore 193 = .ok (.aload_n 0, 1) := by decide +kernel
theorem dX8_restore_194 : decode cX8_restore 194 = .ok (.getfield 87, 3) := by decide +kernel
theorem dX8_restore_197 : decode cX8_restore 197 = .ok (.iload_n 1, 1) := by decide +kernel
theorem dX8_restore_198 : decode cX8_restore 198 = .ok (.iaload, 1) := by decide +kernel
theorem dX8_restore_199 : decode cX8_restore 199 = .ok (.putfield 161, 3) := by decide +kernel
theorem dX8_restore_202 : decode cX8_restore 202 = .ok (.iconst 0, 1) := by decide +kernel
theorem dX8_restore_203 : decode cX8_restore 203 = .ok (.istore_n 2, 1) := by decide +kernel
theorem dX8_restore_204 : decode cX8_restore 204 = .ok (.iload_n 2, 1) := by decide +kernel
theorem dX8_restore_205 : decode cX8_restore 205 = .ok (.aload_n 0, 1) := by decide +kernel
theorem dX8_restore_206 : decode cX8_restore 206 = .ok (.getfield 161, 3) := by decide +kernel
theorem dX8_restore_209 : decode cX8_restore 209 = .ok (.if_icmp .ge 43, 3) := by decide +kernel
theorem dX8_restore_212 : decode cX8_restore 212 = .ok (.aload_n 0, 1) := by decide +kernel
theorem dX8_restore_213 : decode cX8_restore 213 = .ok (.getfield 54, 3) := by decide +kernel
theorem dX8_restore_216 : decode cX8_restore 216 = .ok (.iload_n 2, 1) := by decide +kernel
theorem dX8_restore_217 : decode cX8_restore 217 = .ok (.aload_n 0, 1) := by decide +kernel
theorem dX8_restore_218 : decode cX8_restore 218 = .ok (.getfield 90, 3) := by decide +kernel
theorem dX8_restore_221 : decode cX8_restore 221 = .ok (.bipush 40, 2) := by decide +kernel
theorem dX8_restore_223 : decode cX8_restore 223 = .ok (.iload_n 1, 1) := by decide +kernel
theorem dX8_restore_224 : decode cX8_restore 224 = .ok (.imul, 1) := by decide +kernel
theorem dX8_restore_225 : decode cX8_restore 225 = .ok (.iload_n 2, 1) := by decide +kernel
theorem dX8_restore_226 : decode cX8_restore 226 = .ok (.iadd, 1) := by decide +kernel
theorem dX8_restore_227 : decode cX8_restore 227 = .ok (.iaload, 1) := by decide +kernel
theorem dX8_restore_228 : decode cX8_restore 228 = .ok (.iastore, 1) := by decide +kernel
theorem dX8_restore_229 : decode cX8_restore 229 = .ok (.aload_n 0, 1) := by decide +kernel
theorem dX8_restore_230 : decode cX8_restore 230 = .ok (.getfield 57, 3) := by decide +kernel
theorem dX8_restore_233 : decode cX8_restore 233 = .ok (.iload_n 2, 1) := by decide +kernel
theorem dX8_restore_234 : decode cX8_restore 234 = .ok (.aload_n 0, 1) := by decide +kernel
theorem dX8_restore_235 : decode cX8_restore 235 = .ok (.getfield 93, 3) := by decide +kernel
theorem dX8_restore_238 : decode cX8_restore 238 = .ok (.bipush 40, 2) := by decide +kernel
theorem dX8_restore_240 : decode cX8_restore 240 = .ok (.iload_n 1, 1) := by decide +kernel
theorem dX8_restore_241 : decode cX8_restore 241 = .ok (.imul, 1) := by decide +kernel
theorem dX8_restore_242 : decode cX8_restore 242 = .ok (.iload_n 2, 1) := by decide +kernel
theorem dX8_restore_243 : decode cX8_restore 243 = .ok (.iadd, 1) := by decide +kernel
theorem dX8_restore_244 : decode cX8_restore 244 = .ok (.iaload, 1) := by decide +kernel
theorem dX8_restore_245 : decode cX8_restore 245 = .ok (.iastore, 1) := by decide +kernel
theorem dX8_restore_246 : decode cX8_restore 246 = .ok (.iinc 2 1, 3) := by decide +kernel
theorem dX8_restore_249 : decode cX8_restore 249 = .ok (.goto (-45), 3) := by decide +kernel
theorem dX8_restore_252 : decode cX8_restore 252 = .ok (.aload_n 0, 1) := by decide +kernel
theorem dX8_restore_253 : decode cX8_restore 253 = .ok (.aload_n 0, 1) := by decide +kernel
theorem dX8_restore_254 : decode cX8_restore 254 = .ok (.getfield 96, 3) := by decide +kernel
theorem dX8_restore_257 : decode cX8_restore 257 = .ok (.iload_n 1, 1) := by decide +kernel
theorem dX8_restore_258 : decode cX8_restore 258 = .ok (.iaload, 1) := by decide +kernel
theorem dX8_restore_259 : decode cX8_restore 259 = .ok (.putfield 151, 3) := by decide +kernel
theorem dX8_restore_262 : decode cX8_restore 262 = .ok (.aload_n 0, 1) := by decide +kernel
theorem dX8_restore_263 : decode cX8_restore 263 = .ok (.aload_n 0, 1) := by decide +kernel
theorem dX8_restore_264 : decode cX8_restore 264 = .ok (.getfield 99, 3) := by decide +kernel
theorem dX8_restore_267 : decode cX8_restore 267 = .ok (.iload_n 1, 1) := by decide +kernel
theorem dX8_restore_268 : decode cX8_restore 268 = .ok (.iaload, 1) := by decide +kernel
theorem dX8_restore_269 : decode cX8_restore 269 = .ok (.putfield 133, 3) := by decide +kernel
theorem dX8_restore_272 : decode cX8_restore 272 = .ok (.aload_n 0, 1) := by decide +kernel
theorem dX8_restore_273 : decode cX8_restore 273 = .ok (.aload_n 0, 1) := by decide +kernel
theorem dX8_restore_274 : decode cX8_restore 274 = .ok (.getfield 102, 3) := by decide +kernel
theorem dX8_restore_277 : decode cX8_restore 277 = .ok (.iload_n 1, 1) := by decide +kernel
theorem dX8_restore_278 : decode cX8_restore 278 = .ok (.iaload, 1) := by decide +kernel
theorem dX8_restore_279 : decode cX8_restore 279 = .ok (.putfield 145, 3) := by decide +kernel
theorem dX8_restore_282 : decode cX8_restore 282 = .ok (.aload_n 0, 1) := by decide +kernel
theorem dX8_restore_283 : decode cX8_restore 283 = .ok (.aload_n 0, 1) := by decide +kernel
theorem dX8_restore_284 : decode cX8_restore 284 = .ok (.getfield 105, 3) := by decide +kernel
theorem dX8_restore_287 : decode cX8_restore 287 = .ok (.iload_n 1, 1) := by decide +kernel
theorem dX8_restore_288 : decode cX8_restore 288 = .ok (.laload, 1) := by decide +kernel
theorem dX8_restore_289 : decode cX8_restore 289 = .ok (.putfield 154, 3) := by decide +kernel
theorem dX8_restore_292 : decode cX8_restore 292 = .ok (.aload_n 0, 1) := by decide +kernel
theorem dX8_restore_293 : decode cX8_restore 293 = .ok (.invokevirtual 171, 3) := by decide +kernel
theorem dX8_restore_296 : decode cX8_restore 296 = .ok (.aload_n 0, 1) := by decide +kernel
theorem dX8_restore_297 : decode cX8_restore 297 = .ok (.getfield 133, 3) := by decide +kernel
theorem dX8_restore_300 : decode cX8_restore 300 = .ok (.ireturn, 1) := by decide +kernel
theorem dX8_told_0 : decode cX8_told 0 = .ok (.iload_n 1, 1) := by decide +kernel
theorem dX8_told_1 : decode cX8_told 1 = .ok (.tableswitch 141 0 13 #[71, 76, 81, 86, 91, 96, 101, 106, 111, 116, 121, 126, 131, 136], 71) := by decide +kernel
theorem dX8_told_72 : decode cX8_told 72 = .ok (.aload_n 0, 1) := by decide +kernel
theorem dX8_told_73 : decode cX8_told 73 = .ok (.getfield 133, 3) := by decide +kernel
theorem dX8_told_76 : decode cX8_told 76 = .ok (.ireturn, 1) := by decide +kernel
theorem dX8_told_77 : decode cX8_told 77 = .ok (.aload_n 0, 1) := by decide +kernel
theorem dX8_told_78 : decode cX8_told 78 = .ok (.getfield 180, 3) := by decide +kernel
theorem dX8_told_81 : decode cX8_told 81 = .ok (.ireturn, 1) := by decide +kernel
theorem dX8_told_82 : decode cX8_told 82 = .ok (.aload_n 0, 1) := by decide +kernel
theorem dX8_told_83 : decode cX8_told 83 = .ok (.getfield 136, 3) := by decide +kernel
theorem dX8_told_86 : decode cX8_told 86 = .ok (.ireturn, 1) := by decide +kernel
theorem dX8_told_87 : decode cX8_told 87 = .ok (.aload_n 0, 1) := by decide +kernel
theorem dX8_told_88 : decode cX8_told 88 = .ok (.getfield 139, 3) := by decide +kernel
theorem dX8_told_91 : decode cX8_told 91 = .ok (.ireturn, 1) := by decide +kernel
theorem dX8_told_92 : decode cX8_told 92 = .ok (.aload_n 0, 1) := by decide +kernel
theorem dX8_told_93 : decode cX8_told 93 = .ok (.getfield 142, 3) := by decide +kernel
theorem dX8_told_96 : decode cX8_told 96 = .ok (.ireturn, 1) := by decide +kernel
theorem dX8_told_97 : decode cX8_told 97 = .ok (.aload_n 0, 1) := by decide +kernel
theorem dX8_told_98 : decode cX8_told 98 = .ok (.getfield 145, 3) := by decide +kernel
theorem dX8_told_101 : decode cX8_told 101 = .ok (.ireturn, 1) := by decide +kernel
theorem dX8_told_102 : decode cX8_told 102 = .ok (.aload_n 0, 1) := by decide +kernel
theorem dX8_told_103 : decode cX8_told 103 = .ok (.getfield 148, 3) := by decide +kernel
theorem dX8_told_106 : decode cX8_told 106 = .ok (.ireturn, 1) := by decide +kernel
theorem dX8_told_107 : decode cX8_told 107 = .ok (.aload_n 0, 1) := by decide +kernel
theorem dX8_told_108 : decode cX8_told 108 = .ok (.getfield 161, 3) := by decide +kernel
theorem dX8_told_111 : decode cX8_told 111 = .ok (.ireturn, 1) := by decide +kernel
theorem dX8_told_112 : decode cX8_told 112 = .ok (.aload_n 0, 1) := by decide +kernel
theorem dX8_told_113 : decode cX8_told 113 = .ok (.getfield 151, 3) := by decide +kernel
theorem dX8_told_116 : decode cX8_told 116 = .ok (.ireturn, 1) := by decide +kernel
theorem dX8_told_117 : decode cX8_told 117 = .ok (.aload_n 0, 1) := by decide +kernel
theorem dX8_told_118 : decode cX8_told 118 = .ok (.invokevirtual 279, 3) := by decide +kernel
theorem dX8_told_121 : decode cX8_told 121 = .ok (.ireturn, 1) := by decide +kernel
theorem dX8_told_122 : decode cX8_told 122 = .ok (.aload_n 0, 1) := by decide +kernel
theorem dX8_told_123 : decode cX8_told 123 = .ok (.getfield 130, 3) := by decide +kernel
theorem dX8_told_126 : decode cX8_told 126 = .ok (.ireturn, 1) := by decide +kernel
theorem dX8_told_127 : decode cX8_told 127 = .ok (.aload_n 0, 1) := by decide +kernel
theorem dX8_told_128 : decode cX8_told 128 = .ok (.getfield 164, 3) := by decide +kernel
theorem dX8_told_131 : decode cX8_told 131 = .ok (.ireturn, 1) := by decide +kernel
theorem dX8_told_132 : decode cX8_told 132 = .ok (.aload_n 0, 1) := by decide +kernel
theorem dX8_told_133 : decode cX8_told 133 = .ok (.invokevirtual 213, 3) := by decide +kernel
theorem dX8_told_136 : decode cX8_told 136 = .ok (.ireturn, 1) := by decide +kernel
theorem dX8_told_137 : decode cX8_told 137 = .ok (.aload_n 0, 1) := by decide +kernel
theorem dX8_told_138 : decode cX8_told 138 = .ok (.getfield 158, 3) := by decide +kernel
theorem dX8_told_141 : decode cX8_told 141 = .ok (.ireturn, 1) := by decide +kernel
theorem dX8_told_142 : decode cX8_told 142 = .ok (.bipush (-102), 2) := by decide +kernel
theorem dX8_told_144 : decode cX8_told 144 = .ok (.ireturn, 1) := by decide +kernel
theorem dX8_clear_0 : decode cX8_clear 0 = .ok (.aload_n 0, 1) := by decide +kernel
theorem dX8_clear_1 : decode cX8_clear 1 = .ok (.getfield 133, 3) := by decide +kernel
theorem dX8_clear_4 : decode cX8_clear 4 = .ok (.istore_n 1, 1) := by decide +kernel
theorem dX8_clear_5 : decode cX8_clear 5 = .ok (.aload_n 0, 1) := by decide +kernel
theorem dX8_clear_6 : decode cX8_clear 6 = .ok (.invokevirtual 111, 3) := by decide +kernel
theorem dX8_clear_9 : decode cX8_clear 9 = .ok (.iload_n 1, 1) := by decide +kernel
theorem dX8_clear_10 : decode cX8_clear 10 = .ok (.ireturn, 1) := by decide +kernel
