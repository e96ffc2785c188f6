theorem dX8_canSplit_3 : decode cX8_canSplit 3 = .ok (.istore_n 2, 1) := by decide +kernel
theorem dX8_canSplit_4 : decode cX8_canSplit 4 = .ok (.iload_n 2, 1) := by decide +kernel
theorem dX8_canSplit_5 : decode cX8_canSplit 5 = .ok (.aload_n 0, 1) := by decide +kernel
theorem dX8_canSplit_6 : decode cX8_canSplit 6 = .ok (.getfield 130, 3) := by decide +kernel
theorem dX8_canSplit_9 : decode cX8_canSplit 9 = .ok (.if_icmp .ge 39, 3) := by decide +kernel
theorem dX8_canSplit_12 : decode cX8_canSplit 12 = .ok (.iload_n 1, 1) := by decide +kernel
theorem dX8_canSplit_13 : decode cX8_canSplit 13 = .ok (.ifCond .eq 27, 3) := by decide +kernel
theorem dX8_canSplit_16 : decode cX8_canSplit 16 = .ok (.aload_n 0, 1) := by decide +kernel
theorem dX8_canSplit_17 : decode cX8_canSplit 17 = .ok (.getfield 13, 3) := by decide +kernel
theorem dX8_canSplit_20 : decode cX8_canSplit 20 = .ok (.iload_n 2, 1) := by decide +kernel
theorem dX8_canSplit_21 : decode cX8_canSplit 21 = .ok (.baload, 1) := by decide +kernel
theorem dX8_canSplit_22 : decode cX8_canSplit 22 = .ok (.ifCond .eq 18, 3) := by decide +kernel
theorem dX8_canSplit_25 : decode cX8_canSplit 25 = .ok (.aload_n 0, 1) := by decide +kernel
theorem dX8_canSplit_26 : decode cX8_canSplit 26 = .ok (.getfield 7, 3) := by decide +kernel
theorem dX8_canSplit_29 : decode cX8_canSplit 29 = .ok (.iload_n 2, 1) := by decide +kernel
theorem dX8_canSplit_30 : decode cX8_canSplit 30 = .ok (.iaload, 1) := by decide +kernel
theorem dX8_canSplit_31 : decode cX8_canSplit 31 = .ok (.bipush 6, 2) := by decide +kernel
theorem dX8_canSplit_33 : decode cX8_canSplit 33 = .ok (.if_icmp .ge 7, 3) := by decide +kernel
theorem dX8_canSplit_36 : decode cX8_canSplit 36 = .ok (.iconst 1, 1) := by decide +kernel
theorem dX8_canSplit_37 : decode cX8_canSplit 37 = .ok (.goto 4, 3) := by decide +kernel
theorem dX8_canSplit_40 : decode cX8_canSplit 40 = .ok (.iconst 0, 1) := by decide +kernel
theorem dX8_canSplit_41 : decode cX8_canSplit 41 = .ok (.istore_n 1, 1) := by decide +kernel
theorem dX8_canSplit_42 : decode cX8_canSplit 42 = .ok (.iinc 2 1, 3) := by decide +kernel
theorem dX8_canSplit_45 : decode cX8_canSplit 45 = .ok (.goto (-41), 3) := by decide +kernel
theorem dX8_canSplit_48 : decode cX8_canSplit 48 = .ok (.iload_n 1, 1) := by decide +kernel
theorem dX8_canSplit_49 : decode cX8_canSplit 49 = .ok (.ireturn, 1) := by decide +kernel
theorem dX8_makeParts_0 : decode cX8_makeParts 0 = .ok (.aload_n 0, 1) := by decide +kernel
theorem dX8_makeParts_1 : decode cX8_makeParts 1 = .ok (.getfield 33, 3) := by decide +kernel
theorem dX8_makeParts_4 : decode cX8_makeParts 4 = .ok (.iload_n 1, 1) := by decide +kernel
theorem dX8_makeParts_5 : decode cX8_makeParts 5 = .ok (.iload_n 2, 1) := by decide +kernel
theorem dX8_makeParts_6 : decode cX8_makeParts 6 = .ok (.iastore, 1) := by decide +kernel
theorem dX8_makeParts_7 : decode cX8_makeParts 7 = .ok (.iconst 1, 1) := by decide +kernel
theorem dX8_makeParts_8 : decode cX8_makeParts 8 = .ok (.istore_n 3, 1) := by decide +kernel
theorem dX8_makeParts_9 : decode cX8_makeParts 9 = .ok (.iload_n 3, 1) := by decide +kernel
theorem dX8_makeParts_10 : decode cX8_makeParts 10 = .ok (.iload_n 2, 1) := by decide +kernel
theorem dX8_makeParts_11 : decode cX8_makeParts 11 = .ok (.if_icmp .ge 15, 3) := by decide +kernel
theorem dX8_makeParts_14 : decode cX8_makeParts 14 = .ok (.aload_n 0, 1) := by decide +kernel
theorem dX8_makeParts_15 : decode cX8_makeParts 15 = .ok (.iload_n 3, 1) := by decide +kernel
theorem dX8_makeParts_16 : decode cX8_makeParts 16 = .ok (.iload_n 1, 1) := by decide +kernel
theorem dX8_makeParts_17 : decode cX8_makeParts 17 = .ok (.invokevirtual 167, 3) := by decide +kernel
theorem dX8_makeParts_20 : decode cX8_makeParts 20 = .ok (.iinc 3 1, 3) := by decide +kernel
theorem dX8_makeParts_23 : decode cX8_makeParts 23 = .ok (.goto (-14), 3) := by decide +kernel
theorem dX8_makeParts_26 : decode cX8_makeParts 26 = .ok (.return_, 1) := by decide +kernel
theorem dX8_mostOf_0 : decode cX8_mostOf 0 = .ok (.aload_n 0, 1) := by decide +kernel
theorem dX8_mostOf_1 : decode cX8_mostOf 1 = .ok (.iload_n 1, 1) := by decide +kernel
theorem dX8_mostOf_2 : decode cX8_mostOf 2 = .ok (.invokevirtual 245, 3) := by decide +kernel
theorem dX8_mostOf_5 : decode cX8_mostOf 5 = .ok (.istore_n 2, 1) := by decide +kernel
theorem dX8_mostOf_6 : decode cX8_mostOf 6 = .ok (.aload_n 0, 1) := by decide +kernel
theorem dX8_mostOf_7 : decode cX8_mostOf 7 = .ok (.invokevirtual 248, 3) := by decide +kernel
theorem dX8_mostOf_10 : decode cX8_mostOf 10 = .ok (.istore_n 3, 1) := by decide +kernel
theorem dX8_mostOf_11 : decode cX8_mostOf 11 = .ok (.iload_n 2, 1) := by decide +kernel
theorem dX8_mostOf_12 : decode cX8_mostOf 12 = .ok (.ifCond .lt 12, 3) := by decide +kernel
theorem dX8_mostOf_15 : decode cX8_mostOf 15 = .ok (.aload_n 0, 1) := by decide +kernel
theorem dX8_mostOf_16 : decode cX8_mostOf 16 = .ok (.getfield 42, 3) := by decide +kernel
theorem dX8_mostOf_19 : decode cX8_mostOf 19 = .ok (.iload_n 2, 1) := by decide +kernel
theorem dX8_mostOf_20 : decode cX8_mostOf 20 = .ok (.iaload, 1) := by decide +kernel
theorem dX8_mostOf_21 : decode cX8_mostOf 21 = .ok (.goto 23, 3) := by decide +kernel
theorem dX8_mostOf_24 : decode cX8_mostOf 24 = .ok (.aload_n 0, 1) := by decide +kernel
theorem dX8_mostOf_25 : decode cX8_mostOf 25 = .ok (.getfield 39, 3) := by decide +kernel
theorem dX8_mostOf_28 : decode cX8_mostOf 28 = .ok (.iload_n 3, 1) := by decide +kernel
theorem dX8_mostOf_29 : decode cX8_mostOf 29 = .ok (.iaload, 1) := by decide +kernel
theorem dX8_mostOf_30 : decode cX8_mostOf 30 = .ok (.iconst (-1), 1) := by decide +kernel
theorem dX8_mostOf_31 : decode cX8_mostOf 31 = .ok (.if_icmp .ne 7, 3) := by decide +kernel
theorem dX8_mostOf_34 : decode cX8_mostOf 34 = .ok (.iconst 0, 1) := by decide +kernel
theorem dX8_mostOf_35 : decode cX8_mostOf 35 = .ok (.goto 9, 3) := by decide +kernel
theorem dX8_mostOf_38 : decode cX8_mostOf 38 = .ok (.aload_n 0, 1) := by decide +kernel
theorem dX8_mostOf_39 : decode cX8_mostOf 39 = .ok (.getfield 42, 3) := by decide +kernel
theorem dX8_mostOf_42 : decode cX8_mostOf 42 = .ok (.iload_n 3, 1) := by decide +kernel
theorem dX8_mostOf_43 : decode cX8_mostOf 43 = .ok (.iaload, 1) := by decide +kernel
theorem dX8_mostOf_44 : decode cX8_mostOf 44 = .ok (.ireturn, 1) := by decide +kernel
theorem dX8_endRound_0 : decode cX8_endRound 0 = .ok (.iconst 0, 1) := by decide +kernel
theorem dX8_endRound_1 : decode cX8_endRound 1 = .ok (.istore_n 1, 1) := by decide +kernel
theorem dX8_endRound_2 : decode cX8_endRound 2 = .ok (.iload_n 1, 1) := by decide +kernel
theorem dX8_endRound_3 : decode cX8_endRound 3 = .ok (.aload_n 0, 1) := by decide +kernel
theorem dX8_endRound_4 : decode cX8_endRound 4 = .ok (.getfield 127, 3) := by decide +kernel
theorem dX8_endRound_7 : decode cX8_endRound 7 = .ok (.if_icmp .ge 116, 3) := by decide +kernel
theorem dX8_endRound_10 : decode cX8_endRound 10 = .ok (.aload_n 0, 1) := by decide +kernel
theorem dX8_endRound_11 : decode cX8_endRound 11 = .ok (.getfield 39, 3) := by decide +kernel
theorem dX8_endRound_14 : decode cX8_endRound 14 = .ok (.iload_n 1, 1) := by decide +kernel
theorem dX8_endRound_15 : decode cX8_endRound 15 = .ok (.iaload, 1) := by decide +kernel
theorem dX8_endRound_16 : decode cX8_endRound 16 = .ok (.istore_n 2, 1) := by decide +kernel
theorem dX8_endRound_17 : decode cX8_endRound 17 = .ok (.iload_n 2, 1) := by decide +kernel
theorem dX8_endRound_18 : decode cX8_endRound 18 = .ok (.iconst (-1), 1) := by decide +kernel
theorem dX8_endRound_19 : decode cX8_endRound 19 = .ok (.if_icmp .eq 98, 3) := by decide +kernel
theorem dX8_endRound_22 : decode cX8_endRound 22 = .ok (.aload_n 0, 1) := by decide +kernel
theorem dX8_endRound_23 : decode cX8_endRound 23 = .ok (.getfield 42, 3) := by decide +kernel
theorem dX8_endRound_26 : decode cX8_endRound 26 = .ok (.iload_n 1, 1) := by decide +kernel
theorem dX8_endRound_27 : decode cX8_endRound 27 = .ok (.iaload, 1) := by decide +kernel
theorem dX8_endRound_28 : decode cX8_endRound 28 = .ok (.aload_n 0, 1) := by decide +kernel
theorem dX8_endRound_29 : decode cX8_endRound 29 = .ok (.getfield 45, 3) := by decide +kernel
theorem dX8_endRound_32 : decode cX8_endRound 32 = .ok (.iload_n 1, 1) := by decide +kernel
theorem dX8_endRound_33 : decode cX8_endRound 33 = .ok (.iaload, 1) := by decide +kernel
theorem dX8_endRound_34 : decode cX8_endRound 34 = .ok (.isub, 1) := by decide +kernel
theorem dX8_endRound_35 : decode cX8_endRound 35 = .ok (.aload_n 0, 1) := by decide +kernel
theorem dX8_endRound_36 : decode cX8_endRound 36 = .ok (.getfield 121, 3) := by decide +kernel
theorem dX8_endRound_39 : decode cX8_endRound 39 = .ok (.if_icmp .lt 78, 3) := by decide +kernel
theorem dX8_endRound_42 : decode cX8_endRound 42 = .ok (.aload_n 0, 1) := by decide +kernel
theorem dX8_endRound_43 : decode cX8_endRound 43 = .ok (.getfield 33, 3) := by decide +kernel
theorem dX8_endRound_46 : decode cX8_endRound 46 = .ok (.iload_n 2, 1) := by decide +kernel
theorem dX8_endRound_47 : decode cX8_endRound 47 = .ok (.iaload, 1) := by decide +kernel
theorem dX8_endRound_48 : decode cX8_endRound 48 = .ok (.iconst 1, 1) := by decide +kernel
theorem dX8_endRound_49 : decode cX8_endRound 49 = .ok (.if_icmp .ne 68, 3) := by decide +kernel
theorem dX8_endRound_52 : decode cX8_endRound 52 = .ok (.aload_n 0, 1) := by decide +kernel
theorem dX8_endRound_53 : decode cX8_endRound 53 = .ok (.getfield 42, 3) := by decide +kernel
theorem dX8_endRound_56 : decode cX8_endRound 56 = .ok (.iload_n 1, 1) := by decide +kernel
theorem dX8_endRound_57 : decode cX8_endRound 57 = .ok (.iaload, 1) := by decide +kernel
theorem dX8_endRound_58 : decode cX8_endRound 58 = .ok (.aload_n 0, 1) := by decide +kernel
theorem dX8_endRound_59 : decode cX8_endRound 59 = .ok (.getfield 121, 3) := by decide +kernel
theorem dX8_endRound_62 : decode cX8_endRound 62 = .ok (.idiv, 1) := by decide +kernel
theorem dX8_endRound_63 : decode cX8_endRound 63 = .ok (.iconst 1, 1) := by decide +kernel
theorem dX8_endRound_64 : decode cX8_endRound 64 = .ok (.iadd, 1) := by decide +kernel
theorem dX8_endRound_65 : decode cX8_endRound 65 = .ok (.istore_n 3, 1) := by decide +kernel
theorem dX8_endRound_66 : decode cX8_endRound 66 = .ok (.aload_n 0, 1) := by decide +kernel
theorem dX8_endRound_67 : decode cX8_endRound 67 = .ok (.invokevirtual 251, 3) := by decide +kernel
theorem dX8_endRound_70 : decode cX8_endRound 70 = .ok (.ifCond .eq 37, 3) := by decide +kernel
theorem dX8_endRound_73 : decode cX8_endRound 73 = .ok (.aload_n 0, 1) := by decide +kernel
theorem dX8_endRound_74 : decode cX8_endRound 74 = .ok (.iload_n 2, 1) := by decide +kernel
theorem dX8_endRound_75 : decode cX8_endRound 75 = .ok (.iload_n 3, 1) := by decide +kernel
theorem dX8_endRound_76 : decode cX8_endRound 76 = .ok (.aload_n 0, 1) := by decide +kernel
theorem dX8_endRound_77 : decode cX8_endRound 77 = .ok (.getfield 114, 3) := by decide +kernel
theorem dX8_endRound_80 : decode cX8_endRound 80 = .ok (.if_icmp .ge 7, 3) := by decide +kernel
theorem dX8_endRound_83 : decode cX8_endRound 83 = .ok (.iload_n 3, 1) := by decide +kernel
theorem dX8_endRound_84 : decode cX8_endRound 84 = .ok (.goto 7, 3) := by decide +kernel
theorem dX8_endRound_87 : decode cX8_endRound 87 = .ok (.aload_n 0, 1) := by decide +kernel
theorem dX8_endRound_88 : decode cX8_endRound 88 = .ok (.getfield 114, 3) := by decide +kernel
theorem dX8_endRound_91 : decode cX8_endRound 91 = .ok (.invokevirtual 255, 3) := by decide +kernel
theorem dX8_endRound_94 : decode cX8_endRound 94 = .ok (.aload_n 0, 1) := by decide +kernel
theorem dX8_endRound_95 : decode cX8_endRound 95 = .ok (.dup, 1) := by decide +kernel
theorem dX8_endRound_96 : decode cX8_endRound 96 = .ok (.getfield 139, 3) := by decide +kernel
theorem dX8_endRound_99 : decode cX8_endRound 99 = .ok (.iconst 1, 1) := by decide +kernel
theorem dX8_endRound_100 : decode cX8_endRound 100 = .ok (.iadd, 1) := by decide +kernel
theorem dX8_endRound_101 : decode cX8_endRound 101 = .ok (.putfield 139, 3) := by decide +kernel
theorem dX8_endRound_104 : decode cX8_endRound 104 = .ok (.goto 13, 3) := by decide +kernel
theorem dX8_endRound_107 : decode cX8_endRound 107 = .ok (.aload_n 0, 1) := by decide +kernel
theorem dX8_endRound_108 : decode cX8_endRound 108 = .ok (.dup, 1) := by decide +kernel
theorem dX8_endRound_109 : decode cX8_endRound 109 = .ok (.getfield 142, 3) := by decide +kernel
theorem dX8_endRound_112 : decode cX8_endRound 112 = .ok (.iconst 1, 1) := by decide +kernel
theorem dX8_endRound_113 : decode cX8_endRound 113 = .ok (.iadd, 1) := by decide +kernel
theorem dX8_endRound_114 : decode cX8_endRound 114 = .ok (.putfield 142, 3) := by decide +kernel
theorem dX8_endRound_117 : decode cX8_endRound 117 = .ok (.iinc 1 1, 3) := by decide +kernel
theorem dX8_endRound_120 : decode cX8_endRound 120 = .ok (.goto (-118), 3) := by decide +kernel
theorem dX8_endRound_123 : decode cX8_endRound 123 = .ok (.iconst 0, 1) := by decide +kernel
theorem dX8_endRound_124 : decode cX8_endRound 124 = .ok (.istore_n 1, 1) := by decide +kernel
theorem dX8_endRound_125 : decode cX8_endRound 125 = .ok (.iload_n 1, 1) := by decide +kernel
theorem dX8_endRound_126 : decode cX8_endRound 126 = .ok (.bipush 100, 2) := by decide +kernel
theorem dX8_endRound_128 : decode cX8_endRound 128 = .ok (.if_icmp .ge 52, 3) := by decide +kernel
theorem dX8_endRound_131 : decode cX8_endRound 131 = .ok (.aload_n 0, 1) := by decide +kernel
theorem dX8_endRound_132 : decode cX8_endRound 132 = .ok (.getfield 33, 3) := by decide +kernel
theorem dX8_endRound_135 : decode cX8_endRound 135 = .ok (.iload_n 1, 1) := by decide +kernel
theorem dX8_endRound_136 : decode cX8_endRound 136 = .ok (.iaload, 1) := by decide +kernel
theorem dX8_endRound_137 : decode cX8_endRound 137 = .ok (.iconst 1, 1) := by decide +kernel
theorem dX8_endRound_138 : decode cX8_endRound 138 = .ok (.if_icmp .le 36, 3) := by decide +kernel
theorem dX8_endRound_141 : decode cX8_endRound 141 = .ok (.aload_n 0, 1) := by decide +kernel
theorem dX8_endRound_142 : decode cX8_endRound 142 = .ok (.iload_n 1, 1) := by decide +kernel
theorem dX8_endRound_143 : decode cX8_endRound 143 = .ok (.invokevirtual 258, 3) := by decide +kernel
theorem dX8_endRound_146 : decode cX8_endRound 146 = .ok (.aload_n 0, 1) := by decide +kernel
theorem dX8_endRound_147 : decode cX8_endRound 147 = .ok (.getfield 121, 3) := by decide +kernel
theorem dX8_endRound_150 : decode cX8_endRound 150 = .ok (.aload_n 0, 1) := by decide +kernel
theorem dX8_endRound_151 : decode cX8_endRound 151 = .ok (.getfield 124, 3) := by decide +kernel
theorem dX8_endRound_154 : decode cX8_endRound 154 = .ok (.isub, 1) := by decide +kernel
theorem dX8_endRound_155 : decode cX8_endRound 155 = .ok (.if_icmp .ge 19, 3) := by decide +kernel
theorem dX8_endRound_158 : decode cX8_endRound 158 = .ok (.aload_n 0, 1) := by decide +kernel
theorem dX8_endRound_159 : decode cX8_endRound 159 = .ok (.iload_n 1, 1) := by decide +kernel
theorem dX8_endRound_160 : decode cX8_endRound 160 = .ok (.invokevirtual 261, 3) := by decide +kernel
theorem dX8_endRound_163 : decode cX8_endRound 163 = .ok (.istore_n 2, 1) := by decide +kernel
theorem dX8_endRound_164 : decode cX8_endRound 164 = .ok (.aload_n 0, 1) := by decide +kernel
theorem dX8_endRound_165 : decode cX8_endRound 165 = .ok (.dup, 1) := by decide +kernel
theorem dX8_endRound_166 : decode cX8_endRound 166 = .ok (.getfield 139, 3) := by decide +kernel
theorem dX8_endRound_169 : decode cX8_endRound 169 = .ok (.iconst 1, 1) := by decide +kernel
theorem dX8_endRound_170 : decode cX8_endRound 170 = .ok (.iadd, 1) := by decide +kernel
theorem dX8_endRound_171 : decode cX8_endRound 171 = .ok (.putfield 139, 3) := by decide +kernel
theorem dX8_endRound_174 : decode cX8_endRound 174 = .ok (.iinc 1 1, 3) := by decide +kernel
theorem dX8_endRound_177 : decode cX8_endRound 177 = .ok (.goto (-52), 3) := by decide +kernel
theorem dX8_endRound_180 : decode cX8_endRound 180 = .ok (.aload_n 0, 1) := by decide +kernel
theorem dX8_endRound_181 : decode cX8_endRound 181 = .ok (.invokevirtual 177, 3) := by decide +kernel
theorem dX8_endRound_184 : decode cX8_endRound 184 = .ok (.aload_n 0, 1) := by decide +kernel
theorem dX8_endRound_185 : decode cX8_endRound 185 = .ok (.dup, 1) := by decide +kernel
theorem dX8_endRound_186 : decode cX8_endRound 186 = .ok (.getfield 136, 3) := by decide +kernel
theorem dX8_endRound_189 : decode cX8_endRound 189 = .ok (.iconst 1, 1) := by decide +kernel
theorem dX8_endRound_190 : decode cX8_endRound 190 = .ok (.iadd, 1) := by decide +kernel
theorem dX8_endRound_191 : decode cX8_endRound 191 = .ok (.putfield 136, 3) := by decide +kernel
theorem dX8_endRound_194 : decode cX8_endRound 194 = .ok (.return_, 1) := by decide +kernel
theorem dX8_joinedOf_0 : decode cX8_joinedOf 0 = .ok (.lload_n 1, 1) := by decide +kernel
theorem dX8_joinedOf_1 : decode cX8_joinedOf 1 = .ok (.ldc2_w 185, 3) := by decide +kernel
theorem dX8_joinedOf_4 : decode cX8_joinedOf 4 = .ok (.lcmp, 1) := by decide +kernel
theorem dX8_joinedOf_5 : decode cX8_joinedOf 5 = .ok (.ifCond .eq 11, 3) := by decide +kernel
theorem dX8_joinedOf_8 : decode cX8_joinedOf 8 = .ok (.lload_n 3, 1) := by decide +kernel
theorem dX8_joinedOf_9 : decode cX8_joinedOf 9 = .ok (.ldc2_w 185, 3) := by decide +kernel
theorem dX8_joinedOf_12 : decode cX8_joinedOf 12 = .ok (.lcmp, 1) := by decide +kernel
theorem dX8_joinedOf_13 : decode cX8_joinedOf 13 = .ok (.ifCond .ne 17, 3) := by decide +kernel
theorem dX8_joinedOf_16 : decode cX8_joinedOf 16 = .ok (.lload_n 1, 1) := by decide +kernel
theorem dX8_joinedOf_17 : decode cX8_joinedOf 17 = .ok (.ldc2_w 185, 3) := by decide +kernel
theorem dX8_joinedOf_20 : decode cX8_joinedOf 20 = .ok (.lcmp, 1) := by decide +kernel
theorem dX8_joinedOf_21 : decode cX8_joinedOf 21 = .ok (.ifCond .ne 7, 3) := by decide +kernel
theorem dX8_joinedOf_24 : decode cX8_joinedOf 24 = .ok (.lload_n 3, 1) := by decide +kernel
theorem dX8_joinedOf_25 : decode cX8_joinedOf 25 = .ok (.goto 4, 3) := by decide +kernel
theorem dX8_joinedOf_28 : decode cX8_joinedOf 28 = .ok (.lload_n 1, 1) := by decide +kernel
theorem dX8_joinedOf_29 : decode cX8_joinedOf 29 = .ok (.lreturn, 1) := by decide +kernel
theorem dX8_joinedOf_30 : decode cX8_joinedOf 30 = .ok (.iload_n 0, 1) := by decide +kernel
theorem dX8_joinedOf_31 : decode cX8_joinedOf 31 = .ok (.tableswitch 68 2 5 #[29, 41, 53, 57], 29) := by decide +kernel
theorem dX8_joinedOf_60 : decode cX8_joinedOf 60 = .ok (.lload_n 1, 1) := by decide +kernel
theorem dX8_joinedOf_61 : decode cX8_joinedOf 61 = .ok (.lload_n 3, 1) := by decide +kernel
theorem dX8_joinedOf_62 : decode cX8_joinedOf 62 = .ok (.lcmp, 1) := by decide +kernel
theorem dX8_joinedOf_63 : decode cX8_joinedOf 63 = .ok (.ifCond .ge 7, 3) := by decide +kernel
theorem dX8_joinedOf_66 : decode cX8_joinedOf 66 = .ok (.lload_n 1, 1) := by decide +kernel
theorem dX8_joinedOf_67 : decode cX8_joinedOf 67 = .ok (.goto 4, 3) := by decide +kernel
theorem dX8_joinedOf_70 : decode cX8_joinedOf 70 = .ok (.lload_n 3, 1) := by decide +kernel
theorem dX8_joinedOf_71 : decode cX8_joinedOf 71 = .ok (.lreturn, 1) := by decide +kernel
theorem dX8_joinedOf_72 : decode cX8_joinedOf 72 = .ok (.lload_n 1, 1) := by decide +kernel
theorem dX8_joinedOf_73 : decode cX8_joinedOf 73 = .ok (.lload_n 3, 1) := by decide +kernel
theorem dX8_joinedOf_74 : decode cX8_joinedOf 74 = .ok (.lcmp, 1) := by decide +kernel
theorem dX8_joinedOf_75 : decode cX8_joinedOf 75 = .ok (.ifCond .le 7, 3) := by decide +kernel
theorem dX8_joinedOf_78 : decode cX8_joinedOf 78 = .ok (.lload_n 1, 1) := by decide +kernel
theorem dX8_joinedOf_79 : decode cX8_joinedOf 79 = .ok (.goto 4, 3) := by decide +kernel
theorem dX8_joinedOf_82 : decode cX8_joinedOf 82 = .ok (.lload_n 3, 1) := by decide +kernel
theorem dX8_joinedOf_83 : decode cX8_joinedOf 83 = .ok (.lreturn, 1) := by decide +kernel
theorem dX8_joinedOf_84 : decode cX8_joinedOf 84 = .ok (.lload_n 1, 1) := by decide +kernel
theorem dX8_joinedOf_85 : decode cX8_joinedOf 85 = .ok (.lload_n 3, 1) := by decide +kernel
theorem dX8_joinedOf_86 : decode cX8_joinedOf 86 = .ok (.lor, 1) := by decide +kernel
theorem dX8_joinedOf_87 : decode cX8_joinedOf 87 = .ok (.lreturn, 1) := by decide +kernel
theorem dX8_joinedOf_88 : decode cX8_joinedOf 88 = .ok (.iload 5, 2) := by decide +kernel
theorem dX8_joinedOf_90 : decode cX8_joinedOf 90 = .ok (.ifCond .eq 7, 3) := by decide +kernel
theorem dX8_joinedOf_93 : decode cX8_joinedOf 93 = .ok (.lload_n 3, 1) := by decide +kernel
theorem dX8_joinedOf_94 : decode cX8_joinedOf 94 = .ok (.goto 4, 3) := by decide +kernel
theorem dX8_joinedOf_97 : decode cX8_joinedOf 97 = .ok (.lload_n 1, 1) := by decide +kernel
theorem dX8_joinedOf_98 : decode cX8_joinedOf 98 = .ok (.lreturn, 1) := by decide +kernel
theorem dX8_joinedOf_99 : decode cX8_joinedOf 99 = .ok (.lload_n 1, 1) := by decide +kernel
theorem dX8_joinedOf_100 : decode cX8_joinedOf 100 = .ok (.lload_n 3, 1) := by decide +kernel
theorem dX8_joinedOf_101 : decode cX8_joinedOf 101 = .ok (.ladd, 1) := by decide +kernel
theorem dX8_joinedOf_102 : decode cX8_joinedOf 102 = .ok (.lreturn, 1) := by decide +kernel
theorem dX8_come_0 : decode cX8_come 0 = .ok (.aload_n 0, 1) := by decide +kernel
theorem dX8_come_1 : decode cX8_come 1 = .ok (.getfield 17, 3) := by decide +kernel
theorem dX8_come_4 : decode cX8_come 4 = .ok (.bipush 6, 2) := by decide +kernel
theorem dX8_come_6 : decode cX8_come 6 = .ok (.iload_n 2, 1) := by decide +kernel
theorem dX8_come_7 : decode cX8_come 7 = .ok (.imul, 1) := by decide +kernel
theorem dX8_come_8 : decode cX8_come 8 = .ok (.iload_n 1, 1) := by decide +kernel
theorem dX8_come_9 : decode cX8_come 9 = .ok (.iadd, 1) := by decide +kernel
theorem dX8_come_10 : decode cX8_come 10 = .ok (.laload, 1) := by decide +kernel
theorem dX8_come_11 : decode cX8_come 11 = .ok (.lstore_n 3, 1) := by decide +kernel
theorem dX8_come_12 : decode cX8_come 12 = .ok (.aload_n 0, 1) := by decide +kernel
theorem dX8_come_13 : decode cX8_come 13 = .ok (.getfield 21, 3) := by decide +kernel
theorem dX8_come_16 : decode cX8_come 16 = .ok (.iload_n 2, 1) := by decide +kernel
theorem dX8_come_17 : decode cX8_come 17 = .ok (.iaload, 1) := by decide +kernel
theorem dX8_come_18 : decode cX8_come 18 = .ok (.istore 5, 2) := by decide +kernel
theorem dX8_come_20 : decode cX8_come 20 = .ok (.iconst 1, 1) := by decide +kernel
theorem dX8_come_21 : decode cX8_come 21 = .ok (.istore 6, 2) := by decide +kernel
theorem dX8_come_23 : decode cX8_come 23 = .ok (.iload 6, 2) := by decide +kernel
theorem dX8_come_25 : decode cX8_come 25 = .ok (.aload_n 0, 1) := by decide +kernel
theorem dX8_come_26 : decode cX8_come 26 = .ok (.getfield 33, 3) := by decide +kernel
theorem dX8_come_29 : decode cX8_come 29 = .ok (.iload_n 2, 1) := by decide +kernel
theorem dX8_come_30 : decode cX8_come 30 = .ok (.iaload, 1) := by decide +kernel
theorem dX8_come_31 : decode cX8_come 31 = .ok (.if_icmp .ge 84, 3) := by decide +kernel
theorem dX8_come_34 : decode cX8_come 34 = .ok (.aload_n 0, 1) := by decide +kernel
theorem dX8_come_35 : decode cX8_come 35 = .ok (.iload 6, 2) := by decide +kernel
theorem dX8_come_37 : decode cX8_come 37 = .ok (.iload_n 2, 1) := by decide +kernel
theorem dX8_come_38 : decode cX8_come 38 = .ok (.invokevirtual 187, 3) := by decide +kernel
theorem dX8_come_41 : decode cX8_come 41 = .ok (.istore 7, 2) := by decide +kernel
theorem dX8_come_43 : decode cX8_come 43 = .ok (.aload_n 0, 1) := by decide +kernel
theorem dX8_come_44 : decode cX8_come 44 = .ok (.getfield 7, 3) := by decide +kernel
theorem dX8_come_47 : decode cX8_come 47 = .ok (.iload_n 1, 1) := by decide +kernel
theorem dX8_come_48 : decode cX8_come 48 = .ok (.iaload, 1) := by decide +kernel
theorem dX8_come_49 : decode cX8_come 49 = .ok (.lload_n 3, 1) := by decide +kernel
theorem dX8_come_50 : decode cX8_come 50 = .ok (.aload_n 0, 1) := by decide +kernel
theorem dX8_come_51 : decode cX8_come 51 = .ok (.getfield 17, 3) := by decide +kernel
theorem dX8_come_54 : decode cX8_come 54 = .ok (.bipush 6, 2) := by decide +kernel
theorem dX8_come_56 : decode cX8_come 56 = .ok (.iload 7, 2) := by decide +kernel
theorem dX8_come_58 : decode cX8_come 58 = .ok (.imul, 1) := by decide +kernel
theorem dX8_come_59 : decode cX8_come 59 = .ok (.iload_n 1, 1) := by decide +kernel
theorem dX8_come_60 : decode cX8_come 60 = .ok (.iadd, 1) := by decide +kernel
theorem dX8_come_61 : decode cX8_come 61 = .ok (.laload, 1) := by decide +kernel
theorem dX8_come_62 : decode cX8_come 62 = .ok (.aload_n 0, 1) := by decide +kernel
theorem dX8_come_63 : decode cX8_come 63 = .ok (.getfield 21, 3) := by decide +kernel
theorem dX8_come_66 : decode cX8_come 66 = .ok (.iload 7, 2) := by decide +kernel
theorem dX8_come_68 : decode cX8_come 68 = .ok (.iaload, 1) := by decide +kernel
theorem dX8_come_69 : decode cX8_come 69 = .ok (.iload 5, 2) := by decide +kernel
theorem dX8_come_71 : decode cX8_come 71 = .ok (.if_icmp .le 7, 3) := by decide +kernel
theorem dX8_come_74 : decode cX8_come 74 = .ok (.iconst 1, 1) := by decide +kernel
theorem dX8_come_75 : decode cX8_come 75 = .ok (.goto 4, 3) := by decide +kernel
theorem dX8_come_78 : decode cX8_come 78 = .ok (.iconst 0, 1) := by decide +kernel
theorem dX8_come_79 : decode cX8_come 79 = .ok (.invokestatic 264, 3) := by decide +kernel
theorem dX8_come_82 : decode cX8_come 82 = .ok (.lstore_n 3, 1) := by decide +kernel
theorem dX8_come_83 : decode cX8_come 83 = .ok (.aload_n 0, 1) := by decide +kernel
theorem dX8_come_84 : decode cX8_come 84 = .ok (.getfield 21, 3) := by decide +kernel
theorem dX8_come_87 : decode cX8_come 87 = .ok (.iload 7, 2) := by decide +kernel
theorem dX8_come_89 : decode cX8_come 89 = .ok (.iaload, 1) := by decide +kernel
theorem dX8_come_90 : decode cX8_come 90 = .ok (.iload 5, 2) := by decide +kernel
theorem dX8_come_92 : decode cX8_come 92 = .ok (.if_icmp .le 13, 3) := by decide +kernel
theorem dX8_come_95 : decode cX8_come 95 = .ok (.aload_n 0, 1) := by decide +kernel
theorem dX8_come_96 : decode cX8_come 96 = .ok (.getfield 21, 3) := by decide +kernel
theorem dX8_come_99 : decode cX8_come 99 = .ok (.iload 7, 2) := by decide +kernel
theorem dX8_come_101 : decode cX8_come 101 = .ok (.iaload, 1) := by decide +kernel
theorem dX8_come_102 : decode cX8_come 102 = .ok (.goto 5, 3) := by decide +kernel
theorem dX8_come_105 : decode cX8_come 105 = .ok (.iload 5, 2) := by decide +kernel
theorem dX8_come_107 : decode cX8_come 107 = .ok (.istore 5, 2) := by decide +kernel
theorem dX8_come_109 : decode cX8_come 109 = .ok (.iinc 6 1, 3) := by decide +kernel
theorem dX8_come_112 : decode cX8_come 112 = .ok (.goto (-89), 3) := by decide +kernel
theorem dX8_come_115 : decode cX8_come 115 = .ok (.lload_n 3, 1) := by decide +kernel
theorem dX8_come_116 : decode cX8_come 116 = .ok (.lreturn, 1) := by decide +kernel
theorem dX8_joinBack_0 : decode cX8_joinBack 0 = .ok (.iconst 0, 1) := by decide +kernel
theorem dX8_joinBack_1 : decode cX8_joinBack 1 = .ok (.istore_n 2, 1) := by decide +kernel
theorem dX8_joinBack_2 : decode cX8_joinBack 2 = .ok (.aload_n 0, 1) := by decide +kernel
theorem dX8_joinBack_3 : decode cX8_joinBack 3 = .ok (.getfield 21, 3) := by decide +kernel
theorem dX8_joinBack_6 : decode cX8_joinBack 6 = .ok (.iload_n 1, 1) := by decide +kernel
theorem dX8_joinBack_7 : decode cX8_joinBack 7 = .ok (.iaload, 1) := by decide +kernel
theorem dX8_joinBack_8 : decode cX8_joinBack 8 = .ok (.istore_n 3, 1) := by decide +kernel
theorem dX8_joinBack_9 : decode cX8_joinBack 9 = .ok (.iconst 0, 1) := by decide +kernel
theorem dX8_joinBack_10 : decode cX8_joinBack 10 = .ok (.istore 4, 2) := by decide +kernel
theorem dX8_joinBack_12 : decode cX8_joinBack 12 = .ok (.iload 4, 2) := by decide +kernel
theorem dX8_joinBack_14 : decode cX8_joinBack 14 = .ok (.aload_n 0, 1) := by decide +kernel
theorem dX8_joinBack_15 : decode cX8_joinBack 15 = .ok (.getfield 130, 3) := by decide +kernel
theorem dX8_joinBack_18 : decode cX8_joinBack 18 = .ok (.if_icmp .ge 23, 3) := by decide +kernel
theorem dX8_joinBack_21 : decode cX8_joinBack 21 = .ok (.aload_n 0, 1) := by decide +kernel
theorem dX8_joinBack_22 : decode cX8_joinBack 22 = .ok (.getfield 108, 3) := by decide +kernel
theorem dX8_joinBack_25 : decode cX8_joinBack 25 = .ok (.iload 4, 2) := by decide +kernel
theorem dX8_joinBack_27 : decode cX8_joinBack 27 = .ok (.aload_n 0, 1) := by decide +kernel
theorem dX8_joinBack_28 : decode cX8_joinBack 28 = .ok (.iload 4, 2) := by decide +kernel
theorem dX8_joinBack_30 : decode cX8_joinBack 30 = .ok (.iload_n 1, 1) := by decide +kernel
theorem dX8_joinBack_31 : decode cX8_joinBack 31 = .ok (.invokevirtual 268, 3) := by decide +kernel
theorem dX8_joinBack_34 : decode cX8_joinBack 34 = .ok (.lastore, 1) := by decide +kernel
theorem dX8_joinBack_35 : decode cX8_joinBack 35 = .ok (.iinc 4 1, 3) := by decide +kernel
theorem dX8_joinBack_38 : decode cX8_joinBack 38 = .ok (.goto (-26), 3) := by decide +kernel
theorem dX8_joinBack_41 : decode cX8_joinBack 41 = .ok (.iconst 1, 1) := by decide +kernel
theorem dX8_joinBack_42 : decode cX8_joinBack 42 = .ok (.istore 4, 2) := by decide +kernel
theorem dX8_joinBack_44 : decode cX8_joinBack 44 = .ok (.iload 4, 2) := by decide +kernel
theorem dX8_joinBack_46 : decode cX8_joinBack 46 = .ok (.aload_n 0, 1) := by decide +kernel
theorem dX8_joinBack_47 : decode cX8_joinBack 47 = .ok (.getfield 33, 3) := by decide +kernel
theorem dX8_joinBack_50 : decode cX8_joinBack 50 = .ok (.iload_n 1, 1) := by decide +kernel
theorem dX8_joinBack_51 : decode cX8_joinBack 51 = .ok (.iaload, 1) := by decide +kernel
theorem dX8_joinBack_52 : decode cX8_joinBack 52 = .ok (.if_icmp .ge 59, 3) := by decide +kernel
theorem dX8_joinBack_55 : decode cX8_joinBack 55 = .ok (.aload_n 0, 1) := by decide +kernel
theorem dX8_joinBack_56 : decode cX8_joinBack 56 = .ok (.iload 4, 2) := by decide +kernel
theorem dX8_joinBack_58 : decode cX8_joinBack 58 = .ok (.iload_n 1, 1) := by decide +kernel
theorem dX8_joinBack_59 : decode cX8_joinBack 59 = .ok (.invokevirtual 187, 3) := by decide +kernel
theorem dX8_joinBack_62 : decode cX8_joinBack 62 = .ok (.istore 5, 2) := by decide +kernel
theorem dX8_joinBack_64 : decode cX8_joinBack 64 = .ok (.iload_n 2, 1) := by decide +kernel
theorem dX8_joinBack_65 : decode cX8_joinBack 65 = .ok (.aload_n 0, 1) := by decide +kernel
theorem dX8_joinBack_66 : decode cX8_joinBack 66 = .ok (.getfield 30, 3) := by decide +kernel
theorem dX8_joinBack_69 : decode cX8_joinBack 69 = .ok (.iload 5, 2) := by decide +kernel
theorem dX8_joinBack_71 : decode cX8_joinBack 71 = .ok (.baload, 1) := by decide +kernel
theorem dX8_joinBack_72 : decode cX8_joinBack 72 = .ok (.ifCond .eq 7, 3) := by decide +kernel
theorem dX8_joinBack_75 : decode cX8_joinBack 75 = .ok (.iconst 1, 1) := by decide +kernel
theorem dX8_joinBack_76 : decode cX8_joinBack 76 = .ok (.goto 4, 3) := by decide +kernel
theorem dX8_joinBack_79 : decode cX8_joinBack 79 = .ok (.iconst 0, 1) := by decide +kernel
theorem dX8_joinBack_80 : decode cX8_joinBack 80 = .ok (.iadd, 1) := by decide +kernel
theorem dX8_joinBack_81 : decode cX8_joinBack 81 = .ok (.istore_n 2, 1) := by decide +kernel
theorem dX8_joinBack_82 : decode cX8_joinBack 82 = .ok (.aload_n 0, 1) := by decide +kernel
theorem dX8_joinBack_83 : decode cX8_joinBack 83 = .ok (.getfield 21, 3) := by decide +kernel
theorem dX8_joinBack_86 : decode cX8_joinBack 86 = .ok (.iload 5, 2) := by decide +kernel
theorem dX8_joinBack_88 : decode cX8_joinBack 88 = .ok (.iaload, 1) := by decide +kernel
theorem dX8_joinBack_89 : decode cX8_joinBack 89 = .ok (.iload_n 3, 1) := by decide +kernel
theorem dX8_joinBack_90 : decode cX8_joinBack 90 = .ok (.if_icmp .le 13, 3) := by decide +kernel
theorem dX8_joinBack_93 : decode cX8_joinBack 93 = .ok (.aload_n 0, 1) := by decide +kernel
theorem dX8_joinBack_94 : decode cX8_joinBack 94 = .ok (.getfield 21, 3) := by decide +kernel
theorem dX8_joinBack_97 : decode cX8_joinBack 97 = .ok (.iload 5, 2) := by decide +kernel
theorem dX8_joinBack_99 : decode cX8_joinBack 99 = .ok (.iaload, 1) := by decide +kernel
theorem dX8_joinBack_100 : decode cX8_joinBack 100 = .ok (.goto 4, 3) := by decide +kernel
theorem dX8_joinBack_103 : decode cX8_joinBack 103 = .ok (.iload_n 3, 1) := by decide +kernel
theorem dX8_joinBack_104 : decode cX8_joinBack 104 = .ok (.istore_n 3, 1) := by decide +kernel
theorem dX8_joinBack_105 : decode cX8_joinBack 105 = .ok (.iinc 4 1, 3) := by decide +kernel
theorem dX8_joinBack_108 : decode cX8_joinBack 108 = .ok (.goto (-64), 3) := by decide +kernel
theorem dX8_joinBack_111 : decode cX8_joinBack 111 = .ok (.iconst 0, 1) := by decide +kernel
theorem dX8_joinBack_112 : decode cX8_joinBack 112 = .ok (.istore 4, 2) := by decide +kernel
theorem dX8_joinBack_114 : decode cX8_joinBack 114 = .ok (.iload 4, 2) := by decide +kernel
theorem dX8_joinBack_116 : decode cX8_joinBack 116 = .ok (.aload_n 0, 1) := by decide +kernel
theorem dX8_joinBack_117 : decode cX8_joinBack 117 = .ok (.getfield 130, 3) := by decide +kernel
theorem dX8_joinBack_120 : decode cX8_joinBack 120 = .ok (.if_icmp .ge 28, 3) := by decide +kernel
theorem dX8_joinBack_123 : decode cX8_joinBack 123 = .ok (.aload_n 0, 1) := by decide +kernel
theorem dX8_joinBack_124 : decode cX8_joinBack 124 = .ok (.getfield 17, 3) := by decide +kernel
theorem dX8_joinBack_127 : decode cX8_joinBack 127 = .ok (.bipush 6, 2) := by decide +kernel
theorem dX8_joinBack_129 : decode cX8_joinBack 129 = .ok (.iload_n 1, 1) := by decide +kernel
theorem dX8_joinBack_130 : decode cX8_joinBack 130 = .ok (.imul, 1) := by decide +kernel
theorem dX8_joinBack_131 : decode cX8_joinBack 131 = .ok (.iload 4, 2) := by decide +kernel
theorem dX8_joinBack_133 : decode cX8_joinBack 133 = .ok (.iadd, 1) := by decide +kernel
theorem dX8_joinBack_134 : decode cX8_joinBack 134 = .ok (.aload_n 0, 1) := by decide +kernel
theorem dX8_joinBack_135 : decode cX8_joinBack 135 = .ok (.getfield 108, 3) := by decide +kernel
theorem dX8_joinBack_138 : decode cX8_joinBack 138 = .ok (.iload 4, 2) := by decide +kernel
theorem dX8_joinBack_140 : decode cX8_joinBack 140 = .ok (.laload, 1) := by decide +kernel
theorem dX8_joinBack_141 : decode cX8_joinBack 141 = .ok (.lastore, 1) := by decide +kernel
theorem dX8_joinBack_142 : decode cX8_joinBack 142 = .ok (.iinc 4 1, 3) := by decide +kernel
theorem dX8_joinBack_145 : decode cX8_joinBack 145 = .ok (.goto (-31), 3) := by decide +kernel
theorem dX8_joinBack_148 : decode cX8_joinBack 148 = .ok (.aload_n 0, 1) := by decide +kernel
theorem dX8_joinBack_149 : decode cX8_joinBack 149 = .ok (.getfield 21, 3) := by decide +kernel
theorem dX8_joinBack_152 : decode cX8_joinBack 152 = .ok (.iload_n 1, 1) := by decide +kernel
theorem dX8_joinBack_153 : decode cX8_joinBack 153 = .ok (.iload_n 3, 1) := by decide +kernel
theorem dX8_joinBack_154 : decode cX8_joinBack 154 = .ok (.iastore, 1) := by decide +kernel
theorem dX8_joinBack_155 : decode cX8_joinBack 155 = .ok (.aload_n 0, 1) := by decide +kernel
theorem dX8_joinBack_156 : decode cX8_joinBack 156 = .ok (.getfield 33, 3) := by decide +kernel
theorem dX8_joinBack_159 : decode cX8_joinBack 159 = .ok (.iload_n 1, 1) := by decide +kernel
theorem dX8_joinBack_160 : decode cX8_joinBack 160 = .ok (.iconst 1, 1) := by decide +kernel
theorem dX8_joinBack_161 : decode cX8_joinBack 161 = .ok (.iastore, 1) := by decide +kernel
theorem dX8_joinBack_162 : decode cX8_joinBack 162 = .ok (.aload_n 0, 1) := by decide +kernel
theorem dX8_joinBack_163 : decode cX8_joinBack 163 = .ok (.dup, 1) := by decide +kernel
theorem dX8_joinBack_164 : decode cX8_joinBack 164 = .ok (.getfield 148, 3) := by decide +kernel
theorem dX8_joinBack_167 : decode cX8_joinBack 167 = .ok (.iload_n 2, 1) := by decide +kernel
theorem dX8_joinBack_168 : decode cX8_joinBack 168 = .ok (.iadd, 1) := by decide +kernel
theorem dX8_joinBack_169 : decode cX8_joinBack 169 = .ok (.putfield 148, 3) := by decide +kernel
theorem dX8_joinBack_172 : decode cX8_joinBack 172 = .ok (.iload_n 2, 1) := by decide +kernel
theorem dX8_joinBack_173 : decode cX8_joinBack 173 = .ok (.ireturn, 1) := by decide +kernel
theorem dX8_state_0 : decode cX8_state 0 = .ok (.iload_n 1, 1) := by decide +kernel
theorem dX8_state_1 : decode cX8_state 1 = .ok (.i2l, 1) := by decide +kernel
theorem dX8_state_2 : decode cX8_state 2 = .ok (.lconst 0, 1) := by decide +kernel
theorem dX8_state_3 : decode cX8_state 3 = .ok (.aload_n 0, 1) := by decide +kernel
theorem dX8_state_4 : decode cX8_state 4 = .ok (.getfield 130, 3) := by decide +kernel
theorem dX8_state_7 : decode cX8_state 7 = .ok (.iconst 1, 1) := by decide +kernel
theorem dX8_state_8 : decode cX8_state 8 = .ok (.isub, 1) := by decide +kernel
theorem dX8_state_9 : decode cX8_state 9 = .ok (.i2l, 1) := by decide +kernel
theorem dX8_state_10 : decode cX8_state 10 = .ok (.invokestatic 197, 3) := by decide +kernel
theorem dX8_state_13 : decode cX8_state 13 = .ok (.ifCond .eq 11, 3) := by decide +kernel
theorem dX8_state_16 : decode cX8_state 16 = .ok (.aload_n 0, 1) := by decide +kernel
theorem dX8_state_17 : decode cX8_state 17 = .ok (.iload_n 2, 1) := by decide +kernel
theorem dX8_state_18 : decode cX8_state 18 = .ok (.invokevirtual 220, 3) := by decide +kernel
theorem dX8_state_21 : decode cX8_state 21 = .ok (.ifCond .eq 9, 3) := by decide +kernel
theorem dX8_state_24 : decode cX8_state 24 = .ok (.ldc2_w 185, 3) := by decide +kernel
theorem dX8_state_27 : decode cX8_state 27 = .ok (.goto 9, 3) := by decide +kernel
theorem dX8_state_30 : decode cX8_state 30 = .ok (.aload_n 0, 1) := by decide +kernel
theorem dX8_state_31 : decode cX8_state 31 = .ok (.iload_n 1, 1) := by decide +kernel
theorem dX8_state_32 : decode cX8_state 32 = .ok (.iload_n 2, 1) := by decide +kernel
theorem dX8_state_33 : decode cX8_state 33 = .ok (.invokevirtual 268, 3) := by decide +kernel
theorem dX8_state_36 : decode cX8_state 36 = .ok (.lreturn, 1) := by decide +kernel
theorem dX8_part_0 : decode cX8_part 0 = .ok (.iload_n 1, 1) := by decide +kernel
theorem dX8_part_1 : decode cX8_part 1 = .ok (.i2l, 1) := by decide +kernel
theorem dX8_part_2 : decode cX8_part 2 = .ok (.lconst 0, 1) := by decide +kernel
theorem dX8_part_3 : decode cX8_part 3 = .ok (.aload_n 0, 1) := by decide +kernel
theorem dX8_part_4 : decode cX8_part 4 = .ok (.getfield 130, 3) := by decide +kernel
theorem dX8_part_7 : decode cX8_part 7 = .ok (.iconst 1, 1) := by decide +kernel
theorem dX8_part_8 : decode cX8_part 8 = .ok (.isub, 1) := by decide +kernel
theorem dX8_part_9 : decode cX8_part 9 = .ok (.i2l, 1) := by decide +kernel
theorem dX8_part_10 : decode cX8_part 10 = .ok (.invokestatic 197, 3) := by decide +kernel
theorem dX8_part_13 : decode cX8_part 13 = .ok (.ifCond .eq 45, 3) := by decide +kernel
theorem dX8_part_16 : decode cX8_part 16 = .ok (.aload_n 0, 1) := by decide +kernel
theorem dX8_part_17 : decode cX8_part 17 = .ok (.iload_n 2, 1) := by decide +kernel
theorem dX8_part_18 : decode cX8_part 18 = .ok (.invokevirtual 220, 3) := by decide +kernel
theorem dX8_part_21 : decode cX8_part 21 = .ok (.ifCond .ne 37, 3) := by decide +kernel
theorem dX8_part_24 : decode cX8_part 24 = .ok (.iload_n 3, 1) := by decide +kernel
theorem dX8_part_25 : decode cX8_part 25 = .ok (.i2l, 1) := by decide +kernel
theorem dX8_part_26 : decode cX8_part 26 = .ok (.lconst 0, 1) := by decide +kernel
theorem dX8_part_27 : decode cX8_part 27 = .ok (.aload_n 0, 1) := by decide +kernel
theorem dX8_part_28 : decode cX8_part 28 = .ok (.getfield 33, 3) := by decide +kernel
theorem dX8_part_31 : decode cX8_part 31 = .ok (.aload_n 0, 1) := by decide +kernel
theorem dX8_part_32 : decode cX8_part 32 = .ok (.iload_n 2, 1) := by decide +kernel
theorem dX8_part_33 : decode cX8_part 33 = .ok (.invokevirtual 220, 3) := by decide +kernel
theorem dX8_part_36 : decode cX8_part 36 = .ok (.ifCond .eq 7, 3) := by decide +kernel
theorem dX8_part_39 : decode cX8_part 39 = .ok (.iconst 0, 1) := by decide +kernel
theorem dX8_part_40 : decode cX8_part 40 = .ok (.goto 4, 3) := by decide +kernel
theorem dX8_part_43 : decode cX8_part 43 = .ok (.iload_n 2, 1) := by decide +kernel
theorem dX8_part_44 : decode cX8_part 44 = .ok (.iaload, 1) := by decide +kernel
theorem dX8_part_45 : decode cX8_part 45 = .ok (.iconst 1, 1) := by decide +kernel
theorem dX8_part_46 : decode cX8_part 46 = .ok (.isub, 1) := by decide +kernel
theorem dX8_part_47 : decode cX8_part 47 = .ok (.i2l, 1) := by decide +kernel
theorem dX8_part_48 : decode cX8_part 48 = .ok (.invokestatic 197, 3) := by decide +kernel
theorem dX8_part_51 : decode cX8_part 51 = .ok (.ifCond .eq 7, 3) := by decide +kernel
theorem dX8_part_54 : decode cX8_part 54 = .ok (.iconst 1, 1) := by decide +kernel
theorem dX8_part_55 : decode cX8_part 55 = .ok (.goto 4, 3) := by decide +kernel
theorem dX8_part_58 : decode cX8_part 58 = .ok (.iconst 0, 1) := by decide +kernel
theorem dX8_part_59 : decode cX8_part 59 = .ok (.istore 4, 2) := by decide +kernel
theorem dX8_part_61 : decode cX8_part 61 = .ok (.iload 4, 2) := by decide +kernel
theorem dX8_part_63 : decode cX8_part 63 = .ok (.ifCond .eq 22, 3) := by decide +kernel
theorem dX8_part_66 : decode cX8_part 66 = .ok (.aload_n 0, 1) := by decide +kernel
theorem dX8_part_67 : decode cX8_part 67 = .ok (.getfield 17, 3) := by decide +kernel
theorem dX8_part_70 : decode cX8_part 70 = .ok (.bipush 6, 2) := by decide +kernel
theorem dX8_part_72 : decode cX8_part 72 = .ok (.aload_n 0, 1) := by decide +kernel
theorem dX8_part_73 : decode cX8_part 73 = .ok (.iload_n 3, 1) := by decide +kernel
theorem dX8_part_74 : decode cX8_part 74 = .ok (.iload_n 2, 1) := by decide +kernel
theorem dX8_part_75 : decode cX8_part 75 = .ok (.invokevirtual 187, 3) := by decide +kernel
theorem dX8_part_78 : decode cX8_part 78 = .ok (.imul, 1) := by decide +kernel
theorem dX8_part_79 : decode cX8_part 79 = .ok (.iload_n 1, 1) := by decide +kernel
theorem dX8_part_80 : decode cX8_part 80 = .ok (.iadd, 1) := by decide +kernel
theorem dX8_part_81 : decode cX8_part 81 = .ok (.laload, 1) := by decide +kernel
theorem dX8_part_82 : decode cX8_part 82 = .ok (.goto 6, 3) := by decide +kernel
theorem dX8_part_85 : decode cX8_part 85 = .ok (.ldc2_w 185, 3) := by decide +kernel
theorem dX8_part_88 : decode cX8_part 88 = .ok (.lreturn, 1) := by decide +kernel
theorem dX8_parts_0 : decode cX8_parts 0 = .ok (.aload_n 0, 1) := by decide +kernel
theorem dX8_parts_1 : decode cX8_parts 1 = .ok (.iload_n 1, 1) := by decide +kernel
theorem dX8_parts_2 : decode cX8_parts 2 = .ok (.invokevirtual 220, 3) := by decide +kernel
theorem dX8_parts_5 : decode cX8_parts 5 = .ok (.ifCond .eq 8, 3) := by decide +kernel
theorem dX8_parts_8 : decode cX8_parts 8 = .ok (.bipush (-101), 2) := by decide +kernel
theorem dX8_parts_10 : decode cX8_parts 10 = .ok (.goto 9, 3) := by decide +kernel
theorem dX8_parts_13 : decode cX8_parts 13 = .ok (.aload_n 0, 1) := by decide +kernel
theorem dX8_parts_14 : decode cX8_parts 14 = .ok (.getfield 33, 3) := by decide +kernel
theorem dX8_parts_17 : decode cX8_parts 17 = .ok (.iload_n 1, 1) := by decide +kernel
theorem dX8_parts_18 : decode cX8_parts 18 = .ok (.iaload, 1) := by decide +kernel
theorem dX8_parts_19 : decode cX8_parts 19 = .ok (.ireturn, 1) := by decide +kernel
theorem dX8_place_0 : decode cX8_place 0 = .ok (.aload_n 0, 1) := by decide +kernel
theorem dX8_place_1 : decode cX8_place 1 = .ok (.iload_n 1, 1) := by decide +kernel
theorem dX8_place_2 : decode cX8_place 2 = .ok (.invokevirtual 220, 3) := by decide +kernel
theorem dX8_place_5 : decode cX8_place 5 = .ok (.ifCond .eq 6, 3) := by decide +kernel
theorem dX8_place_8 : decode cX8_place 8 = .ok (.bipush (-101), 2) := by decide +kernel
theorem dX8_place_10 : decode cX8_place 10 = .ok (.ireturn, 1) := by decide +kernel
theorem dX8_place_11 : decode cX8_place 11 = .ok (.iload_n 2, 1) := by decide +kernel
theorem dX8_place_12 : decode cX8_place 12 = .ok (.i2l, 1) := by decide +kernel
theorem dX8_place_13 : decode cX8_place 13 = .ok (.lconst 0, 1) := by decide +kernel
theorem dX8_place_14 : decode cX8_place 14 = .ok (.aload_n 0, 1) := by decide +kernel
theorem dX8_place_15 : decode cX8_place 15 = .ok (.getfield 33, 3) := by decide +kernel
theorem dX8_place_18 : decode cX8_place 18 = .ok (.iload_n 1, 1) := by decide +kernel
theorem dX8_place_19 : decode cX8_place 19 = .ok (.iaload, 1) := by decide +kernel
theorem dX8_place_20 : decode cX8_place 20 = .ok (.iconst 1, 1) := by decide +kernel
theorem dX8_place_21 : decode cX8_place 21 = .ok (.isub, 1) := by decide +kernel
theorem dX8_place_22 : decode cX8_place 22 = .ok (.i2l, 1) := by decide +kernel
theorem dX8_place_23 : decode cX8_place 23 = .ok (.invokestatic 197, 3) := by decide +kernel
theorem dX8_place_26 : decode cX8_place 26 = .ok (.ifCond .eq 12, 3) := by decide +kernel
theorem dX8_place_29 : decode cX8_place 29 = .ok (.aload_n 0, 1) := by decide +kernel
theorem dX8_place_30 : decode cX8_place 30 = .ok (.iload_n 1, 1) := by decide +kernel
theorem dX8_place_31 : decode cX8_place 31 = .ok (.iload_n 2, 1) := by decide +kernel
theorem dX8_place_32 : decode cX8_place 32 = .ok (.invokevirtual 235, 3) := by decide +kernel
theorem dX8_place_35 : decode cX8_place 35 = .ok (.goto 4, 3) := by decide +kernel
theorem dX8_place_38 : decode cX8_place 38 = .ok (.iconst (-1), 1) := by decide +kernel
theorem dX8_place_39 : decode cX8_place 39 = .ok (.ireturn, 1) := by decide +kernel
theorem dX8_split_0 : decode cX8_split 0 = .ok (.aload_n 0, 1) := by decide +kernel
theorem dX8_split_1 : decode cX8_split 1 = .ok (.iload_n 1, 1) := by decide +kernel
theorem dX8_split_2 : decode cX8_split 2 = .ok (.invokevirtual 220, 3) := by decide +kernel
theorem dX8_split_5 : decode cX8_split 5 = .ok (.ifCond .eq 6, 3) := by decide +kernel
theorem dX8_split_8 : decode cX8_split 8 = .ok (.bipush (-101), 2) := by decide +kernel
theorem dX8_split_10 : decode cX8_split 10 = .ok (.ireturn, 1) := by decide +kernel
theorem dX8_split_11 : decode cX8_split 11 = .ok (.iload_n 2, 1) := by decide +kernel
theorem dX8_split_12 : decode cX8_split 12 = .ok (.i2l, 1) := by decide +kernel
theorem dX8_split_13 : decode cX8_split 13 = .ok (.ldc2_w 205, 3) := by decide +kernel
theorem dX8_split_16 : decode cX8_split 16 = .ok (.aload_n 0, 1) := by decide +kernel
theorem dX8_split_17 : decode cX8_split 17 = .ok (.getfield 114, 3) := by decide +kernel
theorem dX8_split_20 : decode cX8_split 20 = .ok (.i2l, 1) := by decide +kernel
theorem dX8_split_21 : decode cX8_split 21 = .ok (.invokestatic 197, 3) := by decide +kernel
theorem dX8_split_24 : decode cX8_split 24 = .ok (.ifCond .ne 6, 3) := by decide +kernel
theorem dX8_split_27 : decode cX8_split 27 = .ok (.bipush (-102), 2) := by decide +kernel
theorem dX8_split_29 : decode cX8_split 29 = .ok (.ireturn, 1) := by decide +kernel
theorem dX8_split_30 : decode cX8_split 30 = .ok (.aload_n 0, 1) := by decide +kernel
theorem dX8_split_31 : decode cX8_split 31 = .ok (.getfield 33, 3) := by decide +kernel
theorem dX8_split_34 : decode cX8_split 34 = .ok (.iload_n 1, 1) := by decide +kernel
theorem dX8_split_35 : decode cX8_split 35 = .ok (.iaload, 1) := by decide +kernel
theorem dX8_split_36 : decode cX8_split 36 = .ok (.iconst 1, 1) := by decide +kernel
theorem dX8_split_37 : decode cX8_split 37 = .ok (.if_icmp .gt 10, 3) := by decide +kernel
theorem dX8_split_40 : decode cX8_split 40 = .ok (.aload_n 0, 1) := by decide +kernel
theorem dX8_split_41 : decode cX8_split 41 = .ok (.invokevirtual 251, 3) := by decide +kernel
theorem dX8_split_44 : decode cX8_split 44 = .ok (.ifCond .ne 6, 3) := by decide +kernel
theorem dX8_split_47 : decode cX8_split 47 = .ok (.bipush (-103), 2) := by decide +kernel
theorem dX8_split_49 : decode cX8_split 49 = .ok (.ireturn, 1) := by decide +kernel
theorem dX8_split_50 : decode cX8_split 50 = .ok (.aload_n 0, 1) := by decide +kernel
theorem dX8_split_51 : decode cX8_split 51 = .ok (.iload_n 1, 1) := by decide +kernel
theorem dX8_split_52 : decode cX8_split 52 = .ok (.iload_n 2, 1) := by decide +kernel
theorem dX8_split_53 : decode cX8_split 53 = .ok (.invokevirtual 255, 3) := by decide +kernel
theorem dX8_split_56 : decode cX8_split 56 = .ok (.iconst 1, 1) := by decide +kernel
theorem dX8_split_57 : decode cX8_split 57 = .ok (.ireturn, 1) := by decide +kernel
theorem dX8_back_0 : decode cX8_back 0 = .ok (.aload_n 0, 1) := by decide +kernel
theorem dX8_back_1 : decode cX8_back 1 = .ok (.iload_n 1, 1) := by decide +kernel
theorem dX8_back_2 : decode cX8_back 2 = .ok (.invokevirtual 220, 3) := by decide +kernel
theorem dX8_back_5 : decode cX8_back 5 = .ok (.ifCond .eq 6, 3) := by decide +kernel
theorem dX8_back_8 : decode cX8_back 8 = .ok (.bipush (-101), 2) := by decide +kernel
theorem dX8_back_10 : decode cX8_back 10 = .ok (.ireturn, 1) := by decide +kernel
theorem dX8_back_11 : decode cX8_back 11 = .ok (.aload_n 0, 1) := by decide +kernel
theorem dX8_back_12 : decode cX8_back 12 = .ok (.getfield 33, 3) := by decide +kernel
theorem dX8_back_15 : decode cX8_back 15 = .ok (.iload_n 1, 1) := by decide +kernel
theorem dX8_back_16 : decode cX8_back 16 = .ok (.iaload, 1) := by decide +kernel
theorem dX8_back_17 : decode cX8_back 17 = .ok (.iconst 1, 1) := by decide +kernel
theorem dX8_back_18 : decode cX8_back 18 = .ok (.if_icmp .ne 8, 3) := by decide +kernel
theorem dX8_back_21 : decode cX8_back 21 = .ok (.bipush (-103), 2) := by decide +kernel
theorem dX8_back_23 : decode cX8_back 23 = .ok (.goto 8, 3) := by decide +kernel
theorem dX8_back_26 : decode cX8_back 26 = .ok (.aload_n 0, 1) := by decide +kernel
theorem dX8_back_27 : decode cX8_back 27 = .ok (.iload_n 1, 1) := by decide +kernel
theorem dX8_back_28 : decode cX8_back 28 = .ok (.invokevirtual 261, 3) := by decide +kernel
theorem dX8_back_31 : decode cX8_back 31 = .ok (.ireturn, 1) := by decide +kernel
theorem dX8_tree_0 : decode cX8_tree 0 = .ok (.aload_n 0, 1) := by decide +kernel
theorem dX8_tree_1 : decode cX8_tree 1 = .ok (.iload_n 1, 1) := by decide +kernel
theorem dX8_tree_2 : decode cX8_tree 2 = .ok (.invokevirtual 220, 3) := by decide +kernel
theorem dX8_tree_5 : decode cX8_tree 5 = .ok (.ifCond .eq 6, 3) := by decide +kernel
theorem dX8_tree_8 : decode cX8_tree 8 = .ok (.bipush (-101), 2) := by decide +kernel
theorem dX8_tree_10 : decode cX8_tree 10 = .ok (.ireturn, 1) := by decide +kernel
theorem dX8_tree_11 : decode cX8_tree 11 = .ok (.aload_n 0, 1) := by decide +kernel
theorem dX8_tree_12 : decode cX8_tree 12 = .ok (.getfield 33, 3) := by decide +kernel
theorem dX8_tree_15 : decode cX8_tree 15 = .ok (.iload_n 1, 1) := by decide +kernel
theorem dX8_tree_16 : decode cX8_tree 16 = .ok (.iaload, 1) := by decide +kernel
theorem dX8_tree_17 : decode cX8_tree 17 = .ok (.istore_n 3, 1) := by decide +kernel
theorem dX8_tree_18 : decode cX8_tree 18 = .ok (.iconst 1, 1) := by decide +kernel
theorem dX8_tree_19 : decode cX8_tree 19 = .ok (.istore 4, 2) := by decide +kernel
theorem dX8_tree_21 : decode cX8_tree 21 = .ok (.iconst 0, 1) := by decide +kernel
theorem dX8_tree_22 : decode cX8_tree 22 = .ok (.istore 5, 2) := by decide +kernel
theorem dX8_tree_24 : decode cX8_tree 24 = .ok (.iconst 0, 1) := by decide +kernel
theorem dX8_tree_25 : decode cX8_tree 25 = .ok (.istore 6, 2) := by decide +kernel
theorem dX8_tree_27 : decode cX8_tree 27 = .ok (.iload 6, 2) := by decide +kernel
theorem dX8_tree_29 : decode cX8_tree 29 = .ok (.iconst 3, 1) := by decide +kernel
theorem dX8_tree_30 : decode cX8_tree 30 = .ok (.if_icmp .ge 69, 3) := by decide +kernel
theorem dX8_tree_33 : decode cX8_tree 33 = .ok (.iload_n 3, 1) := by decide +kernel
theorem dX8_tree_34 : decode cX8_tree 34 = .ok (.iconst 1, 1) := by decide +kernel
theorem dX8_tree_35 : decode cX8_tree 35 = .ok (.if_icmp .le 64, 3) := by decide +kernel
theorem dX8_tree_38 : decode cX8_tree 38 = .ok (.iconst 0, 1) := by decide +kernel
theorem dX8_tree_39 : decode cX8_tree 39 = .ok (.istore 7, 2) := by decide +kernel
theorem dX8_tree_41 : decode cX8_tree 41 = .ok (.iload 7, 2) := by decide +kernel
theorem dX8_tree_43 : decode cX8_tree 43 = .ok (.iconst 1, 1) := by decide +kernel
theorem dX8_tree_44 : decode cX8_tree 44 = .ok (.iadd, 1) := by decide +kernel
theorem dX8_tree_45 : decode cX8_tree 45 = .ok (.iload_n 3, 1) := by decide +kernel
theorem dX8_tree_46 : decode cX8_tree 46 = .ok (.if_icmp .ge 35, 3) := by decide +kernel
theorem dX8_tree_49 : decode cX8_tree 49 = .ok (.iload 5, 2) := by decide +kernel
theorem dX8_tree_51 : decode cX8_tree 51 = .ok (.iload_n 2, 1) := by decide +kernel
theorem dX8_tree_52 : decode cX8_tree 52 = .ok (.if_icmp .ne 20, 3) := by decide +kernel
theorem dX8_tree_55 : decode cX8_tree 55 = .ok (.bipush 8, 2) := by decide +kernel
theorem dX8_tree_57 : decode cX8_tree 57 = .ok (.iload 7, 2) := by decide +kernel
theorem dX8_tree_59 : decode cX8_tree 59 = .ok (.iload 4, 2) := by decide +kernel
theorem dX8_tree_61 : decode cX8_tree 61 = .ok (.imul, 1) := by decide +kernel
theorem dX8_tree_62 : decode cX8_tree 62 = .ok (.imul, 1) := by decide +kernel
theorem dX8_tree_63 : decode cX8_tree 63 = .ok (.iload 7, 2) := by decide +kernel
theorem dX8_tree_65 : decode cX8_tree 65 = .ok (.iconst 1, 1) := by decide +kernel
theorem dX8_tree_66 : decode cX8_tree 66 = .ok (.iadd, 1) := by decide +kernel
theorem dX8_tree_67 : decode cX8_tree 67 = .ok (.iload 4, 2) := by decide +kernel
theorem dX8_tree_69 : decode cX8_tree 69 = .ok (.imul, 1) := by decide +kernel
theorem dX8_tree_70 : decode cX8_tree 70 = .ok (.iadd, 1) := by decide +kernel
theorem dX8_tree_71 : decode cX8_tree 71 = .ok (.ireturn, 1) := by decide +kernel
theorem dX8_tree_72 : decode cX8_tree 72 = .ok (.iinc 5 1, 3) := by decide +kernel
theorem dX8_tree_75 : decode cX8_tree 75 = .ok (.iinc 7 2, 3) := by decide +kernel
theorem dX8_tree_78 : decode cX8_tree 78 = .ok (.goto (-37), 3) := by decide +kernel
theorem dX8_tree_81 : decode cX8_tree 81 = .ok (.iload_n 3, 1) := by decide +kernel
theorem dX8_tree_82 : decode cX8_tree 82 = .ok (.iconst 1, 1) := by decide +kernel
theorem dX8_tree_83 : decode cX8_tree 83 = .ok (.iadd, 1) := by decide +kernel
theorem dX8_tree_84 : decode cX8_tree 84 = .ok (.iconst 2, 1) := by decide +kernel
theorem dX8_tree_85 : decode cX8_tree 85 = .ok (.idiv, 1) := by decide +kernel
theorem dX8_tree_86 : decode cX8_tree 86 = .ok (.istore_n 3, 1) := by decide +kernel
theorem dX8_tree_87 : decode cX8_tree 87 = .ok (.iconst 2, 1) := by decide +kernel
theorem dX8_tree_88 : decode cX8_tree 88 = .ok (.iload 4, 2) := by decide +kernel
theorem dX8_tree_90 : decode cX8_tree 90 = .ok (.imul, 1) := by decide +kernel
theorem dX8_tree_91 : decode cX8_tree 91 = .ok (.istore 4, 2) := by decide +kernel
theorem dX8_tree_93 : decode cX8_tree 93 = .ok (.iinc 6 1, 3) := by decide +kernel
theorem dX8_tree_96 : decode cX8_tree 96 = .ok (.goto (-69), 3) := by decide +kernel
theorem dX8_tree_99 : decode cX8_tree 99 = .ok (.iconst (-1), 1) := by decide +kernel
theorem dX8_tree_100 : decode cX8_tree 100 = .ok (.ireturn, 1) := by decide +kernel
theorem dX8_counter_0 : decode cX8_counter 0 = .ok (.iload_n 1, 1) := by decide +kernel
theorem dX8_counter_1 : decode cX8_counter 1 = .ok (.i2l, 1) := by decide +kernel
theorem dX8_counter_2 : decode cX8_counter 2 = .ok (.lconst 0, 1) := by decide +kernel
theorem dX8_counter_3 : decode cX8_counter 3 = .ok (.aload_n 0, 1) := by decide +kernel
theorem dX8_counter_4 : decode cX8_counter 4 = .ok (.getfield 127, 3) := by decide +kernel
theorem dX8_counter_7 : decode cX8_counter 7 = .ok (.iconst 1, 1) := by decide +kernel
theorem dX8_counter_8 : decode cX8_counter 8 = .ok (.isub, 1) := by decide +kernel
theorem dX8_counter_9 : decode cX8_counter 9 = .ok (.i2l, 1) := by decide +kernel
theorem dX8_counter_10 : decode cX8_counter 10 = .ok (.invokestatic 197, 3) := by decide +kernel
theorem dX8_counter_13 : decode cX8_counter 13 = .ok (.ifCond .eq 15, 3) := by decide +kernel
theorem dX8_counter_16 : decode cX8_counter 16 = .ok (.iload_n 2, 1) := by decide +kernel
theorem dX8_counter_17 : decode cX8_counter 17 = .ok (.i2l, 1) := by decide +kernel
theorem dX8_counter_18 : decode cX8_counter 18 = .ok (.lconst 0, 1) := by decide +kernel
theorem dX8_counter_19 : decode cX8_counter 19 = .ok (.ldc2_w 205, 3) := by decide +kernel
theorem dX8_counter_22 : decode cX8_counter 22 = .ok (.invokestatic 197, 3) := by decide +kernel
theorem dX8_counter_25 : decode cX8_counter 25 = .ok (.ifCond .ne 6, 3) := by decide +kernel
theorem dX8_counter_28 : decode cX8_counter 28 = .ok (.bipush (-102), 2) := by decide +kernel
theorem dX8_counter_30 : decode cX8_counter 30 = .ok (.ireturn, 1) := by decide +kernel
theorem dX8_counter_31 : decode cX8_counter 31 = .ok (.iload_n 2, 1) := by decide +kernel
theorem dX8_counter_32 : decode cX8_counter 32 = .ok (.ifCond .ne 12, 3) := by decide +kernel
theorem dX8_counter_35 : decode cX8_counter 35 = .ok (.aload_n 0, 1) := by decide +kernel
theorem dX8_counter_36 : decode cX8_counter 36 = .ok (.getfield 39, 3) := by decide +kernel
theorem dX8_counter_39 : decode cX8_counter 39 = .ok (.iload_n 1, 1) := by decide +kernel
theorem dX8_counter_40 : decode cX8_counter 40 = .ok (.iaload, 1) := by decide +kernel
theorem dX8_counter_41 : decode cX8_counter 41 = .ok (.goto 23, 3) := by decide +kernel
theorem dX8_counter_44 : decode cX8_counter 44 = .ok (.iload_n 2, 1) := by decide +kernel
theorem dX8_counter_45 : decode cX8_counter 45 = .ok (.iconst 1, 1) := by decide +kernel
theorem dX8_counter_46 : decode cX8_counter 46 = .ok (.if_icmp .ne 12, 3) := by decide +kernel
theorem dX8_counter_49 : decode cX8_counter 49 = .ok (.aload_n 0, 1) := by decide +kernel
theorem dX8_counter_50 : decode cX8_counter 50 = .ok (.getfield 42, 3) := by decide +kernel
theorem dX8_counter_53 : decode cX8_counter 53 = .ok (.iload_n 1, 1) := by decide +kernel
theorem dX8_counter_54 : decode cX8_counter 54 = .ok (.iaload, 1) := by decide +kernel
theorem dX8_counter_55 : decode cX8_counter 55 = .ok (.goto 9, 3) := by decide +kernel
theorem dX8_counter_58 : decode cX8_counter 58 = .ok (.aload_n 0, 1) := by decide +kernel
theorem dX8_counter_59 : decode cX8_counter 59 = .ok (.getfield 45, 3) := by decide +kernel
theorem dX8_counter_62 : decode cX8_counter 62 = .ok (.iload_n 1, 1) := by decide +kernel
theorem dX8_counter_63 : decode cX8_counter 63 = .ok (.iaload, 1) := by decide +kernel
theorem dX8_counter_64 : decode cX8_counter 64 = .ok (.ireturn, 1) := by decide +kernel
theorem dX8_hot_0 : decode cX8_hot 0 = .ok (.aload_n 0, 1) := by decide +kernel
theorem dX8_hot_1 : decode cX8_hot 1 = .ok (.iload_n 1, 1) := by decide +kernel
theorem dX8_hot_2 : decode cX8_hot 2 = .ok (.invokevirtual 220, 3) := by decide +kernel
theorem dX8_hot_5 : decode cX8_hot 5 = .ok (.ifCond .eq 6, 3) := by decide +kernel
theorem dX8_hot_8 : decode cX8_hot 8 = .ok (.bipush (-101), 2) := by decide +kernel
theorem dX8_hot_10 : decode cX8_hot 10 = .ok (.ireturn, 1) := by decide +kernel
theorem dX8_hot_11 : decode cX8_hot 11 = .ok (.aload_n 0, 1) := by decide +kernel
theorem dX8_hot_12 : decode cX8_hot 12 = .ok (.iload_n 1, 1) := by decide +kernel
theorem dX8_hot_13 : decode cX8_hot 13 = .ok (.invokevirtual 245, 3) := by decide +kernel
theorem dX8_hot_16 : decode cX8_hot 16 = .ok (.istore_n 2, 1) := by decide +kernel
theorem dX8_hot_17 : decode cX8_hot 17 = .ok (.iload_n 2, 1) := by decide +kernel
theorem dX8_hot_18 : decode cX8_hot 18 = .ok (.ifCond .lt 46, 3) := by decide +kernel
theorem dX8_hot_21 : decode cX8_hot 21 = .ok (.aload_n 0, 1) := by decide +kernel
theorem dX8_hot_22 : decode cX8_hot 22 = .ok (.getfield 42, 3) := by decide +kernel
theorem dX8_hot_25 : decode cX8_hot 25 = .ok (.iload_n 2, 1) := by decide +kernel
theorem dX8_hot_26 : decode cX8_hot 26 = .ok (.iaload, 1) := by decide +kernel
theorem dX8_hot_27 : decode cX8_hot 27 = .ok (.aload_n 0, 1) := by decide +kernel
theorem dX8_hot_28 : decode cX8_hot 28 = .ok (.getfield 45, 3) := by decide +kernel
theorem dX8_hot_31 : decode cX8_hot 31 = .ok (.iload_n 2, 1) := by decide +kernel
theorem dX8_hot_32 : decode cX8_hot 32 = .ok (.iaload, 1) := by decide +kernel
theorem dX8_hot_33 : decode cX8_hot 33 = .ok (.isub, 1) := by decide +kernel
theorem dX8_hot_34 : decode cX8_hot 34 = .ok (.aload_n 0, 1) := by decide +kernel
theorem dX8_hot_35 : decode cX8_hot 35 = .ok (.getfield 121, 3) := by decide +kernel
theorem dX8_hot_38 : decode cX8_hot 38 = .ok (.if_icmp .lt 7, 3) := by decide +kernel
theorem dX8_hot_41 : decode cX8_hot 41 = .ok (.iconst 2, 1) := by decide +kernel
theorem dX8_hot_42 : decode cX8_hot 42 = .ok (.goto 21, 3) := by decide +kernel
theorem dX8_hot_45 : decode cX8_hot 45 = .ok (.aload_n 0, 1) := by decide +kernel
theorem dX8_hot_46 : decode cX8_hot 46 = .ok (.getfield 42, 3) := by decide +kernel
theorem dX8_hot_49 : decode cX8_hot 49 = .ok (.iload_n 2, 1) := by decide +kernel
theorem dX8_hot_50 : decode cX8_hot 50 = .ok (.iaload, 1) := by decide +kernel
theorem dX8_hot_51 : decode cX8_hot 51 = .ok (.aload_n 0, 1) := by decide +kernel
theorem dX8_hot_52 : decode cX8_hot 52 = .ok (.getfield 121, 3) := by decide +kernel
theorem dX8_hot_55 : decode cX8_hot 55 = .ok (.if_icmp .lt 7, 3) := by decide +kernel
theorem dX8_hot_58 : decode cX8_hot 58 = .ok (.iconst 1, 1) := by decide +kernel
theorem dX8_hot_59 : decode cX8_hot 59 = .ok (.goto 4, 3) := by decide +kernel
theorem dX8_hot_62 : decode cX8_hot 62 = .ok (.iconst 0, 1) := by decide +kernel
theorem dX8_hot_63 : decode cX8_hot 63 = .ok (.ireturn, 1) := by decide +kernel
theorem dX8_hot_64 : decode cX8_hot 64 = .ok (.aload_n 0, 1) := by decide +kernel
theorem dX8_hot_65 : decode cX8_hot 65 = .ok (.invokevirtual 248, 3) := by decide +kernel
theorem dX8_hot_68 : decode cX8_hot 68 = .ok (.istore_n 3, 1) := by decide +kernel
theorem dX8_hot_69 : decode cX8_hot 69 = .ok (.aload_n 0, 1) := by decide +kernel
theorem dX8_hot_70 : decode cX8_hot 70 = .ok (.getfield 39, 3) := by decide +kernel
theorem dX8_hot_73 : decode cX8_hot 73 = .ok (.iload_n 3, 1) := by decide +kernel
theorem dX8_hot_74 : decode cX8_hot 74 = .ok (.iaload, 1) := by decide +kernel
theorem dX8_hot_75 : decode cX8_hot 75 = .ok (.iconst (-1), 1) := by decide +kernel
theorem dX8_hot_76 : decode cX8_hot 76 = .ok (.if_icmp .eq 20, 3) := by decide +kernel
theorem dX8_hot_79 : decode cX8_hot 79 = .ok (.aload_n 0, 1) := by decide +kernel
theorem dX8_hot_80 : decode cX8_hot 80 = .ok (.getfield 42, 3) := by decide +kernel
theorem dX8_hot_83 : decode cX8_hot 83 = .ok (.iload_n 3, 1) := by decide +kernel
theorem dX8_hot_84 : decode cX8_hot 84 = .ok (.iaload, 1) := by decide +kernel
theorem dX8_hot_85 : decode cX8_hot 85 = .ok (.aload_n 0, 1) := by decide +kernel
theorem dX8_hot_86 : decode cX8_hot 86 = .ok (.getfield 121, 3) := by decide +kernel
theorem dX8_hot_89 : decode cX8_hot 89 = .ok (.if_icmp .lt 7, 3) := by decide +kernel
theorem dX8_hot_92 : decode cX8_hot 92 = .ok (.iconst 1, 1) := by decide +kernel
theorem dX8_hot_93 : decode cX8_hot 93 = .ok (.goto 4, 3) := by decide +kernel
theorem dX8_hot_96 : decode cX8_hot 96 = .ok (.iconst 0, 1) := by decide +kernel
theorem dX8_hot_97 : decode cX8_hot 97 = .ok (.ireturn, 1) := by decide +kernel
theorem dX8_splitKey_0 : decode cX8_splitKey 0 = .ok (.iconst 0, 1) := by decide +kernel
theorem dX8_splitKey_1 : decode cX8_splitKey 1 = .ok (.istore_n 2, 1) := by decide +kernel
theorem dX8_splitKey_2 : decode cX8_splitKey 2 = .ok (.iconst 0, 1) := by decide +kernel
theorem dX8_splitKey_3 : decode cX8_splitKey 3 = .ok (.istore_n 3, 1) := by decide +kernel
theorem dX8_splitKey_4 : decode cX8_splitKey 4 = .ok (.iload_n 3, 1) := by decide +kernel
theorem dX8_splitKey_5 : decode cX8_splitKey 5 = .ok (.bipush 100, 2) := by decide +kernel
theorem dX8_splitKey_7 : decode cX8_splitKey 7 = .ok (.if_icmp .ge 29, 3) := by decide +kernel
theorem dX8_splitKey_10 : decode cX8_splitKey 10 = .ok (.aload_n 0, 1) := by decide +kernel
theorem dX8_splitKey_11 : decode cX8_splitKey 11 = .ok (.getfield 33, 3) := by decide +kernel
theorem dX8_splitKey_14 : decode cX8_splitKey 14 = .ok (.iload_n 3, 1) := by decide +kernel
theorem dX8_splitKey_15 : decode cX8_splitKey 15 = .ok (.iaload, 1) := by decide +kernel
theorem dX8_splitKey_16 : decode cX8_splitKey 16 = .ok (.iconst 1, 1) := by decide +kernel
theorem dX8_splitKey_17 : decode cX8_splitKey 17 = .ok (.if_icmp .le 13, 3) := by decide +kernel
theorem dX8_splitKey_20 : decode cX8_splitKey 20 = .ok (.iload_n 2, 1) := by decide +kernel
theorem dX8_splitKey_21 : decode cX8_splitKey 21 = .ok (.iload_n 1, 1) := by decide +kernel
theorem dX8_splitKey_22 : decode cX8_splitKey 22 = .ok (.if_icmp .ne 5, 3) := by decide +kernel
theorem dX8_splitKey_25 : decode cX8_splitKey 25 = .ok (.iload_n 3, 1) := by decide +kernel
theorem dX8_splitKey_26 : decode cX8_splitKey 26 = .ok (.ireturn, 1) := by decide +kernel
theorem dX8_splitKey_27 : decode cX8_splitKey 27 = .ok (.iinc 2 1, 3) := by decide +kernel
theorem dX8_splitKey_30 : decode cX8_splitKey 30 = .ok (.iinc 3 1, 3) := by decide +kernel
theorem dX8_splitKey_33 : decode cX8_splitKey 33 = .ok (.goto (-29), 3) := by decide +kernel
theorem dX8_splitKey_36 : decode cX8_splitKey 36 = .ok (.iconst (-1), 1) := by decide +kernel
theorem dX8_splitKey_37 : decode cX8_splitKey 37 = .ok (.ireturn, 1) := by decide +kernel
theorem dX8_load_0 : decode cX8_load 0 = .ok (.iload_n 1, 1) := by decide +kernel
theorem dX8_load_1 : decode cX8_load 1 = .ok (.i2l, 1) := by decide +kernel
theorem dX8_load_2 : decode cX8_load 2 = .ok (.lconst 0, 1) := by decide +kernel
theorem dX8_load_3 : decode cX8_load 3 = .ok (.aload_n 0, 1) := by decide +kernel
theorem dX8_load_4 : decode cX8_load 4 = .ok (.getfield 114, 3) := by decide +kernel
theorem dX8_load_7 : decode cX8_load 7 = .ok (.iconst 1, 1) := by decide +kernel
theorem dX8_load_8 : decode cX8_load 8 = .ok (.isub, 1) := by decide +kernel
theorem dX8_load_9 : decode cX8_load 9 = .ok (.i2l, 1) := by decide +kernel
theorem dX8_load_10 : decode cX8_load 10 = .ok (.invokestatic 197, 3) := by decide +kernel
theorem dX8_load_13 : decode cX8_load 13 = .ok (.ifCond .eq 12, 3) := by decide +kernel
theorem dX8_load_16 : decode cX8_load 16 = .ok (.aload_n 0, 1) := by decide +kernel
theorem dX8_load_17 : decode cX8_load 17 = .ok (.getfield 36, 3) := by decide +kernel
theorem dX8_load_20 : decode cX8_load 20 = .ok (.iload_n 1, 1) := by decide +kernel
theorem dX8_load_21 : decode cX8_load 21 = .ok (.iaload, 1) := by decide +kernel
theorem dX8_load_22 : decode cX8_load 22 = .ok (.goto 5, 3) := by decide +kernel
theorem dX8_load_25 : decode cX8_load 25 = .ok (.bipush (-101), 2) := by decide +kernel
theorem dX8_load_27 : decode cX8_load 27 = .ok (.ireturn, 1) := by decide +kernel
theorem dX8_small_0 : decode cX8_small 0 = .ok (.aload_n 0, 1) := by decide +kernel
theorem dX8_small_1 : decode cX8_small 1 = .ok (.iload_n 1, 1) := by decide +kernel
theorem dX8_small_2 : decode cX8_small 2 = .ok (.invokevirtual 220, 3) := by decide +kernel
theorem dX8_small_5 : decode cX8_small 5 = .ok (.ifCond .eq 6, 3) := by decide +kernel
theorem dX8_small_8 : decode cX8_small 8 = .ok (.bipush (-101), 2) := by decide +kernel
theorem dX8_small_10 : decode cX8_small 10 = .ok (.ireturn, 1) := by decide +kernel
theorem dX8_small_11 : decode cX8_small 11 = .ok (.iload_n 2, 1) := by decide +kernel
theorem dX8_small_12 : decode cX8_small 12 = .ok (.i2l, 1) := by decide +kernel
theorem dX8_small_13 : decode cX8_small 13 = .ok (.ldc2_w 224, 3) := by decide +kernel
theorem dX8_small_16 : decode cX8_small 16 = .ok (.ldc2_w 226, 3) := by decide +kernel
theorem dX8_small_19 : decode cX8_small 19 = .ok (.invokestatic 197, 3) := by decide +kernel
theorem dX8_small_22 : decode cX8_small 22 = .ok (.ifCond .ne 6, 3) := by decide +kernel
theorem dX8_small_25 : decode cX8_small 25 = .ok (.bipush (-102), 2) := by decide +kernel
theorem dX8_small_27 : decode cX8_small 27 = .ok (.ireturn, 1) := by decide +kernel
theorem dX8_small_28 : decode cX8_small 28 = .ok (.aload_n 0, 1) := by decide +kernel
theorem dX8_small_29 : decode cX8_small 29 = .ok (.getfield 158, 3) := by decide +kernel
theorem dX8_small_32 : decode cX8_small 32 = .ok (.bipush 60, 2) := by decide +kernel
theorem dX8_small_34 : decode cX8_small 34 = .ok (.if_icmp .ne 6, 3) := by decide +kernel
theorem dX8_small_37 : decode cX8_small 37 = .ok (.bipush (-104), 2) := by decide +kernel
theorem dX8_small_39 : decode cX8_small 39 = .ok (.ireturn, 1) := by decide +kernel
theorem dX8_small_40 : decode cX8_small 40 = .ok (.aload_n 0, 1) := by decide +kernel
theorem dX8_small_41 : decode cX8_small 41 = .ok (.getfield 48, 3) := by decide +kernel
theorem dX8_small_44 : decode cX8_small 44 = .ok (.aload_n 0, 1) := by decide +kernel
theorem dX8_small_45 : decode cX8_small 45 = .ok (.getfield 158, 3) := by decide +kernel
theorem dX8_small_48 : decode cX8_small 48 = .ok (.iload_n 1, 1) := by decide +kernel
theorem dX8_small_49 : decode cX8_small 49 = .ok (.iastore, 1) := by decide +kernel
theorem dX8_small_50 : decode cX8_small 50 = .ok (.aload_n 0, 1) := by decide +kernel
theorem dX8_small_51 : decode cX8_small 51 = .ok (.getfield 51, 3) := by decide +kernel
theorem dX8_small_54 : decode cX8_small 54 = .ok (.aload_n 0, 1) := by decide +kernel
theorem dX8_small_55 : decode cX8_small 55 = .ok (.getfield 158, 3) := by decide +kernel
theorem dX8_small_58 : decode cX8_small 58 = .ok (.iload_n 2, 1) := by decide +kernel
theorem dX8_small_59 : decode cX8_small 59 = .ok (.iastore, 1) := by decide +kernel
theorem dX8_small_60 : decode cX8_small 60 = .ok (.aload_n 0, 1) := by decide +kernel
theorem dX8_small_61 : decode cX8_small 61 = .ok (.dup, 1) := by decide +kernel
theorem dX8_small_62 : decode cX8_small 62 = .ok (.getfield 158, 3) := by decide +kernel
theorem dX8_small_65 : decode cX8_small 65 = .ok (.iconst 1, 1) := by decide +kernel
theorem dX8_small_66 : decode cX8_small 66 = .ok (.iadd, 1) := by decide +kernel
theorem dX8_small_67 : decode cX8_small 67 = .ok (.putfield 158, 3) := by decide +kernel
theorem dX8_small_70 : decode cX8_small 70 = .ok (.aload_n 0, 1) := by decide +kernel
theorem dX8_small_71 : decode cX8_small 71 = .ok (.getfield 158, 3) := by decide +kernel
theorem dX8_small_74 : decode cX8_small 74 = .ok (.ireturn, 1) := by decide +kernel
theorem dX8_copies_0 : decode cX8_copies 0 = .ok (.iload_n 1, 1) := by decide +kernel
theorem dX8_copies_1 : decode cX8_copies 1 = .ok (.i2l, 1) := by decide +kernel
theorem dX8_copies_2 : decode cX8_copies 2 = .ok (.lconst 0, 1) := by decide +kernel
theorem dX8_copies_3 : decode cX8_copies 3 = .ok (.aload_n 0, 1) := by decide +kernel
theorem dX8_copies_4 : decode cX8_copies 4 = .ok (.getfield 114, 3) := by decide +kernel
theorem dX8_copies_7 : decode cX8_copies 7 = .ok (.iconst 1, 1) := by decide +kernel
theorem dX8_copies_8 : decode cX8_copies 8 = .ok (.isub, 1) := by decide +kernel
theorem dX8_copies_9 : decode cX8_copies 9 = .ok (.i2l, 1) := by decide +kernel
theorem dX8_copies_10 : decode cX8_copies 10 = .ok (.invokestatic 197, 3) := by decide +kernel
theorem dX8_copies_13 : decode cX8_copies 13 = .ok (.ifCond .ne 6, 3) := by decide +kernel
theorem dX8_copies_16 : decode cX8_copies 16 = .ok (.bipush (-101), 2) := by decide +kernel
theorem dX8_copies_18 : decode cX8_copies 18 = .ok (.ireturn, 1) := by decide +kernel
theorem dX8_copies_19 : decode cX8_copies 19 = .ok (.iconst 0, 1) := by decide +kernel
theorem dX8_copies_20 : decode cX8_copies 20 = .ok (.istore_n 2, 1) := by decide +kernel
theorem dX8_copies_21 : decode cX8_copies 21 = .ok (.iconst 0, 1) := by decide +kernel
theorem dX8_copies_22 : decode cX8_copies 22 = .ok (.istore_n 3, 1) := by decide +kernel
theorem dX8_copies_23 : decode cX8_copies 23 = .ok (.iload_n 3, 1) := by decide +kernel
theorem dX8_copies_24 : decode cX8_copies 24 = .ok (.aload_n 0, 1) := by decide +kernel
theorem dX8_copies_25 : decode cX8_copies 25 = .ok (.getfield 158, 3) := by decide +kernel
theorem dX8_copies_28 : decode cX8_copies 28 = .ok (.if_icmp .ge 58, 3) := by decide +kernel
theorem dX8_copies_31 : decode cX8_copies 31 = .ok (.iconst 0, 1) := by decide +kernel
theorem dX8_copies_32 : decode cX8_copies 32 = .ok (.istore 4, 2) := by decide +kernel
theorem dX8_copies_34 : decode cX8_copies 34 = .ok (.iload 4, 2) := by decide +kernel
theorem dX8_copies_36 : decode cX8_copies 36 = .ok (.aload_n 0, 1) := by decide +kernel
theorem dX8_copies_37 : decode cX8_copies 37 = .ok (.getfield 33, 3) := by decide +kernel
theorem dX8_copies_40 : decode cX8_copies 40 = .ok (.aload_n 0, 1) := by decide +kernel
theorem dX8_copies_41 : decode cX8_copies 41 = .ok (.getfield 48, 3) := by decide +kernel
theorem dX8_copies_44 : decode cX8_copies 44 = .ok (.iload_n 3, 1) := by decide +kernel
theorem dX8_copies_45 : decode cX8_copies 45 = .ok (.iaload, 1) := by decide +kernel
theorem dX8_copies_46 : decode cX8_copies 46 = .ok (.iaload, 1) := by decide +kernel
theorem dX8_copies_47 : decode cX8_copies 47 = .ok (.if_icmp .ge 33, 3) := by decide +kernel
theorem dX8_copies_50 : decode cX8_copies 50 = .ok (.iload_n 2, 1) := by decide +kernel
theorem dX8_copies_51 : decode cX8_copies 51 = .ok (.aload_n 0, 1) := by decide +kernel
theorem dX8_copies_52 : decode cX8_copies 52 = .ok (.aload_n 0, 1) := by decide +kernel
theorem dX8_copies_53 : decode cX8_copies 53 = .ok (.getfield 48, 3) := by decide +kernel
theorem dX8_copies_56 : decode cX8_copies 56 = .ok (.iload_n 3, 1) := by decide +kernel
theorem dX8_copies_57 : decode cX8_copies 57 = .ok (.iaload, 1) := by decide +kernel
theorem dX8_copies_58 : decode cX8_copies 58 = .ok (.iload 4, 2) := by decide +kernel
theorem dX8_copies_60 : decode cX8_copies 60 = .ok (.invokevirtual 235, 3) := by decide +kernel
theorem dX8_copies_63 : decode cX8_copies 63 = .ok (.iload_n 1, 1) := by decide +kernel
theorem dX8_copies_64 : decode cX8_copies 64 = .ok (.if_icmp .ne 7, 3) := by decide +kernel
theorem dX8_copies_67 : decode cX8_copies 67 = .ok (.iconst 1, 1) := by decide +kernel
theorem dX8_copies_68 : decode cX8_copies 68 = .ok (.goto 4, 3) := by decide +kernel
theorem dX8_copies_71 : decode cX8_copies 71 = .ok (.iconst 0, 1) := by decide +kernel
theorem dX8_copies_72 : decode cX8_copies 72 = .ok (.iadd, 1) := by decide +kernel
theorem dX8_copies_73 : decode cX8_copies 73 = .ok (.istore_n 2, 1) := by decide +kernel
theorem dX8_copies_74 : decode cX8_copies 74 = .ok (.iinc 4 1, 3) := by decide +kernel
theorem dX8_copies_77 : decode cX8_copies 77 = .ok (.goto (-43), 3) := by decide +kernel
theorem dX8_copies_80 : decode cX8_copies 80 = .ok (.iinc 3 1, 3) := by decide +kernel
theorem dX8_copies_83 : decode cX8_copies 83 = .ok (.goto (-60), 3) := by decide +kernel
theorem dX8_copies_86 : decode cX8_copies 86 = .ok (.iload_n 2, 1) := by decide +kernel
theorem dX8_copies_87 : decode cX8_copies 87 = .ok (.ireturn, 1) := by decide +kernel
theorem dX8_out_0 : decode cX8_out 0 = .ok (.aload_n 0, 1) := by decide +kernel
theorem dX8_out_1 : decode cX8_out 1 = .ok (.getfield 154, 3) := by decide +kernel
theorem dX8_out_4 : decode cX8_out 4 = .ok (.lreturn, 1) := by decide +kernel
theorem dX8_timer_0 : decode cX8_timer 0 = .ok (.aload_n 0, 1) := by decide +kernel
theorem dX8_timer_1 : decode cX8_timer 1 = .ok (.iload_n 1, 1) := by decide +kernel
theorem dX8_timer_2 : decode cX8_timer 2 = .ok (.invokevirtual 220, 3) := by decide +kernel
theorem dX8_timer_5 : decode cX8_timer 5 = .ok (.ifCond .eq 6, 3) := by decide +kernel
theorem dX8_timer_8 : decode cX8_timer 8 = .ok (.bipush (-101), 2) := by decide +kernel
theorem dX8_timer_10 : decode cX8_timer 10 = .ok (.ireturn, 1) := by decide +kernel
theorem dX8_timer_11 : decode cX8_timer 11 = .ok (.iload_n 2, 1) := by decide +kernel
theorem dX8_timer_12 : decode cX8_timer 12 = .ok (.aload_n 0, 1) := by decide +kernel
theorem dX8_timer_13 : decode cX8_timer 13 = .ok (.getfield 151, 3) := by decide +kernel
theorem dX8_timer_16 : decode cX8_timer 16 = .ok (.if_icmp .le 10, 3) := by decide +kernel
theorem dX8_timer_19 : decode cX8_timer 19 = .ok (.iload_n 2, 1) := by decide +kernel
theorem dX8_timer_20 : decode cX8_timer 20 = .ok (.ldc_w 272, 3) := by decide +kernel
theorem dX8_timer_23 : decode cX8_timer 23 = .ok (.if_icmp .le 6, 3) := by decide +kernel
theorem dX8_timer_26 : decode cX8_timer 26 = .ok (.bipush (-102), 2) := by decide +kernel
theorem dX8_timer_28 : decode cX8_timer 28 = .ok (.ireturn, 1) := by decide +kernel
theorem dX8_timer_29 : decode cX8_timer 29 = .ok (.aload_n 0, 1) := by decide +kernel
theorem dX8_timer_30 : decode cX8_timer 30 = .ok (.getfield 161, 3) := by decide +kernel
theorem dX8_timer_33 : decode cX8_timer 33 = .ok (.bipush 40, 2) := by decide +kernel
theorem dX8_timer_35 : decode cX8_timer 35 = .ok (.if_icmp .ne 6, 3) := by decide +kernel
theorem dX8_timer_38 : decode cX8_timer 38 = .ok (.bipush (-104), 2) := by decide +kernel
theorem dX8_timer_40 : decode cX8_timer 40 = .ok (.ireturn, 1) := by decide +kernel
theorem dX8_timer_41 : decode cX8_timer 41 = .ok (.aload_n 0, 1) := by decide +kernel
theorem dX8_timer_42 : decode cX8_timer 42 = .ok (.getfield 54, 3) := by decide +kernel
theorem dX8_timer_45 : decode cX8_timer 45 = .ok (.aload_n 0, 1) := by decide +kernel
theorem dX8_timer_46 : decode cX8_timer 46 = .ok (.getfield 161, 3) := by decide +kernel
theorem dX8_timer_49 : decode cX8_timer 49 = .ok (.iload_n 1, 1) := by decide +kernel
theorem dX8_timer_50 : decode cX8_timer 50 = .ok (.iastore, 1) := by decide +kernel
theorem dX8_timer_51 : decode cX8_timer 51 = .ok (.aload_n 0, 1) := by decide +kernel
theorem dX8_timer_52 : decode cX8_timer 52 = .ok (.getfield 57, 3) := by decide +kernel
theorem dX8_timer_55 : decode cX8_timer 55 = .ok (.aload_n 0, 1) := by decide +kernel
theorem dX8_timer_56 : decode cX8_timer 56 = .ok (.getfield 161, 3) := by decide +kernel
theorem dX8_timer_59 : decode cX8_timer 59 = .ok (.iload_n 2, 1) := by decide +kernel
theorem dX8_timer_60 : decode cX8_timer 60 = .ok (.iastore, 1) := by decide +kernel
theorem dX8_timer_61 : decode cX8_timer 61 = .ok (.aload_n 0, 1) := by decide +kernel
theorem dX8_timer_62 : decode cX8_timer 62 = .ok (.dup, 1) := by decide +kernel
theorem dX8_timer_63 : decode cX8_timer 63 = .ok (.getfield 161, 3) := by decide +kernel
theorem dX8_timer_66 : decode cX8_timer 66 = .ok (.iconst 1, 1) := by decide +kernel
theorem dX8_timer_67 : decode cX8_timer 67 = .ok (.iadd, 1) := by decide +kernel
theorem dX8_timer_68 : decode cX8_timer 68 = .ok (.putfield 161, 3) := by decide +kernel
theorem dX8_timer_71 : decode cX8_timer 71 = .ok (.aload_n 0, 1) := by decide +kernel
theorem dX8_timer_72 : decode cX8_timer 72 = .ok (.getfield 161, 3) := by decide +kernel
theorem dX8_timer_75 : decode cX8_timer 75 = .ok (.ireturn, 1) := by decide +kernel
theorem dX8_due_0 : decode cX8_due 0 = .ok (.iconst (-1), 1) := by decide +kernel
theorem dX8_due_1 : decode cX8_due 1 = .ok (.istore_n 2, 1) := by decide +kernel
theorem dX8_due_2 : decode cX8_due 2 = .ok (.iconst 0, 1) := by decide +kernel
theorem dX8_due_3 : decode cX8_due 3 = .ok (.istore_n 3, 1) := by decide +kernel
theorem dX8_due_4 : decode cX8_due 4 = .ok (.iload_n 3, 1) := by decide +kernel
theorem dX8_due_5 : decode cX8_due 5 = .ok (.aload_n 0, 1) := by decide +kernel
theorem dX8_due_6 : decode cX8_due 6 = .ok (.getfield 161, 3) := by decide +kernel
