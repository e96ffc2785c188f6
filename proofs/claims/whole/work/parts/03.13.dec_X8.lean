theorem dX8_init_0 : decode cX8_init 0 = .ok (.aload_n 0, 1) := by decide +kernel
theorem dX8_init_1 : decode cX8_init 1 = .ok (.invokespecial 1, 3) := by decide +kernel
theorem dX8_init_4 : decode cX8_init 4 = .ok (.aload_n 0, 1) := by decide +kernel
theorem dX8_init_5 : decode cX8_init 5 = .ok (.bipush 6, 2) := by decide +kernel
theorem dX8_init_7 : decode cX8_init 7 = .ok (.newarray .int, 2) := by decide +kernel
theorem dX8_init_9 : decode cX8_init 9 = .ok (.putfield 7, 3) := by decide +kernel
theorem dX8_init_12 : decode cX8_init 12 = .ok (.aload_n 0, 1) := by decide +kernel
theorem dX8_init_13 : decode cX8_init 13 = .ok (.bipush 6, 2) := by decide +kernel
theorem dX8_init_15 : decode cX8_init 15 = .ok (.newarray .boolean, 2) := by decide +kernel
theorem dX8_init_17 : decode cX8_init 17 = .ok (.putfield 13, 3) := by decide +kernel
theorem dX8_init_20 : decode cX8_init 20 = .ok (.aload_n 0, 1) := by decide +kernel
theorem dX8_init_21 : decode cX8_init 21 = .ok (.sipush 4800, 3) := by decide +kernel
theorem dX8_init_24 : decode cX8_init 24 = .ok (.newarray .long, 2) := by decide +kernel
theorem dX8_init_26 : decode cX8_init 26 = .ok (.putfield 17, 3) := by decide +kernel
theorem dX8_init_29 : decode cX8_init 29 = .ok (.aload_n 0, 1) := by decide +kernel
theorem dX8_init_30 : decode cX8_init 30 = .ok (.sipush 800, 3) := by decide +kernel
theorem dX8_init_33 : decode cX8_init 33 = .ok (.newarray .int, 2) := by decide +kernel
theorem dX8_init_35 : decode cX8_init 35 = .ok (.putfield 21, 3) := by decide +kernel
theorem dX8_init_38 : decode cX8_init 38 = .ok (.aload_n 0, 1) := by decide +kernel
theorem dX8_init_39 : decode cX8_init 39 = .ok (.sipush 800, 3) := by decide +kernel
theorem dX8_init_42 : decode cX8_init 42 = .ok (.newarray .int, 2) := by decide +kernel
theorem dX8_init_44 : decode cX8_init 44 = .ok (.putfield 24, 3) := by decide +kernel
theorem dX8_init_47 : decode cX8_init 47 = .ok (.aload_n 0, 1) := by decide +kernel
theorem dX8_init_48 : decode cX8_init 48 = .ok (.sipush 800, 3) := by decide +kernel
theorem dX8_init_51 : decode cX8_init 51 = .ok (.newarray .boolean, 2) := by decide +kernel
theorem dX8_init_53 : decode cX8_init 53 = .ok (.putfield 27, 3) := by decide +kernel
theorem dX8_init_56 : decode cX8_init 56 = .ok (.aload_n 0, 1) := by decide +kernel
theorem dX8_init_57 : decode cX8_init 57 = .ok (.sipush 800, 3) := by decide +kernel
theorem dX8_init_60 : decode cX8_init 60 = .ok (.newarray .boolean, 2) := by decide +kernel
theorem dX8_init_62 : decode cX8_init 62 = .ok (.putfield 30, 3) := by decide +kernel
theorem dX8_init_65 : decode cX8_init 65 = .ok (.aload_n 0, 1) := by decide +kernel
theorem dX8_init_66 : decode cX8_init 66 = .ok (.bipush 100, 2) := by decide +kernel
theorem dX8_init_68 : decode cX8_init 68 = .ok (.newarray .int, 2) := by decide +kernel
theorem dX8_init_70 : decode cX8_init 70 = .ok (.putfield 33, 3) := by decide +kernel
theorem dX8_init_73 : decode cX8_init 73 = .ok (.aload_n 0, 1) := by decide +kernel
theorem dX8_init_74 : decode cX8_init 74 = .ok (.bipush 8, 2) := by decide +kernel
theorem dX8_init_76 : decode cX8_init 76 = .ok (.newarray .int, 2) := by decide +kernel
theorem dX8_init_78 : decode cX8_init 78 = .ok (.putfield 36, 3) := by decide +kernel
theorem dX8_init_81 : decode cX8_init 81 = .ok (.aload_n 0, 1) := by decide +kernel
theorem dX8_init_82 : decode cX8_init 82 = .ok (.bipush 12, 2) := by decide +kernel
theorem dX8_init_84 : decode cX8_init 84 = .ok (.newarray .int, 2) := by decide +kernel
theorem dX8_init_86 : decode cX8_init 86 = .ok (.putfield 39, 3) := by decide +kernel
theorem dX8_init_89 : decode cX8_init 89 = .ok (.aload_n 0, 1) := by decide +kernel
theorem dX8_init_90 : decode cX8_init 90 = .ok (.bipush 12, 2) := by decide +kernel
theorem dX8_init_92 : decode cX8_init 92 = .ok (.newarray .int, 2) := by decide +kernel
theorem dX8_init_94 : decode cX8_init 94 = .ok (.putfield 42, 3) := by decide +kernel
theorem dX8_init_97 : decode cX8_init 97 = .ok (.aload_n 0, 1) := by decide +kernel
theorem dX8_init_98 : decode cX8_init 98 = .ok (.bipush 12, 2) := by decide +kernel
theorem dX8_init_100 : decode cX8_init 100 = .ok (.newarray .int, 2) := by decide +kernel
theorem dX8_init_102 : decode cX8_init 102 = .ok (.putfield 45, 3) := by decide +kernel
theorem dX8_init_105 : decode cX8_init 105 = .ok (.aload_n 0, 1) := by decide +kernel
theorem dX8_init_106 : decode cX8_init 106 = .ok (.bipush 60, 2) := by decide +kernel
theorem dX8_init_108 : decode cX8_init 108 = .ok (.newarray .int, 2) := by decide +kernel
theorem dX8_init_110 : decode cX8_init 110 = .ok (.putfield 48, 3) := by decide +kernel
theorem dX8_init_113 : decode cX8_init 113 = .ok (.aload_n 0, 1) := by decide +kernel
theorem dX8_init_114 : decode cX8_init 114 = .ok (.bipush 60, 2) := by decide +kernel
theorem dX8_init_116 : decode cX8_init 116 = .ok (.newarray .int, 2) := by decide +kernel
theorem dX8_init_118 : decode cX8_init 118 = .ok (.putfield 51, 3) := by decide +kernel
theorem dX8_init_121 : decode cX8_init 121 = .ok (.aload_n 0, 1) := by decide +kernel
theorem dX8_init_122 : decode cX8_init 122 = .ok (.bipush 40, 2) := by decide +kernel
theorem dX8_init_124 : decode cX8_init 124 = .ok (.newarray .int, 2) := by decide +kernel
theorem dX8_init_126 : decode cX8_init 126 = .ok (.putfield 54, 3) := by decide +kernel
theorem dX8_init_129 : decode cX8_init 129 = .ok (.aload_n 0, 1) := by decide +kernel
theorem dX8_init_130 : decode cX8_init 130 = .ok (.bipush 40, 2) := by decide +kernel
theorem dX8_init_132 : decode cX8_init 132 = .ok (.newarray .int, 2) := by decide +kernel
theorem dX8_init_134 : decode cX8_init 134 = .ok (.putfield 57, 3) := by decide +kernel
theorem dX8_init_137 : decode cX8_init 137 = .ok (.aload_n 0, 1) := by decide +kernel
theorem dX8_init_138 : decode cX8_init 138 = .ok (.bipush 64, 2) := by decide +kernel
theorem dX8_init_140 : decode cX8_init 140 = .ok (.newarray .int, 2) := by decide +kernel
theorem dX8_init_142 : decode cX8_init 142 = .ok (.putfield 60, 3) := by decide +kernel
theorem dX8_init_145 : decode cX8_init 145 = .ok (.aload_n 0, 1) := by decide +kernel
theorem dX8_init_146 : decode cX8_init 146 = .ok (.bipush 64, 2) := by decide +kernel
theorem dX8_init_148 : decode cX8_init 148 = .ok (.newarray .int, 2) := by decide +kernel
theorem dX8_init_150 : decode cX8_init 150 = .ok (.putfield 63, 3) := by decide +kernel
theorem dX8_init_153 : decode cX8_init 153 = .ok (.aload_n 0, 1) := by decide +kernel
theorem dX8_init_154 : decode cX8_init 154 = .ok (.sipush 384, 3) := by decide +kernel
theorem dX8_init_157 : decode cX8_init 157 = .ok (.newarray .long, 2) := by decide +kernel
theorem dX8_init_159 : decode cX8_init 159 = .ok (.putfield 66, 3) := by decide +kernel
theorem dX8_init_162 : decode cX8_init 162 = .ok (.aload_n 0, 1) := by decide +kernel
theorem dX8_init_163 : decode cX8_init 163 = .ok (.sipush 2400, 3) := by decide +kernel
theorem dX8_init_166 : decode cX8_init 166 = .ok (.newarray .long, 2) := by decide +kernel
theorem dX8_init_168 : decode cX8_init 168 = .ok (.putfield 69, 3) := by decide +kernel
theorem dX8_init_171 : decode cX8_init 171 = .ok (.aload_n 0, 1) := by decide +kernel
theorem dX8_init_172 : decode cX8_init 172 = .ok (.sipush 400, 3) := by decide +kernel
theorem dX8_init_175 : decode cX8_init 175 = .ok (.newarray .int, 2) := by decide +kernel
theorem dX8_init_177 : decode cX8_init 177 = .ok (.putfield 72, 3) := by decide +kernel
theorem dX8_init_180 : decode cX8_init 180 = .ok (.aload_n 0, 1) := by decide +kernel
theorem dX8_init_181 : decode cX8_init 181 = .ok (.sipush 400, 3) := by decide +kernel
theorem dX8_init_184 : decode cX8_init 184 = .ok (.newarray .boolean, 2) := by decide +kernel
theorem dX8_init_186 : decode cX8_init 186 = .ok (.putfield 75, 3) := by decide +kernel
theorem dX8_init_189 : decode cX8_init 189 = .ok (.aload_n 0, 1) := by decide +kernel
theorem dX8_init_190 : decode cX8_init 190 = .ok (.iconst 4, 1) := by decide +kernel
theorem dX8_init_191 : decode cX8_init 191 = .ok (.newarray .int, 2) := by decide +kernel
theorem dX8_init_193 : decode cX8_init 193 = .ok (.putfield 78, 3) := by decide +kernel
theorem dX8_init_196 : decode cX8_init 196 = .ok (.aload_n 0, 1) := by decide +kernel
theorem dX8_init_197 : decode cX8_init 197 = .ok (.sipush 240, 3) := by decide +kernel
theorem dX8_init_200 : decode cX8_init 200 = .ok (.newarray .int, 2) := by decide +kernel
theorem dX8_init_202 : decode cX8_init 202 = .ok (.putfield 81, 3) := by decide +kernel
theorem dX8_init_205 : decode cX8_init 205 = .ok (.aload_n 0, 1) := by decide +kernel
theorem dX8_init_206 : decode cX8_init 206 = .ok (.sipush 240, 3) := by decide +kernel
theorem dX8_init_209 : decode cX8_init 209 = .ok (.newarray .int, 2) := by decide +kernel
theorem dX8_init_211 : decode cX8_init 211 = .ok (.putfield 84, 3) := by decide +kernel
theorem dX8_init_214 : decode cX8_init 214 = .ok (.aload_n 0, 1) := by decide +kernel
theorem dX8_init_215 : decode cX8_init 215 = .ok (.iconst 4, 1) := by decide +kernel
theorem dX8_init_216 : decode cX8_init 216 = .ok (.newarray .int, 2) := by decide +kernel
theorem dX8_init_218 : decode cX8_init 218 = .ok (.putfield 87, 3) := by decide +kernel
theorem dX8_init_221 : decode cX8_init 221 = .ok (.aload_n 0, 1) := by decide +kernel
theorem dX8_init_222 : decode cX8_init 222 = .ok (.sipush 160, 3) := by decide +kernel
theorem dX8_init_225 : decode cX8_init 225 = .ok (.newarray .int, 2) := by decide +kernel
theorem dX8_init_227 : decode cX8_init 227 = .ok (.putfield 90, 3) := by decide +kernel
theorem dX8_init_230 : decode cX8_init 230 = .ok (.aload_n 0, 1) := by decide +kernel
theorem dX8_init_231 : decode cX8_init 231 = .ok (.sipush 160, 3) := by decide +kernel
theorem dX8_init_234 : decode cX8_init 234 = .ok (.newarray .int, 2) := by decide +kernel
theorem dX8_init_236 : decode cX8_init 236 = .ok (.putfield 93, 3) := by decide +kernel
theorem dX8_init_239 : decode cX8_init 239 = .ok (.aload_n 0, 1) := by decide +kernel
theorem dX8_init_240 : decode cX8_init 240 = .ok (.iconst 4, 1) := by decide +kernel
theorem dX8_init_241 : decode cX8_init 241 = .ok (.newarray .int, 2) := by decide +kernel
theorem dX8_init_243 : decode cX8_init 243 = .ok (.putfield 96, 3) := by decide +kernel
theorem dX8_init_246 : decode cX8_init 246 = .ok (.aload_n 0, 1) := by decide +kernel
theorem dX8_init_247 : decode cX8_init 247 = .ok (.iconst 4, 1) := by decide +kernel
theorem dX8_init_248 : decode cX8_init 248 = .ok (.newarray .int, 2) := by decide +kernel
theorem dX8_init_250 : decode cX8_init 250 = .ok (.putfield 99, 3) := by decide +kernel
theorem dX8_init_253 : decode cX8_init 253 = .ok (.aload_n 0, 1) := by decide +kernel
theorem dX8_init_254 : decode cX8_init 254 = .ok (.iconst 4, 1) := by decide +kernel
theorem dX8_init_255 : decode cX8_init 255 = .ok (.newarray .int, 2) := by decide +kernel
theorem dX8_init_257 : decode cX8_init 257 = .ok (.putfield 102, 3) := by decide +kernel
theorem dX8_init_260 : decode cX8_init 260 = .ok (.aload_n 0, 1) := by decide +kernel
theorem dX8_init_261 : decode cX8_init 261 = .ok (.iconst 4, 1) := by decide +kernel
theorem dX8_init_262 : decode cX8_init 262 = .ok (.newarray .long, 2) := by decide +kernel
theorem dX8_init_264 : decode cX8_init 264 = .ok (.putfield 105, 3) := by decide +kernel
theorem dX8_init_267 : decode cX8_init 267 = .ok (.aload_n 0, 1) := by decide +kernel
theorem dX8_init_268 : decode cX8_init 268 = .ok (.bipush 6, 2) := by decide +kernel
theorem dX8_init_270 : decode cX8_init 270 = .ok (.newarray .long, 2) := by decide +kernel
theorem dX8_init_272 : decode cX8_init 272 = .ok (.putfield 108, 3) := by decide +kernel
theorem dX8_init_275 : decode cX8_init 275 = .ok (.aload_n 0, 1) := by decide +kernel
theorem dX8_init_276 : decode cX8_init 276 = .ok (.invokevirtual 111, 3) := by decide +kernel
theorem dX8_init_279 : decode cX8_init 279 = .ok (.return_, 1) := by decide +kernel
theorem dX8_in_0 : decode cX8_in 0 = .ok (.lload_n 0, 1) := by decide +kernel
theorem dX8_in_1 : decode cX8_in 1 = .ok (.lload_n 2, 1) := by decide +kernel
theorem dX8_in_2 : decode cX8_in 2 = .ok (.lcmp, 1) := by decide +kernel
theorem dX8_in_3 : decode cX8_in 3 = .ok (.ifCond .lt 14, 3) := by decide +kernel
theorem dX8_in_6 : decode cX8_in 6 = .ok (.lload_n 0, 1) := by decide +kernel
theorem dX8_in_7 : decode cX8_in 7 = .ok (.lload 4, 2) := by decide +kernel
theorem dX8_in_9 : decode cX8_in 9 = .ok (.lcmp, 1) := by decide +kernel
theorem dX8_in_10 : decode cX8_in 10 = .ok (.ifCond .gt 7, 3) := by decide +kernel
theorem dX8_in_13 : decode cX8_in 13 = .ok (.iconst 1, 1) := by decide +kernel
theorem dX8_in_14 : decode cX8_in 14 = .ok (.goto 4, 3) := by decide +kernel
theorem dX8_in_17 : decode cX8_in 17 = .ok (.iconst 0, 1) := by decide +kernel
theorem dX8_in_18 : decode cX8_in 18 = .ok (.ireturn, 1) := by decide +kernel
theorem dX8_begin_0 : decode cX8_begin 0 = .ok (.aload_n 0, 1) := by decide +kernel
theorem dX8_begin_1 : decode cX8_begin 1 = .ok (.iconst 4, 1) := by decide +kernel
theorem dX8_begin_2 : decode cX8_begin 2 = .ok (.putfield 114, 3) := by decide +kernel
theorem dX8_begin_5 : decode cX8_begin 5 = .ok (.aload_n 0, 1) := by decide +kernel
theorem dX8_begin_6 : decode cX8_begin 6 = .ok (.bipush 32, 2) := by decide +kernel
theorem dX8_begin_8 : decode cX8_begin 8 = .ok (.putfield 118, 3) := by decide +kernel
theorem dX8_begin_11 : decode cX8_begin 11 = .ok (.aload_n 0, 1) := by decide +kernel
theorem dX8_begin_12 : decode cX8_begin 12 = .ok (.bipush 8, 2) := by decide +kernel
theorem dX8_begin_14 : decode cX8_begin 14 = .ok (.putfield 121, 3) := by decide +kernel
theorem dX8_begin_17 : decode cX8_begin 17 = .ok (.aload_n 0, 1) := by decide +kernel
theorem dX8_begin_18 : decode cX8_begin 18 = .ok (.iconst 2, 1) := by decide +kernel
theorem dX8_begin_19 : decode cX8_begin 19 = .ok (.putfield 124, 3) := by decide +kernel
theorem dX8_begin_22 : decode cX8_begin 22 = .ok (.aload_n 0, 1) := by decide +kernel
theorem dX8_begin_23 : decode cX8_begin 23 = .ok (.iconst 4, 1) := by decide +kernel
theorem dX8_begin_24 : decode cX8_begin 24 = .ok (.putfield 127, 3) := by decide +kernel
theorem dX8_begin_27 : decode cX8_begin 27 = .ok (.aload_n 0, 1) := by decide +kernel
theorem dX8_begin_28 : decode cX8_begin 28 = .ok (.iconst 0, 1) := by decide +kernel
theorem dX8_begin_29 : decode cX8_begin 29 = .ok (.putfield 130, 3) := by decide +kernel
theorem dX8_begin_32 : decode cX8_begin 32 = .ok (.aload_n 0, 1) := by decide +kernel
theorem dX8_begin_33 : decode cX8_begin 33 = .ok (.iconst 0, 1) := by decide +kernel
theorem dX8_begin_34 : decode cX8_begin 34 = .ok (.putfield 133, 3) := by decide +kernel
theorem dX8_begin_37 : decode cX8_begin 37 = .ok (.aload_n 0, 1) := by decide +kernel
theorem dX8_begin_38 : decode cX8_begin 38 = .ok (.iconst 0, 1) := by decide +kernel
theorem dX8_begin_39 : decode cX8_begin 39 = .ok (.putfield 136, 3) := by decide +kernel
theorem dX8_begin_42 : decode cX8_begin 42 = .ok (.aload_n 0, 1) := by decide +kernel
theorem dX8_begin_43 : decode cX8_begin 43 = .ok (.iconst 0, 1) := by decide +kernel
theorem dX8_begin_44 : decode cX8_begin 44 = .ok (.putfield 139, 3) := by decide +kernel
theorem dX8_begin_47 : decode cX8_begin 47 = .ok (.aload_n 0, 1) := by decide +kernel
theorem dX8_begin_48 : decode cX8_begin 48 = .ok (.iconst 0, 1) := by decide +kernel
theorem dX8_begin_49 : decode cX8_begin 49 = .ok (.putfield 142, 3) := by decide +kernel
theorem dX8_begin_52 : decode cX8_begin 52 = .ok (.aload_n 0, 1) := by decide +kernel
theorem dX8_begin_53 : decode cX8_begin 53 = .ok (.iconst 0, 1) := by decide +kernel
theorem dX8_begin_54 : decode cX8_begin 54 = .ok (.putfield 145, 3) := by decide +kernel
theorem dX8_begin_57 : decode cX8_begin 57 = .ok (.aload_n 0, 1) := by decide +kernel
theorem dX8_begin_58 : decode cX8_begin 58 = .ok (.iconst 0, 1) := by decide +kernel
theorem dX8_begin_59 : decode cX8_begin 59 = .ok (.putfield 148, 3) := by decide +kernel
theorem dX8_begin_62 : decode cX8_begin 62 = .ok (.aload_n 0, 1) := by decide +kernel
theorem dX8_begin_63 : decode cX8_begin 63 = .ok (.iconst 0, 1) := by decide +kernel
theorem dX8_begin_64 : decode cX8_begin 64 = .ok (.putfield 151, 3) := by decide +kernel
theorem dX8_begin_67 : decode cX8_begin 67 = .ok (.aload_n 0, 1) := by decide +kernel
theorem dX8_begin_68 : decode cX8_begin 68 = .ok (.lconst 0, 1) := by decide +kernel
theorem dX8_begin_69 : decode cX8_begin 69 = .ok (.putfield 154, 3) := by decide +kernel
theorem dX8_begin_72 : decode cX8_begin 72 = .ok (.aload_n 0, 1) := by decide +kernel
theorem dX8_begin_73 : decode cX8_begin 73 = .ok (.iconst 0, 1) := by decide +kernel
theorem dX8_begin_74 : decode cX8_begin 74 = .ok (.putfield 158, 3) := by decide +kernel
theorem dX8_begin_77 : decode cX8_begin 77 = .ok (.aload_n 0, 1) := by decide +kernel
theorem dX8_begin_78 : decode cX8_begin 78 = .ok (.iconst 0, 1) := by decide +kernel
theorem dX8_begin_79 : decode cX8_begin 79 = .ok (.putfield 161, 3) := by decide +kernel
theorem dX8_begin_82 : decode cX8_begin 82 = .ok (.aload_n 0, 1) := by decide +kernel
theorem dX8_begin_83 : decode cX8_begin 83 = .ok (.iconst 0, 1) := by decide +kernel
theorem dX8_begin_84 : decode cX8_begin 84 = .ok (.putfield 164, 3) := by decide +kernel
theorem dX8_begin_87 : decode cX8_begin 87 = .ok (.iconst 0, 1) := by decide +kernel
theorem dX8_begin_88 : decode cX8_begin 88 = .ok (.istore_n 1, 1) := by decide +kernel
theorem dX8_begin_89 : decode cX8_begin 89 = .ok (.iload_n 1, 1) := by decide +kernel
theorem dX8_begin_90 : decode cX8_begin 90 = .ok (.bipush 100, 2) := by decide +kernel
theorem dX8_begin_92 : decode cX8_begin 92 = .ok (.if_icmp .ge 22, 3) := by decide +kernel
theorem dX8_begin_95 : decode cX8_begin 95 = .ok (.aload_n 0, 1) := by decide +kernel
theorem dX8_begin_96 : decode cX8_begin 96 = .ok (.getfield 33, 3) := by decide +kernel
theorem dX8_begin_99 : decode cX8_begin 99 = .ok (.iload_n 1, 1) := by decide +kernel
theorem dX8_begin_100 : decode cX8_begin 100 = .ok (.iconst 1, 1) := by decide +kernel
theorem dX8_begin_101 : decode cX8_begin 101 = .ok (.iastore, 1) := by decide +kernel
theorem dX8_begin_102 : decode cX8_begin 102 = .ok (.aload_n 0, 1) := by decide +kernel
theorem dX8_begin_103 : decode cX8_begin 103 = .ok (.iconst 0, 1) := by decide +kernel
theorem dX8_begin_104 : decode cX8_begin 104 = .ok (.iload_n 1, 1) := by decide +kernel
theorem dX8_begin_105 : decode cX8_begin 105 = .ok (.invokevirtual 167, 3) := by decide +kernel
theorem dX8_begin_108 : decode cX8_begin 108 = .ok (.iinc 1 1, 3) := by decide +kernel
theorem dX8_begin_111 : decode cX8_begin 111 = .ok (.goto (-22), 3) := by decide +kernel
theorem dX8_begin_114 : decode cX8_begin 114 = .ok (.aload_n 0, 1) := by decide +kernel
theorem dX8_begin_115 : decode cX8_begin 115 = .ok (.invokevirtual 171, 3) := by decide +kernel
theorem dX8_begin_118 : decode cX8_begin 118 = .ok (.return_, 1) := by decide +kernel
theorem dX8_freshRun_0 : decode cX8_freshRun 0 = .ok (.aload_n 0, 1) := by decide +kernel
theorem dX8_freshRun_1 : decode cX8_freshRun 1 = .ok (.iconst 0, 1) := by decide +kernel
theorem dX8_freshRun_2 : decode cX8_freshRun 2 = .ok (.putfield 174, 3) := by decide +kernel
theorem dX8_freshRun_5 : decode cX8_freshRun 5 = .ok (.iconst 0, 1) := by decide +kernel
theorem dX8_freshRun_6 : decode cX8_freshRun 6 = .ok (.istore_n 1, 1) := by decide +kernel
theorem dX8_freshRun_7 : decode cX8_freshRun 7 = .ok (.iload_n 1, 1) := by decide +kernel
theorem dX8_freshRun_8 : decode cX8_freshRun 8 = .ok (.bipush 8, 2) := by decide +kernel
theorem dX8_freshRun_10 : decode cX8_freshRun 10 = .ok (.if_icmp .ge 16, 3) := by decide +kernel
theorem dX8_freshRun_13 : decode cX8_freshRun 13 = .ok (.aload_n 0, 1) := by decide +kernel
theorem dX8_freshRun_14 : decode cX8_freshRun 14 = .ok (.getfield 36, 3) := by decide +kernel
theorem dX8_freshRun_17 : decode cX8_freshRun 17 = .ok (.iload_n 1, 1) := by decide +kernel
theorem dX8_freshRun_18 : decode cX8_freshRun 18 = .ok (.iconst 0, 1) := by decide +kernel
theorem dX8_freshRun_19 : decode cX8_freshRun 19 = .ok (.iastore, 1) := by decide +kernel
theorem dX8_freshRun_20 : decode cX8_freshRun 20 = .ok (.iinc 1 1, 3) := by decide +kernel
theorem dX8_freshRun_23 : decode cX8_freshRun 23 = .ok (.goto (-16), 3) := by decide +kernel
theorem dX8_freshRun_26 : decode cX8_freshRun 26 = .ok (.aload_n 0, 1) := by decide +kernel
theorem dX8_freshRun_27 : decode cX8_freshRun 27 = .ok (.invokevirtual 177, 3) := by decide +kernel
theorem dX8_freshRun_30 : decode cX8_freshRun 30 = .ok (.return_, 1) := by decide +kernel
theorem dX8_freshRound_0 : decode cX8_freshRound 0 = .ok (.aload_n 0, 1) := by decide +kernel
theorem dX8_freshRound_1 : decode cX8_freshRound 1 = .ok (.iconst 0, 1) := by decide +kernel
theorem dX8_freshRound_2 : decode cX8_freshRound 2 = .ok (.putfield 180, 3) := by decide +kernel
theorem dX8_freshRound_5 : decode cX8_freshRound 5 = .ok (.iconst 0, 1) := by decide +kernel
theorem dX8_freshRound_6 : decode cX8_freshRound 6 = .ok (.istore_n 1, 1) := by decide +kernel
theorem dX8_freshRound_7 : decode cX8_freshRound 7 = .ok (.iload_n 1, 1) := by decide +kernel
theorem dX8_freshRound_8 : decode cX8_freshRound 8 = .ok (.bipush 12, 2) := by decide +kernel
theorem dX8_freshRound_10 : decode cX8_freshRound 10 = .ok (.if_icmp .ge 30, 3) := by decide +kernel
theorem dX8_freshRound_13 : decode cX8_freshRound 13 = .ok (.aload_n 0, 1) := by decide +kernel
theorem dX8_freshRound_14 : decode cX8_freshRound 14 = .ok (.getfield 39, 3) := by decide +kernel
theorem dX8_freshRound_17 : decode cX8_freshRound 17 = .ok (.iload_n 1, 1) := by decide +kernel
theorem dX8_freshRound_18 : decode cX8_freshRound 18 = .ok (.iconst (-1), 1) := by decide +kernel
theorem dX8_freshRound_19 : decode cX8_freshRound 19 = .ok (.iastore, 1) := by decide +kernel
theorem dX8_freshRound_20 : decode cX8_freshRound 20 = .ok (.aload_n 0, 1) := by decide +kernel
theorem dX8_freshRound_21 : decode cX8_freshRound 21 = .ok (.getfield 42, 3) := by decide +kernel
theorem dX8_freshRound_24 : decode cX8_freshRound 24 = .ok (.iload_n 1, 1) := by decide +kernel
theorem dX8_freshRound_25 : decode cX8_freshRound 25 = .ok (.iconst 0, 1) := by decide +kernel
theorem dX8_freshRound_26 : decode cX8_freshRound 26 = .ok (.iastore, 1) := by decide +kernel
theorem dX8_freshRound_27 : decode cX8_freshRound 27 = .ok (.aload_n 0, 1) := by decide +kernel
theorem dX8_freshRound_28 : decode cX8_freshRound 28 = .ok (.getfield 45, 3) := by decide +kernel
theorem dX8_freshRound_31 : decode cX8_freshRound 31 = .ok (.iload_n 1, 1) := by decide +kernel
theorem dX8_freshRound_32 : decode cX8_freshRound 32 = .ok (.iconst 0, 1) := by decide +kernel
theorem dX8_freshRound_33 : decode cX8_freshRound 33 = .ok (.iastore, 1) := by decide +kernel
theorem dX8_freshRound_34 : decode cX8_freshRound 34 = .ok (.iinc 1 1, 3) := by decide +kernel
theorem dX8_freshRound_37 : decode cX8_freshRound 37 = .ok (.goto (-30), 3) := by decide +kernel
theorem dX8_freshRound_40 : decode cX8_freshRound 40 = .ok (.return_, 1) := by decide +kernel
theorem dX8_emptyOf_0 : decode cX8_emptyOf 0 = .ok (.aload_n 0, 1) := by decide +kernel
theorem dX8_emptyOf_1 : decode cX8_emptyOf 1 = .ok (.getfield 7, 3) := by decide +kernel
theorem dX8_emptyOf_4 : decode cX8_emptyOf 4 = .ok (.iload_n 1, 1) := by decide +kernel
theorem dX8_emptyOf_5 : decode cX8_emptyOf 5 = .ok (.iaload, 1) := by decide +kernel
theorem dX8_emptyOf_6 : decode cX8_emptyOf 6 = .ok (.istore_n 2, 1) := by decide +kernel
theorem dX8_emptyOf_7 : decode cX8_emptyOf 7 = .ok (.iload_n 2, 1) := by decide +kernel
theorem dX8_emptyOf_8 : decode cX8_emptyOf 8 = .ok (.bipush 6, 2) := by decide +kernel
theorem dX8_emptyOf_10 : decode cX8_emptyOf 10 = .ok (.if_icmp .ne 9, 3) := by decide +kernel
theorem dX8_emptyOf_13 : decode cX8_emptyOf 13 = .ok (.ldc2_w 183, 3) := by decide +kernel
theorem dX8_emptyOf_16 : decode cX8_emptyOf 16 = .ok (.goto 25, 3) := by decide +kernel
theorem dX8_emptyOf_19 : decode cX8_emptyOf 19 = .ok (.iload_n 2, 1) := by decide +kernel
theorem dX8_emptyOf_20 : decode cX8_emptyOf 20 = .ok (.iconst 2, 1) := by decide +kernel
theorem dX8_emptyOf_21 : decode cX8_emptyOf 21 = .ok (.if_icmp .eq 13, 3) := by decide +kernel
theorem dX8_emptyOf_24 : decode cX8_emptyOf 24 = .ok (.iload_n 2, 1) := by decide +kernel
theorem dX8_emptyOf_25 : decode cX8_emptyOf 25 = .ok (.iconst 3, 1) := by decide +kernel
theorem dX8_emptyOf_26 : decode cX8_emptyOf 26 = .ok (.if_icmp .eq 8, 3) := by decide +kernel
theorem dX8_emptyOf_29 : decode cX8_emptyOf 29 = .ok (.iload_n 2, 1) := by decide +kernel
theorem dX8_emptyOf_30 : decode cX8_emptyOf 30 = .ok (.iconst 5, 1) := by decide +kernel
theorem dX8_emptyOf_31 : decode cX8_emptyOf 31 = .ok (.if_icmp .ne 9, 3) := by decide +kernel
theorem dX8_emptyOf_34 : decode cX8_emptyOf 34 = .ok (.ldc2_w 185, 3) := by decide +kernel
theorem dX8_emptyOf_37 : decode cX8_emptyOf 37 = .ok (.goto 4, 3) := by decide +kernel
theorem dX8_emptyOf_40 : decode cX8_emptyOf 40 = .ok (.lconst 0, 1) := by decide +kernel
theorem dX8_emptyOf_41 : decode cX8_emptyOf 41 = .ok (.lreturn, 1) := by decide +kernel
theorem dX8_slot_0 : decode cX8_slot 0 = .ok (.bipush 100, 2) := by decide +kernel
theorem dX8_slot_2 : decode cX8_slot 2 = .ok (.iload_n 1, 1) := by decide +kernel
theorem dX8_slot_3 : decode cX8_slot 3 = .ok (.imul, 1) := by decide +kernel
theorem dX8_slot_4 : decode cX8_slot 4 = .ok (.iload_n 2, 1) := by decide +kernel
theorem dX8_slot_5 : decode cX8_slot 5 = .ok (.iadd, 1) := by decide +kernel
theorem dX8_slot_6 : decode cX8_slot 6 = .ok (.ireturn, 1) := by decide +kernel
theorem dX8_empty_0 : decode cX8_empty 0 = .ok (.aload_n 0, 1) := by decide +kernel
theorem dX8_empty_1 : decode cX8_empty 1 = .ok (.iload_n 1, 1) := by decide +kernel
theorem dX8_empty_2 : decode cX8_empty 2 = .ok (.iload_n 2, 1) := by decide +kernel
theorem dX8_empty_3 : decode cX8_empty 3 = .ok (.invokevirtual 187, 3) := by decide +kernel
theorem dX8_empty_6 : decode cX8_empty 6 = .ok (.istore_n 3, 1) := by decide +kernel
theorem dX8_empty_7 : decode cX8_empty 7 = .ok (.iconst 0, 1) := by decide +kernel
theorem dX8_empty_8 : decode cX8_empty 8 = .ok (.istore 4, 2) := by decide +kernel
theorem dX8_empty_10 : decode cX8_empty 10 = .ok (.iload 4, 2) := by decide +kernel
theorem dX8_empty_12 : decode cX8_empty 12 = .ok (.aload_n 0, 1) := by decide +kernel
theorem dX8_empty_13 : decode cX8_empty 13 = .ok (.getfield 130, 3) := by decide +kernel
theorem dX8_empty_16 : decode cX8_empty 16 = .ok (.if_icmp .ge 27, 3) := by decide +kernel
theorem dX8_empty_19 : decode cX8_empty 19 = .ok (.aload_n 0, 1) := by decide +kernel
theorem dX8_empty_20 : decode cX8_empty 20 = .ok (.getfield 17, 3) := by decide +kernel
theorem dX8_empty_23 : decode cX8_empty 23 = .ok (.bipush 6, 2) := by decide +kernel
theorem dX8_empty_25 : decode cX8_empty 25 = .ok (.iload_n 3, 1) := by decide +kernel
theorem dX8_empty_26 : decode cX8_empty 26 = .ok (.imul, 1) := by decide +kernel
theorem dX8_empty_27 : decode cX8_empty 27 = .ok (.iload 4, 2) := by decide +kernel
theorem dX8_empty_29 : decode cX8_empty 29 = .ok (.iadd, 1) := by decide +kernel
theorem dX8_empty_30 : decode cX8_empty 30 = .ok (.aload_n 0, 1) := by decide +kernel
theorem dX8_empty_31 : decode cX8_empty 31 = .ok (.iload 4, 2) := by decide +kernel
theorem dX8_empty_33 : decode cX8_empty 33 = .ok (.invokevirtual 191, 3) := by decide +kernel
theorem dX8_empty_36 : decode cX8_empty 36 = .ok (.lastore, 1) := by decide +kernel
theorem dX8_empty_37 : decode cX8_empty 37 = .ok (.iinc 4 1, 3) := by decide +kernel
theorem dX8_empty_40 : decode cX8_empty 40 = .ok (.goto (-30), 3) := by decide +kernel
theorem dX8_empty_43 : decode cX8_empty 43 = .ok (.aload_n 0, 1) := by decide +kernel
theorem dX8_empty_44 : decode cX8_empty 44 = .ok (.getfield 21, 3) := by decide +kernel
theorem dX8_empty_47 : decode cX8_empty 47 = .ok (.iload_n 3, 1) := by decide +kernel
theorem dX8_empty_48 : decode cX8_empty 48 = .ok (.iconst (-1), 1) := by decide +kernel
theorem dX8_empty_49 : decode cX8_empty 49 = .ok (.iastore, 1) := by decide +kernel
theorem dX8_empty_50 : decode cX8_empty 50 = .ok (.aload_n 0, 1) := by decide +kernel
theorem dX8_empty_51 : decode cX8_empty 51 = .ok (.getfield 27, 3) := by decide +kernel
theorem dX8_empty_54 : decode cX8_empty 54 = .ok (.iload_n 3, 1) := by decide +kernel
theorem dX8_empty_55 : decode cX8_empty 55 = .ok (.iconst 0, 1) := by decide +kernel
theorem dX8_empty_56 : decode cX8_empty 56 = .ok (.bastore, 1) := by decide +kernel
theorem dX8_empty_57 : decode cX8_empty 57 = .ok (.aload_n 0, 1) := by decide +kernel
theorem dX8_empty_58 : decode cX8_empty 58 = .ok (.getfield 30, 3) := by decide +kernel
theorem dX8_empty_61 : decode cX8_empty 61 = .ok (.iload_n 3, 1) := by decide +kernel
theorem dX8_empty_62 : decode cX8_empty 62 = .ok (.iconst 0, 1) := by decide +kernel
theorem dX8_empty_63 : decode cX8_empty 63 = .ok (.bastore, 1) := by decide +kernel
theorem dX8_empty_64 : decode cX8_empty 64 = .ok (.return_, 1) := by decide +kernel
theorem dX8_noKey_0 : decode cX8_noKey 0 = .ok (.iload_n 1, 1) := by decide +kernel
theorem dX8_noKey_1 : decode cX8_noKey 1 = .ok (.i2l, 1) := by decide +kernel
theorem dX8_noKey_2 : decode cX8_noKey 2 = .ok (.lconst 0, 1) := by decide +kernel
theorem dX8_noKey_3 : decode cX8_noKey 3 = .ok (.ldc2_w 195, 3) := by decide +kernel
theorem dX8_noKey_6 : decode cX8_noKey 6 = .ok (.invokestatic 197, 3) := by decide +kernel
theorem dX8_noKey_9 : decode cX8_noKey 9 = .ok (.ifCond .ne 7, 3) := by decide +kernel
theorem dX8_noKey_12 : decode cX8_noKey 12 = .ok (.iconst 1, 1) := by decide +kernel
theorem dX8_noKey_13 : decode cX8_noKey 13 = .ok (.goto 4, 3) := by decide +kernel
theorem dX8_noKey_16 : decode cX8_noKey 16 = .ok (.iconst 0, 1) := by decide +kernel
theorem dX8_noKey_17 : decode cX8_noKey 17 = .ok (.ireturn, 1) := by decide +kernel
theorem dX8_home_0 : decode cX8_home 0 = .ok (.iload_n 1, 1) := by decide +kernel
theorem dX8_home_1 : decode cX8_home 1 = .ok (.aload_n 0, 1) := by decide +kernel
theorem dX8_home_2 : decode cX8_home 2 = .ok (.getfield 114, 3) := by decide +kernel
theorem dX8_home_5 : decode cX8_home 5 = .ok (.irem, 1) := by decide +kernel
theorem dX8_home_6 : decode cX8_home 6 = .ok (.ireturn, 1) := by decide +kernel
theorem dX8_placeOf_0 : decode cX8_placeOf 0 = .ok (.aload_n 0, 1) := by decide +kernel
theorem dX8_placeOf_1 : decode cX8_placeOf 1 = .ok (.iload_n 1, 1) := by decide +kernel
theorem dX8_placeOf_2 : decode cX8_placeOf 2 = .ok (.invokevirtual 201, 3) := by decide +kernel
theorem dX8_placeOf_5 : decode cX8_placeOf 5 = .ok (.iload_n 2, 1) := by decide +kernel
theorem dX8_placeOf_6 : decode cX8_placeOf 6 = .ok (.iadd, 1) := by decide +kernel
theorem dX8_placeOf_7 : decode cX8_placeOf 7 = .ok (.aload_n 0, 1) := by decide +kernel
theorem dX8_placeOf_8 : decode cX8_placeOf 8 = .ok (.getfield 114, 3) := by decide +kernel
theorem dX8_placeOf_11 : decode cX8_placeOf 11 = .ok (.irem, 1) := by decide +kernel
theorem dX8_placeOf_12 : decode cX8_placeOf 12 = .ok (.ireturn, 1) := by decide +kernel
theorem dX8_shape_0 : decode cX8_shape 0 = .ok (.iload_n 1, 1) := by decide +kernel
theorem dX8_shape_1 : decode cX8_shape 1 = .ok (.i2l, 1) := by decide +kernel
theorem dX8_shape_2 : decode cX8_shape 2 = .ok (.ldc2_w 205, 3) := by decide +kernel
theorem dX8_shape_5 : decode cX8_shape 5 = .ok (.ldc2_w 207, 3) := by decide +kernel
theorem dX8_shape_8 : decode cX8_shape 8 = .ok (.invokestatic 197, 3) := by decide +kernel
theorem dX8_shape_11 : decode cX8_shape 11 = .ok (.ifCond .eq 59, 3) := by decide +kernel
theorem dX8_shape_14 : decode cX8_shape 14 = .ok (.iload_n 2, 1) := by decide +kernel
theorem dX8_shape_15 : decode cX8_shape 15 = .ok (.i2l, 1) := by decide +kernel
theorem dX8_shape_16 : decode cX8_shape 16 = .ok (.ldc2_w 207, 3) := by decide +kernel
theorem dX8_shape_19 : decode cX8_shape 19 = .ok (.ldc2_w 209, 3) := by decide +kernel
theorem dX8_shape_22 : decode cX8_shape 22 = .ok (.invokestatic 197, 3) := by decide +kernel
theorem dX8_shape_25 : decode cX8_shape 25 = .ok (.ifCond .eq 45, 3) := by decide +kernel
theorem dX8_shape_28 : decode cX8_shape 28 = .ok (.iload_n 3, 1) := by decide +kernel
theorem dX8_shape_29 : decode cX8_shape 29 = .ok (.i2l, 1) := by decide +kernel
theorem dX8_shape_30 : decode cX8_shape 30 = .ok (.lconst 1, 1) := by decide +kernel
theorem dX8_shape_31 : decode cX8_shape 31 = .ok (.iload_n 2, 1) := by decide +kernel
theorem dX8_shape_32 : decode cX8_shape 32 = .ok (.i2l, 1) := by decide +kernel
theorem dX8_shape_33 : decode cX8_shape 33 = .ok (.invokestatic 197, 3) := by decide +kernel
theorem dX8_shape_36 : decode cX8_shape 36 = .ok (.ifCond .eq 34, 3) := by decide +kernel
theorem dX8_shape_39 : decode cX8_shape 39 = .ok (.iload 4, 2) := by decide +kernel
theorem dX8_shape_41 : decode cX8_shape 41 = .ok (.i2l, 1) := by decide +kernel
theorem dX8_shape_42 : decode cX8_shape 42 = .ok (.lconst 0, 1) := by decide +kernel
theorem dX8_shape_43 : decode cX8_shape 43 = .ok (.iload_n 3, 1) := by decide +kernel
theorem dX8_shape_44 : decode cX8_shape 44 = .ok (.iconst 1, 1) := by decide +kernel
theorem dX8_shape_45 : decode cX8_shape 45 = .ok (.isub, 1) := by decide +kernel
theorem dX8_shape_46 : decode cX8_shape 46 = .ok (.i2l, 1) := by decide +kernel
theorem dX8_shape_47 : decode cX8_shape 47 = .ok (.invokestatic 197, 3) := by decide +kernel
theorem dX8_shape_50 : decode cX8_shape 50 = .ok (.ifCond .eq 20, 3) := by decide +kernel
theorem dX8_shape_53 : decode cX8_shape 53 = .ok (.iload 5, 2) := by decide +kernel
theorem dX8_shape_55 : decode cX8_shape 55 = .ok (.i2l, 1) := by decide +kernel
theorem dX8_shape_56 : decode cX8_shape 56 = .ok (.lconst 1, 1) := by decide +kernel
theorem dX8_shape_57 : decode cX8_shape 57 = .ok (.ldc2_w 211, 3) := by decide +kernel
theorem dX8_shape_60 : decode cX8_shape 60 = .ok (.invokestatic 197, 3) := by decide +kernel
theorem dX8_shape_63 : decode cX8_shape 63 = .ok (.ifCond .eq 7, 3) := by decide +kernel
theorem dX8_shape_66 : decode cX8_shape 66 = .ok (.iconst 1, 1) := by decide +kernel
theorem dX8_shape_67 : decode cX8_shape 67 = .ok (.goto 4, 3) := by decide +kernel
theorem dX8_shape_70 : decode cX8_shape 70 = .ok (.iconst 0, 1) := by decide +kernel
theorem dX8_shape_71 : decode cX8_shape 71 = .ok (.istore 6, 2) := by decide +kernel
theorem dX8_shape_73 : decode cX8_shape 73 = .ok (.iload 6, 2) := by decide +kernel
theorem dX8_shape_75 : decode cX8_shape 75 = .ok (.ifCond .ne 6, 3) := by decide +kernel
theorem dX8_shape_78 : decode cX8_shape 78 = .ok (.bipush (-102), 2) := by decide +kernel
theorem dX8_shape_80 : decode cX8_shape 80 = .ok (.ireturn, 1) := by decide +kernel
theorem dX8_shape_81 : decode cX8_shape 81 = .ok (.aload_n 0, 1) := by decide +kernel
theorem dX8_shape_82 : decode cX8_shape 82 = .ok (.getfield 133, 3) := by decide +kernel
theorem dX8_shape_85 : decode cX8_shape 85 = .ok (.ifCond .le 6, 3) := by decide +kernel
theorem dX8_shape_88 : decode cX8_shape 88 = .ok (.bipush (-103), 2) := by decide +kernel
theorem dX8_shape_90 : decode cX8_shape 90 = .ok (.ireturn, 1) := by decide +kernel
theorem dX8_shape_91 : decode cX8_shape 91 = .ok (.aload_n 0, 1) := by decide +kernel
theorem dX8_shape_92 : decode cX8_shape 92 = .ok (.iload_n 1, 1) := by decide +kernel
theorem dX8_shape_93 : decode cX8_shape 93 = .ok (.putfield 114, 3) := by decide +kernel
theorem dX8_shape_96 : decode cX8_shape 96 = .ok (.aload_n 0, 1) := by decide +kernel
theorem dX8_shape_97 : decode cX8_shape 97 = .ok (.iload_n 2, 1) := by decide +kernel
theorem dX8_shape_98 : decode cX8_shape 98 = .ok (.putfield 118, 3) := by decide +kernel
theorem dX8_shape_101 : decode cX8_shape 101 = .ok (.aload_n 0, 1) := by decide +kernel
theorem dX8_shape_102 : decode cX8_shape 102 = .ok (.iload_n 3, 1) := by decide +kernel
theorem dX8_shape_103 : decode cX8_shape 103 = .ok (.putfield 121, 3) := by decide +kernel
theorem dX8_shape_106 : decode cX8_shape 106 = .ok (.aload_n 0, 1) := by decide +kernel
theorem dX8_shape_107 : decode cX8_shape 107 = .ok (.iload 4, 2) := by decide +kernel
theorem dX8_shape_109 : decode cX8_shape 109 = .ok (.putfield 124, 3) := by decide +kernel
theorem dX8_shape_112 : decode cX8_shape 112 = .ok (.aload_n 0, 1) := by decide +kernel
theorem dX8_shape_113 : decode cX8_shape 113 = .ok (.iload 5, 2) := by decide +kernel
theorem dX8_shape_115 : decode cX8_shape 115 = .ok (.putfield 127, 3) := by decide +kernel
theorem dX8_shape_118 : decode cX8_shape 118 = .ok (.iconst 0, 1) := by decide +kernel
theorem dX8_shape_119 : decode cX8_shape 119 = .ok (.istore 7, 2) := by decide +kernel
theorem dX8_shape_121 : decode cX8_shape 121 = .ok (.iload 7, 2) := by decide +kernel
theorem dX8_shape_123 : decode cX8_shape 123 = .ok (.bipush 100, 2) := by decide +kernel
theorem dX8_shape_125 : decode cX8_shape 125 = .ok (.if_icmp .ge 17, 3) := by decide +kernel
theorem dX8_shape_128 : decode cX8_shape 128 = .ok (.aload_n 0, 1) := by decide +kernel
theorem dX8_shape_129 : decode cX8_shape 129 = .ok (.getfield 33, 3) := by decide +kernel
theorem dX8_shape_132 : decode cX8_shape 132 = .ok (.iload 7, 2) := by decide +kernel
theorem dX8_shape_134 : decode cX8_shape 134 = .ok (.iconst 1, 1) := by decide +kernel
theorem dX8_shape_135 : decode cX8_shape 135 = .ok (.iastore, 1) := by decide +kernel
theorem dX8_shape_136 : decode cX8_shape 136 = .ok (.iinc 7 1, 3) := by decide +kernel
theorem dX8_shape_139 : decode cX8_shape 139 = .ok (.goto (-18), 3) := by decide +kernel
theorem dX8_shape_142 : decode cX8_shape 142 = .ok (.iconst 1, 1) := by decide +kernel
theorem dX8_shape_143 : decode cX8_shape 143 = .ok (.ireturn, 1) := by decide +kernel
theorem dX8_splitKeys_0 : decode cX8_splitKeys 0 = .ok (.iconst 0, 1) := by decide +kernel
theorem dX8_splitKeys_1 : decode cX8_splitKeys 1 = .ok (.istore_n 1, 1) := by decide +kernel
theorem dX8_splitKeys_2 : decode cX8_splitKeys 2 = .ok (.iconst 0, 1) := by decide +kernel
theorem dX8_splitKeys_3 : decode cX8_splitKeys 3 = .ok (.istore_n 2, 1) := by decide +kernel
theorem dX8_splitKeys_4 : decode cX8_splitKeys 4 = .ok (.iload_n 2, 1) := by decide +kernel
theorem dX8_splitKeys_5 : decode cX8_splitKeys 5 = .ok (.bipush 100, 2) := by decide +kernel
theorem dX8_splitKeys_7 : decode cX8_splitKeys 7 = .ok (.if_icmp .ge 27, 3) := by decide +kernel
theorem dX8_splitKeys_10 : decode cX8_splitKeys 10 = .ok (.iload_n 1, 1) := by decide +kernel
theorem dX8_splitKeys_11 : decode cX8_splitKeys 11 = .ok (.aload_n 0, 1) := by decide +kernel
theorem dX8_splitKeys_12 : decode cX8_splitKeys 12 = .ok (.getfield 33, 3) := by decide +kernel
theorem dX8_splitKeys_15 : decode cX8_splitKeys 15 = .ok (.iload_n 2, 1) := by decide +kernel
theorem dX8_splitKeys_16 : decode cX8_splitKeys 16 = .ok (.iaload, 1) := by decide +kernel
theorem dX8_splitKeys_17 : decode cX8_splitKeys 17 = .ok (.iconst 1, 1) := by decide +kernel
theorem dX8_splitKeys_18 : decode cX8_splitKeys 18 = .ok (.if_icmp .le 7, 3) := by decide +kernel
theorem dX8_splitKeys_21 : decode cX8_splitKeys 21 = .ok (.iconst 1, 1) := by decide +kernel
theorem dX8_splitKeys_22 : decode cX8_splitKeys 22 = .ok (.goto 4, 3) := by decide +kernel
theorem dX8_splitKeys_25 : decode cX8_splitKeys 25 = .ok (.iconst 0, 1) := by decide +kernel
theorem dX8_splitKeys_26 : decode cX8_splitKeys 26 = .ok (.iadd, 1) := by decide +kernel
theorem dX8_splitKeys_27 : decode cX8_splitKeys 27 = .ok (.istore_n 1, 1) := by decide +kernel
theorem dX8_splitKeys_28 : decode cX8_splitKeys 28 = .ok (.iinc 2 1, 3) := by decide +kernel
theorem dX8_splitKeys_31 : decode cX8_splitKeys 31 = .ok (.goto (-27), 3) := by decide +kernel
theorem dX8_splitKeys_34 : decode cX8_splitKeys 34 = .ok (.iload_n 1, 1) := by decide +kernel
theorem dX8_splitKeys_35 : decode cX8_splitKeys 35 = .ok (.ireturn, 1) := by decide +kernel
theorem dX8_fold_0 : decode cX8_fold 0 = .ok (.iload_n 1, 1) := by decide +kernel
theorem dX8_fold_1 : decode cX8_fold 1 = .ok (.i2l, 1) := by decide +kernel
theorem dX8_fold_2 : decode cX8_fold 2 = .ok (.lconst 0, 1) := by decide +kernel
theorem dX8_fold_3 : decode cX8_fold 3 = .ok (.ldc2_w 183, 3) := by decide +kernel
theorem dX8_fold_6 : decode cX8_fold 6 = .ok (.invokestatic 197, 3) := by decide +kernel
theorem dX8_fold_9 : decode cX8_fold 9 = .ok (.ifCond .ne 6, 3) := by decide +kernel
theorem dX8_fold_12 : decode cX8_fold 12 = .ok (.bipush (-102), 2) := by decide +kernel
theorem dX8_fold_14 : decode cX8_fold 14 = .ok (.ireturn, 1) := by decide +kernel
theorem dX8_fold_15 : decode cX8_fold 15 = .ok (.aload_n 0, 1) := by decide +kernel
theorem dX8_fold_16 : decode cX8_fold 16 = .ok (.getfield 133, 3) := by decide +kernel
theorem dX8_fold_19 : decode cX8_fold 19 = .ok (.ifCond .gt 17, 3) := by decide +kernel
theorem dX8_fold_22 : decode cX8_fold 22 = .ok (.aload_n 0, 1) := by decide +kernel
theorem dX8_fold_23 : decode cX8_fold 23 = .ok (.getfield 164, 3) := by decide +kernel
theorem dX8_fold_26 : decode cX8_fold 26 = .ok (.ifCond .gt 10, 3) := by decide +kernel
theorem dX8_fold_29 : decode cX8_fold 29 = .ok (.aload_n 0, 1) := by decide +kernel
theorem dX8_fold_30 : decode cX8_fold 30 = .ok (.invokevirtual 213, 3) := by decide +kernel
theorem dX8_fold_33 : decode cX8_fold 33 = .ok (.ifCond .le 6, 3) := by decide +kernel
theorem dX8_fold_36 : decode cX8_fold 36 = .ok (.bipush (-103), 2) := by decide +kernel
theorem dX8_fold_38 : decode cX8_fold 38 = .ok (.ireturn, 1) := by decide +kernel
theorem dX8_fold_39 : decode cX8_fold 39 = .ok (.aload_n 0, 1) := by decide +kernel
theorem dX8_fold_40 : decode cX8_fold 40 = .ok (.getfield 130, 3) := by decide +kernel
theorem dX8_fold_43 : decode cX8_fold 43 = .ok (.bipush 6, 2) := by decide +kernel
theorem dX8_fold_45 : decode cX8_fold 45 = .ok (.if_icmp .ne 6, 3) := by decide +kernel
theorem dX8_fold_48 : decode cX8_fold 48 = .ok (.bipush (-104), 2) := by decide +kernel
theorem dX8_fold_50 : decode cX8_fold 50 = .ok (.ireturn, 1) := by decide +kernel
theorem dX8_fold_51 : decode cX8_fold 51 = .ok (.aload_n 0, 1) := by decide +kernel
theorem dX8_fold_52 : decode cX8_fold 52 = .ok (.getfield 7, 3) := by decide +kernel
theorem dX8_fold_55 : decode cX8_fold 55 = .ok (.aload_n 0, 1) := by decide +kernel
theorem dX8_fold_56 : decode cX8_fold 56 = .ok (.getfield 130, 3) := by decide +kernel
theorem dX8_fold_59 : decode cX8_fold 59 = .ok (.iload_n 1, 1) := by decide +kernel
theorem dX8_fold_60 : decode cX8_fold 60 = .ok (.iastore, 1) := by decide +kernel
theorem dX8_fold_61 : decode cX8_fold 61 = .ok (.aload_n 0, 1) := by decide +kernel
theorem dX8_fold_62 : decode cX8_fold 62 = .ok (.getfield 13, 3) := by decide +kernel
theorem dX8_fold_65 : decode cX8_fold 65 = .ok (.aload_n 0, 1) := by decide +kernel
theorem dX8_fold_66 : decode cX8_fold 66 = .ok (.getfield 130, 3) := by decide +kernel
theorem dX8_fold_69 : decode cX8_fold 69 = .ok (.iload_n 2, 1) := by decide +kernel
theorem dX8_fold_70 : decode cX8_fold 70 = .ok (.bastore, 1) := by decide +kernel
theorem dX8_fold_71 : decode cX8_fold 71 = .ok (.iconst 0, 1) := by decide +kernel
theorem dX8_fold_72 : decode cX8_fold 72 = .ok (.istore_n 3, 1) := by decide +kernel
theorem dX8_fold_73 : decode cX8_fold 73 = .ok (.iload_n 3, 1) := by decide +kernel
theorem dX8_fold_74 : decode cX8_fold 74 = .ok (.bipush 100, 2) := by decide +kernel
theorem dX8_fold_76 : decode cX8_fold 76 = .ok (.if_icmp .ge 52, 3) := by decide +kernel
theorem dX8_fold_79 : decode cX8_fold 79 = .ok (.aload_n 0, 1) := by decide +kernel
theorem dX8_fold_80 : decode cX8_fold 80 = .ok (.getfield 17, 3) := by decide +kernel
theorem dX8_fold_83 : decode cX8_fold 83 = .ok (.bipush 6, 2) := by decide +kernel
theorem dX8_fold_85 : decode cX8_fold 85 = .ok (.iload_n 3, 1) := by decide +kernel
theorem dX8_fold_86 : decode cX8_fold 86 = .ok (.imul, 1) := by decide +kernel
theorem dX8_fold_87 : decode cX8_fold 87 = .ok (.aload_n 0, 1) := by decide +kernel
theorem dX8_fold_88 : decode cX8_fold 88 = .ok (.getfield 130, 3) := by decide +kernel
theorem dX8_fold_91 : decode cX8_fold 91 = .ok (.iadd, 1) := by decide +kernel
theorem dX8_fold_92 : decode cX8_fold 92 = .ok (.aload_n 0, 1) := by decide +kernel
theorem dX8_fold_93 : decode cX8_fold 93 = .ok (.aload_n 0, 1) := by decide +kernel
theorem dX8_fold_94 : decode cX8_fold 94 = .ok (.getfield 130, 3) := by decide +kernel
theorem dX8_fold_97 : decode cX8_fold 97 = .ok (.invokevirtual 191, 3) := by decide +kernel
theorem dX8_fold_100 : decode cX8_fold 100 = .ok (.lastore, 1) := by decide +kernel
theorem dX8_fold_101 : decode cX8_fold 101 = .ok (.aload_n 0, 1) := by decide +kernel
theorem dX8_fold_102 : decode cX8_fold 102 = .ok (.getfield 21, 3) := by decide +kernel
theorem dX8_fold_105 : decode cX8_fold 105 = .ok (.iload_n 3, 1) := by decide +kernel
theorem dX8_fold_106 : decode cX8_fold 106 = .ok (.iconst (-1), 1) := by decide +kernel
theorem dX8_fold_107 : decode cX8_fold 107 = .ok (.iastore, 1) := by decide +kernel
theorem dX8_fold_108 : decode cX8_fold 108 = .ok (.aload_n 0, 1) := by decide +kernel
theorem dX8_fold_109 : decode cX8_fold 109 = .ok (.getfield 27, 3) := by decide +kernel
theorem dX8_fold_112 : decode cX8_fold 112 = .ok (.iload_n 3, 1) := by decide +kernel
theorem dX8_fold_113 : decode cX8_fold 113 = .ok (.iconst 0, 1) := by decide +kernel
theorem dX8_fold_114 : decode cX8_fold 114 = .ok (.bastore, 1) := by decide +kernel
theorem dX8_fold_115 : decode cX8_fold 115 = .ok (.aload_n 0, 1) := by decide +kernel
theorem dX8_fold_116 : decode cX8_fold 116 = .ok (.getfield 30, 3) := by decide +kernel
theorem dX8_fold_119 : decode cX8_fold 119 = .ok (.iload_n 3, 1) := by decide +kernel
theorem dX8_fold_120 : decode cX8_fold 120 = .ok (.iconst 0, 1) := by decide +kernel
theorem dX8_fold_121 : decode cX8_fold 121 = .ok (.bastore, 1) := by decide +kernel
theorem dX8_fold_122 : decode cX8_fold 122 = .ok (.iinc 3 1, 3) := by decide +kernel
theorem dX8_fold_125 : decode cX8_fold 125 = .ok (.goto (-52), 3) := by decide +kernel
theorem dX8_fold_128 : decode cX8_fold 128 = .ok (.aload_n 0, 1) := by decide +kernel
theorem dX8_fold_129 : decode cX8_fold 129 = .ok (.dup, 1) := by decide +kernel
theorem dX8_fold_130 : decode cX8_fold 130 = .ok (.getfield 130, 3) := by decide +kernel
theorem dX8_fold_133 : decode cX8_fold 133 = .ok (.iconst 1, 1) := by decide +kernel
theorem dX8_fold_134 : decode cX8_fold 134 = .ok (.iadd, 1) := by decide +kernel
theorem dX8_fold_135 : decode cX8_fold 135 = .ok (.putfield 130, 3) := by decide +kernel
theorem dX8_fold_138 : decode cX8_fold 138 = .ok (.aload_n 0, 1) := by decide +kernel
theorem dX8_fold_139 : decode cX8_fold 139 = .ok (.getfield 130, 3) := by decide +kernel
theorem dX8_fold_142 : decode cX8_fold 142 = .ok (.iconst 1, 1) := by decide +kernel
theorem dX8_fold_143 : decode cX8_fold 143 = .ok (.isub, 1) := by decide +kernel
theorem dX8_fold_144 : decode cX8_fold 144 = .ok (.ireturn, 1) := by decide +kernel
theorem dX8_folded_0 : decode cX8_folded 0 = .ok (.iload_n 0, 1) := by decide +kernel
theorem dX8_folded_1 : decode cX8_folded 1 = .ok (.tableswitch 119 0 6 #[43, 47, 52, 74, 96, 105, 108], 43) := by decide +kernel
theorem dX8_folded_44 : decode cX8_folded 44 = .ok (.lload_n 1, 1) := by decide +kernel
theorem dX8_folded_45 : decode cX8_folded 45 = .ok (.lconst 1, 1) := by decide +kernel
theorem dX8_folded_46 : decode cX8_folded 46 = .ok (.ladd, 1) := by decide +kernel
theorem dX8_folded_47 : decode cX8_folded 47 = .ok (.lreturn, 1) := by decide +kernel
theorem dX8_folded_48 : decode cX8_folded 48 = .ok (.lload_n 1, 1) := by decide +kernel
theorem dX8_folded_49 : decode cX8_folded 49 = .ok (.iload_n 3, 1) := by decide +kernel
theorem dX8_folded_50 : decode cX8_folded 50 = .ok (.i2l, 1) := by decide +kernel
theorem dX8_folded_51 : decode cX8_folded 51 = .ok (.ladd, 1) := by decide +kernel
theorem dX8_folded_52 : decode cX8_folded 52 = .ok (.lreturn, 1) := by decide +kernel
theorem dX8_folded_53 : decode cX8_folded 53 = .ok (.lload_n 1, 1) := by decide +kernel
theorem dX8_folded_54 : decode cX8_folded 54 = .ok (.ldc2_w 185, 3) := by decide +kernel
theorem dX8_folded_57 : decode cX8_folded 57 = .ok (.lcmp, 1) := by decide +kernel
theorem dX8_folded_58 : decode cX8_folded 58 = .ok (.ifCond .eq 10, 3) := by decide +kernel
theorem dX8_folded_61 : decode cX8_folded 61 = .ok (.iload_n 3, 1) := by decide +kernel
theorem dX8_folded_62 : decode cX8_folded 62 = .ok (.i2l, 1) := by decide +kernel
theorem dX8_folded_63 : decode cX8_folded 63 = .ok (.lload_n 1, 1) := by decide +kernel
theorem dX8_folded_64 : decode cX8_folded 64 = .ok (.lcmp, 1) := by decide +kernel
theorem dX8_folded_65 : decode cX8_folded 65 = .ok (.ifCond .ge 8, 3) := by decide +kernel
theorem dX8_folded_68 : decode cX8_folded 68 = .ok (.iload_n 3, 1) := by decide +kernel
theorem dX8_folded_69 : decode cX8_folded 69 = .ok (.i2l, 1) := by decide +kernel
theorem dX8_folded_70 : decode cX8_folded 70 = .ok (.goto 4, 3) := by decide +kernel
theorem dX8_folded_73 : decode cX8_folded 73 = .ok (.lload_n 1, 1) := by decide +kernel
theorem dX8_folded_74 : decode cX8_folded 74 = .ok (.lreturn, 1) := by decide +kernel
theorem dX8_folded_75 : decode cX8_folded 75 = .ok (.lload_n 1, 1) := by decide +kernel
theorem dX8_folded_76 : decode cX8_folded 76 = .ok (.ldc2_w 185, 3) := by decide +kernel
theorem dX8_folded_79 : decode cX8_folded 79 = .ok (.lcmp, 1) := by decide +kernel
theorem dX8_folded_80 : decode cX8_folded 80 = .ok (.ifCond .eq 10, 3) := by decide +kernel
theorem dX8_folded_83 : decode cX8_folded 83 = .ok (.iload_n 3, 1) := by decide +kernel
theorem dX8_folded_84 : decode cX8_folded 84 = .ok (.i2l, 1) := by decide +kernel
theorem dX8_folded_85 : decode cX8_folded 85 = .ok (.lload_n 1, 1) := by decide +kernel
theorem dX8_folded_86 : decode cX8_folded 86 = .ok (.lcmp, 1) := by decide +kernel
theorem dX8_folded_87 : decode cX8_folded 87 = .ok (.ifCond .le 8, 3) := by decide +kernel
theorem dX8_folded_90 : decode cX8_folded 90 = .ok (.iload_n 3, 1) := by decide +kernel
theorem dX8_folded_91 : decode cX8_folded 91 = .ok (.i2l, 1) := by decide +kernel
theorem dX8_folded_92 : decode cX8_folded 92 = .ok (.goto 4, 3) := by decide +kernel
theorem dX8_folded_95 : decode cX8_folded 95 = .ok (.lload_n 1, 1) := by decide +kernel
theorem dX8_folded_96 : decode cX8_folded 96 = .ok (.lreturn, 1) := by decide +kernel
theorem dX8_folded_97 : decode cX8_folded 97 = .ok (.lload_n 1, 1) := by decide +kernel
theorem dX8_folded_98 : decode cX8_folded 98 = .ok (.lconst 1, 1) := by decide +kernel
theorem dX8_folded_99 : decode cX8_folded 99 = .ok (.iload_n 3, 1) := by decide +kernel
theorem dX8_folded_100 : decode cX8_folded 100 = .ok (.bipush 15, 2) := by decide +kernel
theorem dX8_folded_102 : decode cX8_folded 102 = .ok (.iand, 1) := by decide +kernel
theorem dX8_folded_103 : decode cX8_folded 103 = .ok (.lshl, 1) := by decide +kernel
theorem dX8_folded_104 : decode cX8_folded 104 = .ok (.lor, 1) := by decide +kernel
theorem dX8_folded_105 : decode cX8_folded 105 = .ok (.lreturn, 1) := by decide +kernel
theorem dX8_folded_106 : decode cX8_folded 106 = .ok (.iload_n 3, 1) := by decide +kernel
theorem dX8_folded_107 : decode cX8_folded 107 = .ok (.i2l, 1) := by decide +kernel
theorem dX8_folded_108 : decode cX8_folded 108 = .ok (.lreturn, 1) := by decide +kernel
theorem dX8_folded_109 : decode cX8_folded 109 = .ok (.ldc2_w 217, 3) := by decide +kernel
theorem dX8_folded_112 : decode cX8_folded 112 = .ok (.lload_n 1, 1) := by decide +kernel
theorem dX8_folded_113 : decode cX8_folded 113 = .ok (.lmul, 1) := by decide +kernel
theorem dX8_folded_114 : decode cX8_folded 114 = .ok (.iload_n 3, 1) := by decide +kernel
theorem dX8_folded_115 : decode cX8_folded 115 = .ok (.i2l, 1) := by decide +kernel
theorem dX8_folded_116 : decode cX8_folded 116 = .ok (.ladd, 1) := by decide +kernel
theorem dX8_folded_117 : decode cX8_folded 117 = .ok (.l2i, 1) := by decide +kernel
theorem dX8_folded_118 : decode cX8_folded 118 = .ok (.i2l, 1) := by decide +kernel
theorem dX8_folded_119 : decode cX8_folded 119 = .ok (.lreturn, 1) := by decide +kernel
theorem dX8_folded_120 : decode cX8_folded 120 = .ok (.lload_n 1, 1) := by decide +kernel
theorem dX8_folded_121 : decode cX8_folded 121 = .ok (.iload 4, 2) := by decide +kernel
theorem dX8_folded_123 : decode cX8_folded 123 = .ok (.ifCond .eq 7, 3) := by decide +kernel
theorem dX8_folded_126 : decode cX8_folded 126 = .ok (.lconst 1, 1) := by decide +kernel
theorem dX8_folded_127 : decode cX8_folded 127 = .ok (.goto 4, 3) := by decide +kernel
theorem dX8_folded_130 : decode cX8_folded 130 = .ok (.lconst 0, 1) := by decide +kernel
theorem dX8_folded_131 : decode cX8_folded 131 = .ok (.ladd, 1) := by decide +kernel
theorem dX8_folded_132 : decode cX8_folded 132 = .ok (.lreturn, 1) := by decide +kernel
theorem dX8_partOfRow_0 : decode cX8_partOfRow 0 = .ok (.iload_n 1, 1) := by decide +kernel
theorem dX8_partOfRow_1 : decode cX8_partOfRow 1 = .ok (.ldc 219, 2) := by decide +kernel
theorem dX8_partOfRow_3 : decode cX8_partOfRow 3 = .ok (.imul, 1) := by decide +kernel
theorem dX8_partOfRow_4 : decode cX8_partOfRow 4 = .ok (.bipush 16, 2) := by decide +kernel
theorem dX8_partOfRow_6 : decode cX8_partOfRow 6 = .ok (.iushr, 1) := by decide +kernel
theorem dX8_partOfRow_7 : decode cX8_partOfRow 7 = .ok (.iload_n 2, 1) := by decide +kernel
theorem dX8_partOfRow_8 : decode cX8_partOfRow 8 = .ok (.irem, 1) := by decide +kernel
theorem dX8_partOfRow_9 : decode cX8_partOfRow 9 = .ok (.ireturn, 1) := by decide +kernel
theorem dX8_row_0 : decode cX8_row 0 = .ok (.aload_n 0, 1) := by decide +kernel
theorem dX8_row_1 : decode cX8_row 1 = .ok (.iload_n 1, 1) := by decide +kernel
theorem dX8_row_2 : decode cX8_row 2 = .ok (.invokevirtual 220, 3) := by decide +kernel
theorem dX8_row_5 : decode cX8_row 5 = .ok (.ifCond .eq 6, 3) := by decide +kernel
theorem dX8_row_8 : decode cX8_row 8 = .ok (.bipush (-101), 2) := by decide +kernel
theorem dX8_row_10 : decode cX8_row 10 = .ok (.ireturn, 1) := by decide +kernel
theorem dX8_row_11 : decode cX8_row 11 = .ok (.iload_n 2, 1) := by decide +kernel
theorem dX8_row_12 : decode cX8_row 12 = .ok (.i2l, 1) := by decide +kernel
theorem dX8_row_13 : decode cX8_row 13 = .ok (.ldc2_w 224, 3) := by decide +kernel
theorem dX8_row_16 : decode cX8_row 16 = .ok (.ldc2_w 226, 3) := by decide +kernel
theorem dX8_row_19 : decode cX8_row 19 = .ok (.invokestatic 197, 3) := by decide +kernel
theorem dX8_row_22 : decode cX8_row 22 = .ok (.ifCond .ne 6, 3) := by decide +kernel
theorem dX8_row_25 : decode cX8_row 25 = .ok (.bipush (-102), 2) := by decide +kernel
theorem dX8_row_27 : decode cX8_row 27 = .ok (.ireturn, 1) := by decide +kernel
theorem dX8_row_28 : decode cX8_row 28 = .ok (.aload_n 0, 1) := by decide +kernel
theorem dX8_row_29 : decode cX8_row 29 = .ok (.getfield 133, 3) := by decide +kernel
theorem dX8_row_32 : decode cX8_row 32 = .ok (.sipush 450, 3) := by decide +kernel
theorem dX8_row_35 : decode cX8_row 35 = .ok (.if_icmp .ne 6, 3) := by decide +kernel
theorem dX8_row_38 : decode cX8_row 38 = .ok (.bipush (-104), 2) := by decide +kernel
theorem dX8_row_40 : decode cX8_row 40 = .ok (.ireturn, 1) := by decide +kernel
theorem dX8_row_41 : decode cX8_row 41 = .ok (.aload_n 0, 1) := by decide +kernel
theorem dX8_row_42 : decode cX8_row 42 = .ok (.getfield 33, 3) := by decide +kernel
theorem dX8_row_45 : decode cX8_row 45 = .ok (.iload_n 1, 1) := by decide +kernel
theorem dX8_row_46 : decode cX8_row 46 = .ok (.iaload, 1) := by decide +kernel
theorem dX8_row_47 : decode cX8_row 47 = .ok (.iconst 1, 1) := by decide +kernel
theorem dX8_row_48 : decode cX8_row 48 = .ok (.if_icmp .le 20, 3) := by decide +kernel
theorem dX8_row_51 : decode cX8_row 51 = .ok (.aload_n 0, 1) := by decide +kernel
theorem dX8_row_52 : decode cX8_row 52 = .ok (.aload_n 0, 1) := by decide +kernel
theorem dX8_row_53 : decode cX8_row 53 = .ok (.getfield 133, 3) := by decide +kernel
theorem dX8_row_56 : decode cX8_row 56 = .ok (.aload_n 0, 1) := by decide +kernel
theorem dX8_row_57 : decode cX8_row 57 = .ok (.getfield 33, 3) := by decide +kernel
theorem dX8_row_60 : decode cX8_row 60 = .ok (.iload_n 1, 1) := by decide +kernel
theorem dX8_row_61 : decode cX8_row 61 = .ok (.iaload, 1) := by decide +kernel
theorem dX8_row_62 : decode cX8_row 62 = .ok (.invokevirtual 228, 3) := by decide +kernel
theorem dX8_row_65 : decode cX8_row 65 = .ok (.goto 4, 3) := by decide +kernel
theorem dX8_row_68 : decode cX8_row 68 = .ok (.iconst 0, 1) := by decide +kernel
theorem dX8_row_69 : decode cX8_row 69 = .ok (.istore_n 3, 1) := by decide +kernel
theorem dX8_row_70 : decode cX8_row 70 = .ok (.aload_n 0, 1) := by decide +kernel
theorem dX8_row_71 : decode cX8_row 71 = .ok (.iload_n 3, 1) := by decide +kernel
theorem dX8_row_72 : decode cX8_row 72 = .ok (.iload_n 1, 1) := by decide +kernel
theorem dX8_row_73 : decode cX8_row 73 = .ok (.invokevirtual 187, 3) := by decide +kernel
theorem dX8_row_76 : decode cX8_row 76 = .ok (.istore 4, 2) := by decide +kernel
theorem dX8_row_78 : decode cX8_row 78 = .ok (.aload_n 0, 1) := by decide +kernel
theorem dX8_row_79 : decode cX8_row 79 = .ok (.getfield 27, 3) := by decide +kernel
theorem dX8_row_82 : decode cX8_row 82 = .ok (.iload 4, 2) := by decide +kernel
theorem dX8_row_84 : decode cX8_row 84 = .ok (.baload, 1) := by decide +kernel
theorem dX8_row_85 : decode cX8_row 85 = .ok (.ifCond .eq 18, 3) := by decide +kernel
theorem dX8_row_88 : decode cX8_row 88 = .ok (.iload_n 2, 1) := by decide +kernel
theorem dX8_row_89 : decode cX8_row 89 = .ok (.aload_n 0, 1) := by decide +kernel
theorem dX8_row_90 : decode cX8_row 90 = .ok (.getfield 24, 3) := by decide +kernel
theorem dX8_row_93 : decode cX8_row 93 = .ok (.iload 4, 2) := by decide +kernel
theorem dX8_row_95 : decode cX8_row 95 = .ok (.iaload, 1) := by decide +kernel
theorem dX8_row_96 : decode cX8_row 96 = .ok (.if_icmp .ge 7, 3) := by decide +kernel
theorem dX8_row_99 : decode cX8_row 99 = .ok (.iconst 1, 1) := by decide +kernel
theorem dX8_row_100 : decode cX8_row 100 = .ok (.goto 4, 3) := by decide +kernel
theorem dX8_row_103 : decode cX8_row 103 = .ok (.iconst 0, 1) := by decide +kernel
theorem dX8_row_104 : decode cX8_row 104 = .ok (.istore 5, 2) := by decide +kernel
theorem dX8_row_106 : decode cX8_row 106 = .ok (.iconst 0, 1) := by decide +kernel
theorem dX8_row_107 : decode cX8_row 107 = .ok (.istore 6, 2) := by decide +kernel
theorem dX8_row_109 : decode cX8_row 109 = .ok (.iload 6, 2) := by decide +kernel
theorem dX8_row_111 : decode cX8_row 111 = .ok (.aload_n 0, 1) := by decide +kernel
theorem dX8_row_112 : decode cX8_row 112 = .ok (.getfield 130, 3) := by decide +kernel
theorem dX8_row_115 : decode cX8_row 115 = .ok (.if_icmp .ge 48, 3) := by decide +kernel
theorem dX8_row_118 : decode cX8_row 118 = .ok (.aload_n 0, 1) := by decide +kernel
theorem dX8_row_119 : decode cX8_row 119 = .ok (.getfield 17, 3) := by decide +kernel
theorem dX8_row_122 : decode cX8_row 122 = .ok (.bipush 6, 2) := by decide +kernel
theorem dX8_row_124 : decode cX8_row 124 = .ok (.iload 4, 2) := by decide +kernel
theorem dX8_row_126 : decode cX8_row 126 = .ok (.imul, 1) := by decide +kernel
theorem dX8_row_127 : decode cX8_row 127 = .ok (.iload 6, 2) := by decide +kernel
theorem dX8_row_129 : decode cX8_row 129 = .ok (.iadd, 1) := by decide +kernel
theorem dX8_row_130 : decode cX8_row 130 = .ok (.aload_n 0, 1) := by decide +kernel
theorem dX8_row_131 : decode cX8_row 131 = .ok (.getfield 7, 3) := by decide +kernel
theorem dX8_row_134 : decode cX8_row 134 = .ok (.iload 6, 2) := by decide +kernel
theorem dX8_row_136 : decode cX8_row 136 = .ok (.iaload, 1) := by decide +kernel
theorem dX8_row_137 : decode cX8_row 137 = .ok (.aload_n 0, 1) := by decide +kernel
theorem dX8_row_138 : decode cX8_row 138 = .ok (.getfield 17, 3) := by decide +kernel
theorem dX8_row_141 : decode cX8_row 141 = .ok (.bipush 6, 2) := by decide +kernel
theorem dX8_row_143 : decode cX8_row 143 = .ok (.iload 4, 2) := by decide +kernel
theorem dX8_row_145 : decode cX8_row 145 = .ok (.imul, 1) := by decide +kernel
theorem dX8_row_146 : decode cX8_row 146 = .ok (.iload 6, 2) := by decide +kernel
theorem dX8_row_148 : decode cX8_row 148 = .ok (.iadd, 1) := by decide +kernel
theorem dX8_row_149 : decode cX8_row 149 = .ok (.laload, 1) := by decide +kernel
theorem dX8_row_150 : decode cX8_row 150 = .ok (.iload_n 2, 1) := by decide +kernel
theorem dX8_row_151 : decode cX8_row 151 = .ok (.iload 5, 2) := by decide +kernel
theorem dX8_row_153 : decode cX8_row 153 = .ok (.invokestatic 231, 3) := by decide +kernel
theorem dX8_row_156 : decode cX8_row 156 = .ok (.lastore, 1) := by decide +kernel
theorem dX8_row_157 : decode cX8_row 157 = .ok (.iinc 6 1, 3) := by decide +kernel
theorem dX8_row_160 : decode cX8_row 160 = .ok (.goto (-51), 3) := by decide +kernel
theorem dX8_row_163 : decode cX8_row 163 = .ok (.aload_n 0, 1) := by decide +kernel
theorem dX8_row_164 : decode cX8_row 164 = .ok (.getfield 21, 3) := by decide +kernel
theorem dX8_row_167 : decode cX8_row 167 = .ok (.iload 4, 2) := by decide +kernel
theorem dX8_row_169 : decode cX8_row 169 = .ok (.aload_n 0, 1) := by decide +kernel
theorem dX8_row_170 : decode cX8_row 170 = .ok (.getfield 133, 3) := by decide +kernel
theorem dX8_row_173 : decode cX8_row 173 = .ok (.iastore, 1) := by decide +kernel
theorem dX8_row_174 : decode cX8_row 174 = .ok (.aload_n 0, 1) := by decide +kernel
theorem dX8_row_175 : decode cX8_row 175 = .ok (.getfield 24, 3) := by decide +kernel
theorem dX8_row_178 : decode cX8_row 178 = .ok (.iload 4, 2) := by decide +kernel
theorem dX8_row_180 : decode cX8_row 180 = .ok (.iload_n 2, 1) := by decide +kernel
theorem dX8_row_181 : decode cX8_row 181 = .ok (.iastore, 1) := by decide +kernel
theorem dX8_row_182 : decode cX8_row 182 = .ok (.aload_n 0, 1) := by decide +kernel
theorem dX8_row_183 : decode cX8_row 183 = .ok (.getfield 27, 3) := by decide +kernel
theorem dX8_row_186 : decode cX8_row 186 = .ok (.iload 4, 2) := by decide +kernel
theorem dX8_row_188 : decode cX8_row 188 = .ok (.iconst 1, 1) := by decide +kernel
theorem dX8_row_189 : decode cX8_row 189 = .ok (.bastore, 1) := by decide +kernel
theorem dX8_row_190 : decode cX8_row 190 = .ok (.aload_n 0, 1) := by decide +kernel
theorem dX8_row_191 : decode cX8_row 191 = .ok (.getfield 30, 3) := by decide +kernel
theorem dX8_row_194 : decode cX8_row 194 = .ok (.iload 4, 2) := by decide +kernel
theorem dX8_row_196 : decode cX8_row 196 = .ok (.iconst 1, 1) := by decide +kernel
theorem dX8_row_197 : decode cX8_row 197 = .ok (.bastore, 1) := by decide +kernel
theorem dX8_row_198 : decode cX8_row 198 = .ok (.iconst 0, 1) := by decide +kernel
theorem dX8_row_199 : decode cX8_row 199 = .ok (.istore 6, 2) := by decide +kernel
theorem dX8_row_201 : decode cX8_row 201 = .ok (.iload 6, 2) := by decide +kernel
theorem dX8_row_203 : decode cX8_row 203 = .ok (.aload_n 0, 1) := by decide +kernel
theorem dX8_row_204 : decode cX8_row 204 = .ok (.getfield 158, 3) := by decide +kernel
theorem dX8_row_207 : decode cX8_row 207 = .ok (.if_icmp .ge 50, 3) := by decide +kernel
theorem dX8_row_210 : decode cX8_row 210 = .ok (.aload_n 0, 1) := by decide +kernel
theorem dX8_row_211 : decode cX8_row 211 = .ok (.getfield 48, 3) := by decide +kernel
theorem dX8_row_214 : decode cX8_row 214 = .ok (.iload 6, 2) := by decide +kernel
theorem dX8_row_216 : decode cX8_row 216 = .ok (.iaload, 1) := by decide +kernel
theorem dX8_row_217 : decode cX8_row 217 = .ok (.iload_n 1, 1) := by decide +kernel
theorem dX8_row_218 : decode cX8_row 218 = .ok (.if_icmp .ne 33, 3) := by decide +kernel
theorem dX8_row_221 : decode cX8_row 221 = .ok (.aload_n 0, 1) := by decide +kernel
theorem dX8_row_222 : decode cX8_row 222 = .ok (.dup, 1) := by decide +kernel
theorem dX8_row_223 : decode cX8_row 223 = .ok (.getfield 145, 3) := by decide +kernel
theorem dX8_row_226 : decode cX8_row 226 = .ok (.iconst 1, 1) := by decide +kernel
theorem dX8_row_227 : decode cX8_row 227 = .ok (.iadd, 1) := by decide +kernel
theorem dX8_row_228 : decode cX8_row 228 = .ok (.putfield 145, 3) := by decide +kernel
theorem dX8_row_231 : decode cX8_row 231 = .ok (.aload_n 0, 1) := by decide +kernel
theorem dX8_row_232 : decode cX8_row 232 = .ok (.dup, 1) := by decide +kernel
theorem dX8_row_233 : decode cX8_row 233 = .ok (.getfield 154, 3) := by decide +kernel
theorem dX8_row_236 : decode cX8_row 236 = .ok (.iload_n 2, 1) := by decide +kernel
theorem dX8_row_237 : decode cX8_row 237 = .ok (.i2l, 1) := by decide +kernel
theorem dX8_row_238 : decode cX8_row 238 = .ok (.aload_n 0, 1) := by decide +kernel
theorem dX8_row_239 : decode cX8_row 239 = .ok (.getfield 51, 3) := by decide +kernel
theorem dX8_row_242 : decode cX8_row 242 = .ok (.iload 6, 2) := by decide +kernel
theorem dX8_row_244 : decode cX8_row 244 = .ok (.iaload, 1) := by decide +kernel
theorem dX8_row_245 : decode cX8_row 245 = .ok (.i2l, 1) := by decide +kernel
theorem dX8_row_246 : decode cX8_row 246 = .ok (.lmul, 1) := by decide +kernel
theorem dX8_row_247 : decode cX8_row 247 = .ok (.ladd, 1) := by decide +kernel
theorem dX8_row_248 : decode cX8_row 248 = .ok (.putfield 154, 3) := by decide +kernel
theorem dX8_row_251 : decode cX8_row 251 = .ok (.iinc 6 1, 3) := by decide +kernel
theorem dX8_row_254 : decode cX8_row 254 = .ok (.goto (-53), 3) := by decide +kernel
theorem dX8_row_257 : decode cX8_row 257 = .ok (.aload_n 0, 1) := by decide +kernel
theorem dX8_row_258 : decode cX8_row 258 = .ok (.iload_n 1, 1) := by decide +kernel
theorem dX8_row_259 : decode cX8_row 259 = .ok (.iload_n 3, 1) := by decide +kernel
theorem dX8_row_260 : decode cX8_row 260 = .ok (.invokevirtual 235, 3) := by decide +kernel
theorem dX8_row_263 : decode cX8_row 263 = .ok (.istore 6, 2) := by decide +kernel
theorem dX8_row_265 : decode cX8_row 265 = .ok (.aload_n 0, 1) := by decide +kernel
theorem dX8_row_266 : decode cX8_row 266 = .ok (.getfield 36, 3) := by decide +kernel
theorem dX8_row_269 : decode cX8_row 269 = .ok (.iload 6, 2) := by decide +kernel
theorem dX8_row_271 : decode cX8_row 271 = .ok (.dup2, 1) := by decide +kernel
theorem dX8_row_272 : decode cX8_row 272 = .ok (.iaload, 1) := by decide +kernel
theorem dX8_row_273 : decode cX8_row 273 = .ok (.iconst 1, 1) := by decide +kernel
theorem dX8_row_274 : decode cX8_row 274 = .ok (.iadd, 1) := by decide +kernel
theorem dX8_row_275 : decode cX8_row 275 = .ok (.iastore, 1) := by decide +kernel
theorem dX8_row_276 : decode cX8_row 276 = .ok (.aload_n 0, 1) := by decide +kernel
theorem dX8_row_277 : decode cX8_row 277 = .ok (.dup, 1) := by decide +kernel
theorem dX8_row_278 : decode cX8_row 278 = .ok (.getfield 133, 3) := by decide +kernel
theorem dX8_row_281 : decode cX8_row 281 = .ok (.iconst 1, 1) := by decide +kernel
theorem dX8_row_282 : decode cX8_row 282 = .ok (.iadd, 1) := by decide +kernel
theorem dX8_row_283 : decode cX8_row 283 = .ok (.putfield 133, 3) := by decide +kernel
theorem dX8_row_286 : decode cX8_row 286 = .ok (.aload_n 0, 1) := by decide +kernel
theorem dX8_row_287 : decode cX8_row 287 = .ok (.iload_n 1, 1) := by decide +kernel
theorem dX8_row_288 : decode cX8_row 288 = .ok (.invokevirtual 238, 3) := by decide +kernel
theorem dX8_row_291 : decode cX8_row 291 = .ok (.aload_n 0, 1) := by decide +kernel
theorem dX8_row_292 : decode cX8_row 292 = .ok (.dup, 1) := by decide +kernel
theorem dX8_row_293 : decode cX8_row 293 = .ok (.getfield 180, 3) := by decide +kernel
theorem dX8_row_296 : decode cX8_row 296 = .ok (.iconst 1, 1) := by decide +kernel
theorem dX8_row_297 : decode cX8_row 297 = .ok (.iadd, 1) := by decide +kernel
theorem dX8_row_298 : decode cX8_row 298 = .ok (.putfield 180, 3) := by decide +kernel
theorem dX8_row_301 : decode cX8_row 301 = .ok (.aload_n 0, 1) := by decide +kernel
theorem dX8_row_302 : decode cX8_row 302 = .ok (.getfield 180, 3) := by decide +kernel
theorem dX8_row_305 : decode cX8_row 305 = .ok (.aload_n 0, 1) := by decide +kernel
theorem dX8_row_306 : decode cX8_row 306 = .ok (.getfield 118, 3) := by decide +kernel
theorem dX8_row_309 : decode cX8_row 309 = .ok (.if_icmp .ne 7, 3) := by decide +kernel
theorem dX8_row_312 : decode cX8_row 312 = .ok (.aload_n 0, 1) := by decide +kernel
theorem dX8_row_313 : decode cX8_row 313 = .ok (.invokevirtual 242, 3) := by decide +kernel
theorem dX8_row_316 : decode cX8_row 316 = .ok (.iload 6, 2) := by decide +kernel
theorem dX8_row_318 : decode cX8_row 318 = .ok (.ireturn, 1) := by decide +kernel
theorem dX8_counterOf_0 : decode cX8_counterOf 0 = .ok (.iconst (-1), 1) := by decide +kernel
theorem dX8_counterOf_1 : decode cX8_counterOf 1 = .ok (.istore_n 2, 1) := by decide +kernel
theorem dX8_counterOf_2 : decode cX8_counterOf 2 = .ok (.aload_n 0, 1) := by decide +kernel
theorem dX8_counterOf_3 : decode cX8_counterOf 3 = .ok (.getfield 127, 3) := by decide +kernel
theorem dX8_counterOf_6 : decode cX8_counterOf 6 = .ok (.iconst 1, 1) := by decide +kernel
theorem dX8_counterOf_7 : decode cX8_counterOf 7 = .ok (.isub, 1) := by decide +kernel
theorem dX8_counterOf_8 : decode cX8_counterOf 8 = .ok (.istore_n 3, 1) := by decide +kernel
theorem dX8_counterOf_9 : decode cX8_counterOf 9 = .ok (.iload_n 3, 1) := by decide +kernel
theorem dX8_counterOf_10 : decode cX8_counterOf 10 = .ok (.ifCond .lt 25, 3) := by decide +kernel
theorem dX8_counterOf_13 : decode cX8_counterOf 13 = .ok (.aload_n 0, 1) := by decide +kernel
theorem dX8_counterOf_14 : decode cX8_counterOf 14 = .ok (.getfield 39, 3) := by decide +kernel
theorem dX8_counterOf_17 : decode cX8_counterOf 17 = .ok (.iload_n 3, 1) := by decide +kernel
theorem dX8_counterOf_18 : decode cX8_counterOf 18 = .ok (.iaload, 1) := by decide +kernel
theorem dX8_counterOf_19 : decode cX8_counterOf 19 = .ok (.iload_n 1, 1) := by decide +kernel
theorem dX8_counterOf_20 : decode cX8_counterOf 20 = .ok (.if_icmp .ne 7, 3) := by decide +kernel
theorem dX8_counterOf_23 : decode cX8_counterOf 23 = .ok (.iload_n 3, 1) := by decide +kernel
theorem dX8_counterOf_24 : decode cX8_counterOf 24 = .ok (.goto 4, 3) := by decide +kernel
theorem dX8_counterOf_27 : decode cX8_counterOf 27 = .ok (.iload_n 2, 1) := by decide +kernel
theorem dX8_counterOf_28 : decode cX8_counterOf 28 = .ok (.istore_n 2, 1) := by decide +kernel
theorem dX8_counterOf_29 : decode cX8_counterOf 29 = .ok (.iinc 3 (-1), 3) := by decide +kernel
theorem dX8_counterOf_32 : decode cX8_counterOf 32 = .ok (.goto (-23), 3) := by decide +kernel
theorem dX8_counterOf_35 : decode cX8_counterOf 35 = .ok (.iload_n 2, 1) := by decide +kernel
theorem dX8_counterOf_36 : decode cX8_counterOf 36 = .ok (.ireturn, 1) := by decide +kernel
theorem dX8_weakest_0 : decode cX8_weakest 0 = .ok (.iconst 0, 1) := by decide +kernel
theorem dX8_weakest_1 : decode cX8_weakest 1 = .ok (.istore_n 1, 1) := by decide +kernel
theorem dX8_weakest_2 : decode cX8_weakest 2 = .ok (.iconst 1, 1) := by decide +kernel
theorem dX8_weakest_3 : decode cX8_weakest 3 = .ok (.istore_n 2, 1) := by decide +kernel
theorem dX8_weakest_4 : decode cX8_weakest 4 = .ok (.iload_n 2, 1) := by decide +kernel
theorem dX8_weakest_5 : decode cX8_weakest 5 = .ok (.aload_n 0, 1) := by decide +kernel
theorem dX8_weakest_6 : decode cX8_weakest 6 = .ok (.getfield 127, 3) := by decide +kernel
theorem dX8_weakest_9 : decode cX8_weakest 9 = .ok (.if_icmp .ge 60, 3) := by decide +kernel
theorem dX8_weakest_12 : decode cX8_weakest 12 = .ok (.aload_n 0, 1) := by decide +kernel
theorem dX8_weakest_13 : decode cX8_weakest 13 = .ok (.getfield 39, 3) := by decide +kernel
theorem dX8_weakest_16 : decode cX8_weakest 16 = .ok (.iload_n 1, 1) := by decide +kernel
theorem dX8_weakest_17 : decode cX8_weakest 17 = .ok (.iaload, 1) := by decide +kernel
theorem dX8_weakest_18 : decode cX8_weakest 18 = .ok (.iconst (-1), 1) := by decide +kernel
theorem dX8_weakest_19 : decode cX8_weakest 19 = .ok (.if_icmp .eq 32, 3) := by decide +kernel
theorem dX8_weakest_22 : decode cX8_weakest 22 = .ok (.aload_n 0, 1) := by decide +kernel
theorem dX8_weakest_23 : decode cX8_weakest 23 = .ok (.getfield 39, 3) := by decide +kernel
theorem dX8_weakest_26 : decode cX8_weakest 26 = .ok (.iload_n 2, 1) := by decide +kernel
theorem dX8_weakest_27 : decode cX8_weakest 27 = .ok (.iaload, 1) := by decide +kernel
theorem dX8_weakest_28 : decode cX8_weakest 28 = .ok (.iconst (-1), 1) := by decide +kernel
theorem dX8_weakest_29 : decode cX8_weakest 29 = .ok (.if_icmp .eq 18, 3) := by decide +kernel
theorem dX8_weakest_32 : decode cX8_weakest 32 = .ok (.aload_n 0, 1) := by decide +kernel
theorem dX8_weakest_33 : decode cX8_weakest 33 = .ok (.getfield 42, 3) := by decide +kernel
theorem dX8_weakest_36 : decode cX8_weakest 36 = .ok (.iload_n 2, 1) := by decide +kernel
theorem dX8_weakest_37 : decode cX8_weakest 37 = .ok (.iaload, 1) := by decide +kernel
theorem dX8_weakest_38 : decode cX8_weakest 38 = .ok (.aload_n 0, 1) := by decide +kernel
theorem dX8_weakest_39 : decode cX8_weakest 39 = .ok (.getfield 42, 3) := by decide +kernel
theorem dX8_weakest_42 : decode cX8_weakest 42 = .ok (.iload_n 1, 1) := by decide +kernel
theorem dX8_weakest_43 : decode cX8_weakest 43 = .ok (.iaload, 1) := by decide +kernel
theorem dX8_weakest_44 : decode cX8_weakest 44 = .ok (.if_icmp .ge 7, 3) := by decide +kernel
theorem dX8_weakest_47 : decode cX8_weakest 47 = .ok (.iconst 1, 1) := by decide +kernel
theorem dX8_weakest_48 : decode cX8_weakest 48 = .ok (.goto 4, 3) := by decide +kernel
theorem dX8_weakest_51 : decode cX8_weakest 51 = .ok (.iconst 0, 1) := by decide +kernel
theorem dX8_weakest_52 : decode cX8_weakest 52 = .ok (.istore_n 3, 1) := by decide +kernel
theorem dX8_weakest_53 : decode cX8_weakest 53 = .ok (.iload_n 3, 1) := by decide +kernel
theorem dX8_weakest_54 : decode cX8_weakest 54 = .ok (.ifCond .eq 7, 3) := by decide +kernel
theorem dX8_weakest_57 : decode cX8_weakest 57 = .ok (.iload_n 2, 1) := by decide +kernel
theorem dX8_weakest_58 : decode cX8_weakest 58 = .ok (.goto 4, 3) := by decide +kernel
theorem dX8_weakest_61 : decode cX8_weakest 61 = .ok (.iload_n 1, 1) := by decide +kernel
theorem dX8_weakest_62 : decode cX8_weakest 62 = .ok (.istore_n 1, 1) := by decide +kernel
theorem dX8_weakest_63 : decode cX8_weakest 63 = .ok (.iinc 2 1, 3) := by decide +kernel
theorem dX8_weakest_66 : decode cX8_weakest 66 = .ok (.goto (-62), 3) := by decide +kernel
theorem dX8_weakest_69 : decode cX8_weakest 69 = .ok (.iload_n 1, 1) := by decide +kernel
theorem dX8_weakest_70 : decode cX8_weakest 70 = .ok (.ireturn, 1) := by decide +kernel
theorem dX8_countKey_0 : decode cX8_countKey 0 = .ok (.aload_n 0, 1) := by decide +kernel
theorem dX8_countKey_1 : decode cX8_countKey 1 = .ok (.iload_n 1, 1) := by decide +kernel
theorem dX8_countKey_2 : decode cX8_countKey 2 = .ok (.invokevirtual 245, 3) := by decide +kernel
theorem dX8_countKey_5 : decode cX8_countKey 5 = .ok (.istore_n 2, 1) := by decide +kernel
theorem dX8_countKey_6 : decode cX8_countKey 6 = .ok (.iload_n 2, 1) := by decide +kernel
theorem dX8_countKey_7 : decode cX8_countKey 7 = .ok (.ifCond .ge 41, 3) := by decide +kernel
theorem dX8_countKey_10 : decode cX8_countKey 10 = .ok (.aload_n 0, 1) := by decide +kernel
theorem dX8_countKey_11 : decode cX8_countKey 11 = .ok (.invokevirtual 248, 3) := by decide +kernel
theorem dX8_countKey_14 : decode cX8_countKey 14 = .ok (.istore_n 2, 1) := by decide +kernel
theorem dX8_countKey_15 : decode cX8_countKey 15 = .ok (.aload_n 0, 1) := by decide +kernel
theorem dX8_countKey_16 : decode cX8_countKey 16 = .ok (.getfield 45, 3) := by decide +kernel
theorem dX8_countKey_19 : decode cX8_countKey 19 = .ok (.iload_n 2, 1) := by decide +kernel
theorem dX8_countKey_20 : decode cX8_countKey 20 = .ok (.aload_n 0, 1) := by decide +kernel
theorem dX8_countKey_21 : decode cX8_countKey 21 = .ok (.getfield 39, 3) := by decide +kernel
theorem dX8_countKey_24 : decode cX8_countKey 24 = .ok (.iload_n 2, 1) := by decide +kernel
theorem dX8_countKey_25 : decode cX8_countKey 25 = .ok (.iaload, 1) := by decide +kernel
theorem dX8_countKey_26 : decode cX8_countKey 26 = .ok (.iconst (-1), 1) := by decide +kernel
theorem dX8_countKey_27 : decode cX8_countKey 27 = .ok (.if_icmp .ne 7, 3) := by decide +kernel
theorem dX8_countKey_30 : decode cX8_countKey 30 = .ok (.iconst 0, 1) := by decide +kernel
theorem dX8_countKey_31 : decode cX8_countKey 31 = .ok (.goto 9, 3) := by decide +kernel
theorem dX8_countKey_34 : decode cX8_countKey 34 = .ok (.aload_n 0, 1) := by decide +kernel
theorem dX8_countKey_35 : decode cX8_countKey 35 = .ok (.getfield 42, 3) := by decide +kernel
theorem dX8_countKey_38 : decode cX8_countKey 38 = .ok (.iload_n 2, 1) := by decide +kernel
theorem dX8_countKey_39 : decode cX8_countKey 39 = .ok (.iaload, 1) := by decide +kernel
theorem dX8_countKey_40 : decode cX8_countKey 40 = .ok (.iastore, 1) := by decide +kernel
theorem dX8_countKey_41 : decode cX8_countKey 41 = .ok (.aload_n 0, 1) := by decide +kernel
theorem dX8_countKey_42 : decode cX8_countKey 42 = .ok (.getfield 39, 3) := by decide +kernel
theorem dX8_countKey_45 : decode cX8_countKey 45 = .ok (.iload_n 2, 1) := by decide +kernel
theorem dX8_countKey_46 : decode cX8_countKey 46 = .ok (.iload_n 1, 1) := by decide +kernel
theorem dX8_countKey_47 : decode cX8_countKey 47 = .ok (.iastore, 1) := by decide +kernel
theorem dX8_countKey_48 : decode cX8_countKey 48 = .ok (.aload_n 0, 1) := by decide +kernel
theorem dX8_countKey_49 : decode cX8_countKey 49 = .ok (.getfield 42, 3) := by decide +kernel
theorem dX8_countKey_52 : decode cX8_countKey 52 = .ok (.iload_n 2, 1) := by decide +kernel
theorem dX8_countKey_53 : decode cX8_countKey 53 = .ok (.dup2, 1) := by decide +kernel
theorem dX8_countKey_54 : decode cX8_countKey 54 = .ok (.iaload, 1) := by decide +kernel
theorem dX8_countKey_55 : decode cX8_countKey 55 = .ok (.iconst 1, 1) := by decide +kernel
theorem dX8_countKey_56 : decode cX8_countKey 56 = .ok (.iadd, 1) := by decide +kernel
theorem dX8_countKey_57 : decode cX8_countKey 57 = .ok (.iastore, 1) := by decide +kernel
theorem dX8_countKey_58 : decode cX8_countKey 58 = .ok (.return_, 1) := by decide +kernel
theorem dX8_canSplit_0 : decode cX8_canSplit 0 = .ok (.iconst 1, 1) := by decide +kernel
theorem dX8_canSplit_1 : decode cX8_canSplit 1 = .ok (.istore_n 1, 1) := by decide +kernel
theorem dX8_canSplit_2 : decode cX8_canSplit 2 = .ok (.iconst 0, 1) := by decide +kernel
