theorem dX7_init_0 : decode cX7_init 0 = .ok (.aload_n 0, 1) := by decide +kernel
theorem dX7_init_1 : decode cX7_init 1 = .ok (.invokespecial 3, 3) := by decide +kernel
theorem dX7_init_4 : decode cX7_init 4 = .ok (.aload_n 0, 1) := by decide +kernel
theorem dX7_init_5 : decode cX7_init 5 = .ok (.new 9, 3) := by decide +kernel
theorem dX7_init_8 : decode cX7_init 8 = .ok (.dup, 1) := by decide +kernel
theorem dX7_init_9 : decode cX7_init 9 = .ok (.invokespecial 11, 3) := by decide +kernel
theorem dX7_init_12 : decode cX7_init 12 = .ok (.putfield 12, 3) := by decide +kernel
theorem dX7_init_15 : decode cX7_init 15 = .ok (.aload_n 0, 1) := by decide +kernel
theorem dX7_init_16 : decode cX7_init 16 = .ok (.new 16, 3) := by decide +kernel
theorem dX7_init_19 : decode cX7_init 19 = .ok (.dup, 1) := by decide +kernel
theorem dX7_init_20 : decode cX7_init 20 = .ok (.aload_n 0, 1) := by decide +kernel
theorem dX7_init_21 : decode cX7_init 21 = .ok (.getfield 12, 3) := by decide +kernel
theorem dX7_init_24 : decode cX7_init 24 = .ok (.invokespecial 18, 3) := by decide +kernel
theorem dX7_init_27 : decode cX7_init 27 = .ok (.putfield 21, 3) := by decide +kernel
theorem dX7_init_30 : decode cX7_init 30 = .ok (.aload_n 0, 1) := by decide +kernel
theorem dX7_init_31 : decode cX7_init 31 = .ok (.new 25, 3) := by decide +kernel
theorem dX7_init_34 : decode cX7_init 34 = .ok (.dup, 1) := by decide +kernel
theorem dX7_init_35 : decode cX7_init 35 = .ok (.invokespecial 27, 3) := by decide +kernel
theorem dX7_init_38 : decode cX7_init 38 = .ok (.putfield 28, 3) := by decide +kernel
theorem dX7_init_41 : decode cX7_init 41 = .ok (.aload_n 0, 1) := by decide +kernel
theorem dX7_init_42 : decode cX7_init 42 = .ok (.new 32, 3) := by decide +kernel
theorem dX7_init_45 : decode cX7_init 45 = .ok (.dup, 1) := by decide +kernel
theorem dX7_init_46 : decode cX7_init 46 = .ok (.invokespecial 34, 3) := by decide +kernel
theorem dX7_init_49 : decode cX7_init 49 = .ok (.putfield 35, 3) := by decide +kernel
theorem dX7_init_52 : decode cX7_init 52 = .ok (.aload_n 0, 1) := by decide +kernel
theorem dX7_init_53 : decode cX7_init 53 = .ok (.new 39, 3) := by decide +kernel
theorem dX7_init_56 : decode cX7_init 56 = .ok (.dup, 1) := by decide +kernel
theorem dX7_init_57 : decode cX7_init 57 = .ok (.invokespecial 41, 3) := by decide +kernel
theorem dX7_init_60 : decode cX7_init 60 = .ok (.putfield 42, 3) := by decide +kernel
theorem dX7_init_63 : decode cX7_init 63 = .ok (.aload_n 0, 1) := by decide +kernel
theorem dX7_init_64 : decode cX7_init 64 = .ok (.new 46, 3) := by decide +kernel
theorem dX7_init_67 : decode cX7_init 67 = .ok (.dup, 1) := by decide +kernel
theorem dX7_init_68 : decode cX7_init 68 = .ok (.invokespecial 48, 3) := by decide +kernel
theorem dX7_init_71 : decode cX7_init 71 = .ok (.putfield 49, 3) := by decide +kernel
theorem dX7_init_74 : decode cX7_init 74 = .ok (.aload_n 0, 1) := by decide +kernel
theorem dX7_init_75 : decode cX7_init 75 = .ok (.iconst 4, 1) := by decide +kernel
theorem dX7_init_76 : decode cX7_init 76 = .ok (.anewarray 53, 3) := by decide +kernel
theorem dX7_init_79 : decode cX7_init 79 = .ok (.putfield 55, 3) := by decide +kernel
theorem dX7_init_82 : decode cX7_init 82 = .ok (.aload_n 0, 1) := by decide +kernel
theorem dX7_init_83 : decode cX7_init 83 = .ok (.bipush 8, 2) := by decide +kernel
theorem dX7_init_85 : decode cX7_init 85 = .ok (.newarray .int, 2) := by decide +kernel
theorem dX7_init_87 : decode cX7_init 87 = .ok (.putfield 59, 3) := by decide +kernel
theorem dX7_init_90 : decode cX7_init 90 = .ok (.aload_n 0, 1) := by decide +kernel
theorem dX7_init_91 : decode cX7_init 91 = .ok (.invokevirtual 63, 3) := by decide +kernel
theorem dX7_init_94 : decode cX7_init 94 = .ok (.return_, 1) := by decide +kernel
theorem dX7_shape_0 : decode cX7_shape 0 = .ok (.iload_n 1, 1) := by decide +kernel
theorem dX7_shape_1 : decode cX7_shape 1 = .ok (.iconst 2, 1) := by decide +kernel
theorem dX7_shape_2 : decode cX7_shape 2 = .ok (.bipush 8, 2) := by decide +kernel
theorem dX7_shape_4 : decode cX7_shape 4 = .ok (.invokestatic 66, 3) := by decide +kernel
theorem dX7_shape_7 : decode cX7_shape 7 = .ok (.ifCond .eq 47, 3) := by decide +kernel
theorem dX7_shape_10 : decode cX7_shape 10 = .ok (.iload_n 2, 1) := by decide +kernel
theorem dX7_shape_11 : decode cX7_shape 11 = .ok (.bipush 8, 2) := by decide +kernel
theorem dX7_shape_13 : decode cX7_shape 13 = .ok (.sipush 200, 3) := by decide +kernel
theorem dX7_shape_16 : decode cX7_shape 16 = .ok (.invokestatic 66, 3) := by decide +kernel
theorem dX7_shape_19 : decode cX7_shape 19 = .ok (.ifCond .eq 35, 3) := by decide +kernel
theorem dX7_shape_22 : decode cX7_shape 22 = .ok (.iload_n 3, 1) := by decide +kernel
theorem dX7_shape_23 : decode cX7_shape 23 = .ok (.iconst 1, 1) := by decide +kernel
theorem dX7_shape_24 : decode cX7_shape 24 = .ok (.iload_n 2, 1) := by decide +kernel
theorem dX7_shape_25 : decode cX7_shape 25 = .ok (.invokestatic 66, 3) := by decide +kernel
theorem dX7_shape_28 : decode cX7_shape 28 = .ok (.ifCond .eq 26, 3) := by decide +kernel
theorem dX7_shape_31 : decode cX7_shape 31 = .ok (.iload 4, 2) := by decide +kernel
theorem dX7_shape_33 : decode cX7_shape 33 = .ok (.iconst 0, 1) := by decide +kernel
theorem dX7_shape_34 : decode cX7_shape 34 = .ok (.iload_n 3, 1) := by decide +kernel
theorem dX7_shape_35 : decode cX7_shape 35 = .ok (.iconst 1, 1) := by decide +kernel
theorem dX7_shape_36 : decode cX7_shape 36 = .ok (.isub, 1) := by decide +kernel
theorem dX7_shape_37 : decode cX7_shape 37 = .ok (.invokestatic 66, 3) := by decide +kernel
theorem dX7_shape_40 : decode cX7_shape 40 = .ok (.ifCond .eq 14, 3) := by decide +kernel
theorem dX7_shape_43 : decode cX7_shape 43 = .ok (.iload 5, 2) := by decide +kernel
theorem dX7_shape_45 : decode cX7_shape 45 = .ok (.iconst 1, 1) := by decide +kernel
theorem dX7_shape_46 : decode cX7_shape 46 = .ok (.bipush 12, 2) := by decide +kernel
theorem dX7_shape_48 : decode cX7_shape 48 = .ok (.invokestatic 66, 3) := by decide +kernel
theorem dX7_shape_51 : decode cX7_shape 51 = .ok (.ifCond .ne 6, 3) := by decide +kernel
theorem dX7_shape_54 : decode cX7_shape 54 = .ok (.bipush (-102), 2) := by decide +kernel
theorem dX7_shape_56 : decode cX7_shape 56 = .ok (.ireturn, 1) := by decide +kernel
theorem dX7_shape_57 : decode cX7_shape 57 = .ok (.aload_n 0, 1) := by decide +kernel
theorem dX7_shape_58 : decode cX7_shape 58 = .ok (.getfield 70, 3) := by decide +kernel
theorem dX7_shape_61 : decode cX7_shape 61 = .ok (.ifCond .le 6, 3) := by decide +kernel
theorem dX7_shape_64 : decode cX7_shape 64 = .ok (.bipush (-103), 2) := by decide +kernel
theorem dX7_shape_66 : decode cX7_shape 66 = .ok (.ireturn, 1) := by decide +kernel
theorem dX7_shape_67 : decode cX7_shape 67 = .ok (.aload_n 0, 1) := by decide +kernel
theorem dX7_shape_68 : decode cX7_shape 68 = .ok (.iload_n 1, 1) := by decide +kernel
theorem dX7_shape_69 : decode cX7_shape 69 = .ok (.iload_n 2, 1) := by decide +kernel
theorem dX7_shape_70 : decode cX7_shape 70 = .ok (.iload_n 3, 1) := by decide +kernel
theorem dX7_shape_71 : decode cX7_shape 71 = .ok (.iload 4, 2) := by decide +kernel
theorem dX7_shape_73 : decode cX7_shape 73 = .ok (.iload 5, 2) := by decide +kernel
theorem dX7_shape_75 : decode cX7_shape 75 = .ok (.invokevirtual 74, 3) := by decide +kernel
theorem dX7_shape_78 : decode cX7_shape 78 = .ok (.aload_n 0, 1) := by decide +kernel
theorem dX7_shape_79 : decode cX7_shape 79 = .ok (.getfield 21, 3) := by decide +kernel
theorem dX7_shape_82 : decode cX7_shape 82 = .ok (.invokevirtual 78, 3) := by decide +kernel
theorem dX7_shape_85 : decode cX7_shape 85 = .ok (.iconst 1, 1) := by decide +kernel
theorem dX7_shape_86 : decode cX7_shape 86 = .ok (.ireturn, 1) := by decide +kernel
theorem dX7_fold_0 : decode cX7_fold 0 = .ok (.iload_n 1, 1) := by decide +kernel
theorem dX7_fold_1 : decode cX7_fold 1 = .ok (.iconst 0, 1) := by decide +kernel
theorem dX7_fold_2 : decode cX7_fold 2 = .ok (.bipush 7, 2) := by decide +kernel
theorem dX7_fold_4 : decode cX7_fold 4 = .ok (.invokestatic 66, 3) := by decide +kernel
theorem dX7_fold_7 : decode cX7_fold 7 = .ok (.ifCond .ne 6, 3) := by decide +kernel
theorem dX7_fold_10 : decode cX7_fold 10 = .ok (.bipush (-102), 2) := by decide +kernel
theorem dX7_fold_12 : decode cX7_fold 12 = .ok (.ireturn, 1) := by decide +kernel
theorem dX7_fold_13 : decode cX7_fold 13 = .ok (.aload_n 0, 1) := by decide +kernel
theorem dX7_fold_14 : decode cX7_fold 14 = .ok (.getfield 70, 3) := by decide +kernel
theorem dX7_fold_17 : decode cX7_fold 17 = .ok (.ifCond .gt 20, 3) := by decide +kernel
theorem dX7_fold_20 : decode cX7_fold 20 = .ok (.aload_n 0, 1) := by decide +kernel
theorem dX7_fold_21 : decode cX7_fold 21 = .ok (.getfield 81, 3) := by decide +kernel
theorem dX7_fold_24 : decode cX7_fold 24 = .ok (.ifCond .gt 13, 3) := by decide +kernel
theorem dX7_fold_27 : decode cX7_fold 27 = .ok (.aload_n 0, 1) := by decide +kernel
theorem dX7_fold_28 : decode cX7_fold 28 = .ok (.getfield 21, 3) := by decide +kernel
theorem dX7_fold_31 : decode cX7_fold 31 = .ok (.invokevirtual 84, 3) := by decide +kernel
theorem dX7_fold_34 : decode cX7_fold 34 = .ok (.ifCond .le 6, 3) := by decide +kernel
theorem dX7_fold_37 : decode cX7_fold 37 = .ok (.bipush (-103), 2) := by decide +kernel
theorem dX7_fold_39 : decode cX7_fold 39 = .ok (.ireturn, 1) := by decide +kernel
theorem dX7_fold_40 : decode cX7_fold 40 = .ok (.aload_n 0, 1) := by decide +kernel
theorem dX7_fold_41 : decode cX7_fold 41 = .ok (.getfield 12, 3) := by decide +kernel
theorem dX7_fold_44 : decode cX7_fold 44 = .ok (.getfield 88, 3) := by decide +kernel
theorem dX7_fold_47 : decode cX7_fold 47 = .ok (.bipush 6, 2) := by decide +kernel
theorem dX7_fold_49 : decode cX7_fold 49 = .ok (.if_icmp .lt 6, 3) := by decide +kernel
theorem dX7_fold_52 : decode cX7_fold 52 = .ok (.bipush (-104), 2) := by decide +kernel
theorem dX7_fold_54 : decode cX7_fold 54 = .ok (.ireturn, 1) := by decide +kernel
theorem dX7_fold_55 : decode cX7_fold 55 = .ok (.aload_n 0, 1) := by decide +kernel
theorem dX7_fold_56 : decode cX7_fold 56 = .ok (.getfield 12, 3) := by decide +kernel
theorem dX7_fold_59 : decode cX7_fold 59 = .ok (.iload_n 1, 1) := by decide +kernel
theorem dX7_fold_60 : decode cX7_fold 60 = .ok (.iload_n 2, 1) := by decide +kernel
theorem dX7_fold_61 : decode cX7_fold 61 = .ok (.invokevirtual 91, 3) := by decide +kernel
theorem dX7_fold_64 : decode cX7_fold 64 = .ok (.istore_n 3, 1) := by decide +kernel
theorem dX7_fold_65 : decode cX7_fold 65 = .ok (.aload_n 0, 1) := by decide +kernel
theorem dX7_fold_66 : decode cX7_fold 66 = .ok (.getfield 21, 3) := by decide +kernel
theorem dX7_fold_69 : decode cX7_fold 69 = .ok (.iload_n 3, 1) := by decide +kernel
theorem dX7_fold_70 : decode cX7_fold 70 = .ok (.invokevirtual 95, 3) := by decide +kernel
theorem dX7_fold_73 : decode cX7_fold 73 = .ok (.iload_n 3, 1) := by decide +kernel
theorem dX7_fold_74 : decode cX7_fold 74 = .ok (.ireturn, 1) := by decide +kernel
theorem dX7_row_0 : decode cX7_row 0 = .ok (.iload_n 1, 1) := by decide +kernel
theorem dX7_row_1 : decode cX7_row 1 = .ok (.invokestatic 99, 3) := by decide +kernel
theorem dX7_row_4 : decode cX7_row 4 = .ok (.ifCond .ne 6, 3) := by decide +kernel
theorem dX7_row_7 : decode cX7_row 7 = .ok (.bipush (-101), 2) := by decide +kernel
theorem dX7_row_9 : decode cX7_row 9 = .ok (.ireturn, 1) := by decide +kernel
theorem dX7_row_10 : decode cX7_row 10 = .ok (.iload_n 2, 1) := by decide +kernel
theorem dX7_row_11 : decode cX7_row 11 = .ok (.sipush (-1000), 3) := by decide +kernel
theorem dX7_row_14 : decode cX7_row 14 = .ok (.sipush 1000, 3) := by decide +kernel
theorem dX7_row_17 : decode cX7_row 17 = .ok (.invokestatic 66, 3) := by decide +kernel
theorem dX7_row_20 : decode cX7_row 20 = .ok (.ifCond .ne 6, 3) := by decide +kernel
theorem dX7_row_23 : decode cX7_row 23 = .ok (.bipush (-102), 2) := by decide +kernel
theorem dX7_row_25 : decode cX7_row 25 = .ok (.ireturn, 1) := by decide +kernel
theorem dX7_row_26 : decode cX7_row 26 = .ok (.aload_n 0, 1) := by decide +kernel
theorem dX7_row_27 : decode cX7_row 27 = .ok (.getfield 70, 3) := by decide +kernel
theorem dX7_row_30 : decode cX7_row 30 = .ok (.sipush 450, 3) := by decide +kernel
theorem dX7_row_33 : decode cX7_row 33 = .ok (.if_icmp .lt 6, 3) := by decide +kernel
theorem dX7_row_36 : decode cX7_row 36 = .ok (.bipush (-104), 2) := by decide +kernel
theorem dX7_row_38 : decode cX7_row 38 = .ok (.ireturn, 1) := by decide +kernel
theorem dX7_row_39 : decode cX7_row 39 = .ok (.aload_n 0, 1) := by decide +kernel
theorem dX7_row_40 : decode cX7_row 40 = .ok (.getfield 70, 3) := by decide +kernel
theorem dX7_row_43 : decode cX7_row 43 = .ok (.aload_n 0, 1) := by decide +kernel
theorem dX7_row_44 : decode cX7_row 44 = .ok (.getfield 21, 3) := by decide +kernel
theorem dX7_row_47 : decode cX7_row 47 = .ok (.iload_n 1, 1) := by decide +kernel
theorem dX7_row_48 : decode cX7_row 48 = .ok (.invokevirtual 103, 3) := by decide +kernel
theorem dX7_row_51 : decode cX7_row 51 = .ok (.invokestatic 107, 3) := by decide +kernel
theorem dX7_row_54 : decode cX7_row 54 = .ok (.istore_n 3, 1) := by decide +kernel
theorem dX7_row_55 : decode cX7_row 55 = .ok (.aload_n 0, 1) := by decide +kernel
theorem dX7_row_56 : decode cX7_row 56 = .ok (.iload_n 1, 1) := by decide +kernel
theorem dX7_row_57 : decode cX7_row 57 = .ok (.iload_n 3, 1) := by decide +kernel
theorem dX7_row_58 : decode cX7_row 58 = .ok (.invokevirtual 111, 3) := by decide +kernel
theorem dX7_row_61 : decode cX7_row 61 = .ok (.istore 4, 2) := by decide +kernel
theorem dX7_row_63 : decode cX7_row 63 = .ok (.aload_n 0, 1) := by decide +kernel
theorem dX7_row_64 : decode cX7_row 64 = .ok (.getfield 21, 3) := by decide +kernel
theorem dX7_row_67 : decode cX7_row 67 = .ok (.iload_n 1, 1) := by decide +kernel
theorem dX7_row_68 : decode cX7_row 68 = .ok (.iload_n 3, 1) := by decide +kernel
theorem dX7_row_69 : decode cX7_row 69 = .ok (.aload_n 0, 1) := by decide +kernel
theorem dX7_row_70 : decode cX7_row 70 = .ok (.getfield 70, 3) := by decide +kernel
theorem dX7_row_73 : decode cX7_row 73 = .ok (.iload_n 2, 1) := by decide +kernel
theorem dX7_row_74 : decode cX7_row 74 = .ok (.invokevirtual 114, 3) := by decide +kernel
theorem dX7_row_77 : decode cX7_row 77 = .ok (.aload_n 0, 1) := by decide +kernel
theorem dX7_row_78 : decode cX7_row 78 = .ok (.getfield 35, 3) := by decide +kernel
theorem dX7_row_81 : decode cX7_row 81 = .ok (.iload_n 1, 1) := by decide +kernel
theorem dX7_row_82 : decode cX7_row 82 = .ok (.iload_n 2, 1) := by decide +kernel
theorem dX7_row_83 : decode cX7_row 83 = .ok (.invokevirtual 118, 3) := by decide +kernel
theorem dX7_row_86 : decode cX7_row 86 = .ok (.aload_n 0, 1) := by decide +kernel
theorem dX7_row_87 : decode cX7_row 87 = .ok (.getfield 59, 3) := by decide +kernel
theorem dX7_row_90 : decode cX7_row 90 = .ok (.iload 4, 2) := by decide +kernel
theorem dX7_row_92 : decode cX7_row 92 = .ok (.dup2, 1) := by decide +kernel
theorem dX7_row_93 : decode cX7_row 93 = .ok (.iaload, 1) := by decide +kernel
theorem dX7_row_94 : decode cX7_row 94 = .ok (.iconst 1, 1) := by decide +kernel
theorem dX7_row_95 : decode cX7_row 95 = .ok (.iadd, 1) := by decide +kernel
theorem dX7_row_96 : decode cX7_row 96 = .ok (.iastore, 1) := by decide +kernel
theorem dX7_row_97 : decode cX7_row 97 = .ok (.aload_n 0, 1) := by decide +kernel
theorem dX7_row_98 : decode cX7_row 98 = .ok (.dup, 1) := by decide +kernel
theorem dX7_row_99 : decode cX7_row 99 = .ok (.getfield 70, 3) := by decide +kernel
theorem dX7_row_102 : decode cX7_row 102 = .ok (.iconst 1, 1) := by decide +kernel
theorem dX7_row_103 : decode cX7_row 103 = .ok (.iadd, 1) := by decide +kernel
theorem dX7_row_104 : decode cX7_row 104 = .ok (.putfield 70, 3) := by decide +kernel
theorem dX7_row_107 : decode cX7_row 107 = .ok (.aload_n 0, 1) := by decide +kernel
theorem dX7_row_108 : decode cX7_row 108 = .ok (.dup, 1) := by decide +kernel
theorem dX7_row_109 : decode cX7_row 109 = .ok (.getfield 122, 3) := by decide +kernel
theorem dX7_row_112 : decode cX7_row 112 = .ok (.iconst 1, 1) := by decide +kernel
theorem dX7_row_113 : decode cX7_row 113 = .ok (.iadd, 1) := by decide +kernel
theorem dX7_row_114 : decode cX7_row 114 = .ok (.putfield 122, 3) := by decide +kernel
theorem dX7_row_117 : decode cX7_row 117 = .ok (.aload_n 0, 1) := by decide +kernel
theorem dX7_row_118 : decode cX7_row 118 = .ok (.getfield 28, 3) := by decide +kernel
theorem dX7_row_121 : decode cX7_row 121 = .ok (.iload_n 1, 1) := by decide +kernel
theorem dX7_row_122 : decode cX7_row 122 = .ok (.invokevirtual 125, 3) := by decide +kernel
theorem dX7_row_125 : decode cX7_row 125 = .ok (.aload_n 0, 1) := by decide +kernel
theorem dX7_row_126 : decode cX7_row 126 = .ok (.getfield 122, 3) := by decide +kernel
theorem dX7_row_129 : decode cX7_row 129 = .ok (.aload_n 0, 1) := by decide +kernel
theorem dX7_row_130 : decode cX7_row 130 = .ok (.getfield 127, 3) := by decide +kernel
theorem dX7_row_133 : decode cX7_row 133 = .ok (.if_icmp .lt 7, 3) := by decide +kernel
theorem dX7_row_136 : decode cX7_row 136 = .ok (.aload_n 0, 1) := by decide +kernel
theorem dX7_row_137 : decode cX7_row 137 = .ok (.invokevirtual 130, 3) := by decide +kernel
theorem dX7_row_140 : decode cX7_row 140 = .ok (.iload 4, 2) := by decide +kernel
theorem dX7_row_142 : decode cX7_row 142 = .ok (.ireturn, 1) := by decide +kernel
theorem dX7_state_0 : decode cX7_state 0 = .ok (.aload_n 0, 1) := by decide +kernel
theorem dX7_state_1 : decode cX7_state 1 = .ok (.iload_n 1, 1) := by decide +kernel
theorem dX7_state_2 : decode cX7_state 2 = .ok (.invokevirtual 133, 3) := by decide +kernel
theorem dX7_state_5 : decode cX7_state 5 = .ok (.ifCond .eq 10, 3) := by decide +kernel
theorem dX7_state_8 : decode cX7_state 8 = .ok (.iload_n 2, 1) := by decide +kernel
theorem dX7_state_9 : decode cX7_state 9 = .ok (.invokestatic 99, 3) := by decide +kernel
theorem dX7_state_12 : decode cX7_state 12 = .ok (.ifCond .ne 7, 3) := by decide +kernel
theorem dX7_state_15 : decode cX7_state 15 = .ok (.ldc2_w 136, 3) := by decide +kernel
theorem dX7_state_18 : decode cX7_state 18 = .ok (.lreturn, 1) := by decide +kernel
theorem dX7_state_19 : decode cX7_state 19 = .ok (.aload_n 0, 1) := by decide +kernel
theorem dX7_state_20 : decode cX7_state 20 = .ok (.getfield 21, 3) := by decide +kernel
theorem dX7_state_23 : decode cX7_state 23 = .ok (.iload_n 2, 1) := by decide +kernel
theorem dX7_state_24 : decode cX7_state 24 = .ok (.iload_n 1, 1) := by decide +kernel
theorem dX7_state_25 : decode cX7_state 25 = .ok (.invokevirtual 138, 3) := by decide +kernel
theorem dX7_state_28 : decode cX7_state 28 = .ok (.lreturn, 1) := by decide +kernel
theorem dX7_part_0 : decode cX7_part 0 = .ok (.aload_n 0, 1) := by decide +kernel
theorem dX7_part_1 : decode cX7_part 1 = .ok (.iload_n 1, 1) := by decide +kernel
theorem dX7_part_2 : decode cX7_part 2 = .ok (.invokevirtual 133, 3) := by decide +kernel
theorem dX7_part_5 : decode cX7_part 5 = .ok (.ifCond .eq 22, 3) := by decide +kernel
theorem dX7_part_8 : decode cX7_part 8 = .ok (.iload_n 2, 1) := by decide +kernel
theorem dX7_part_9 : decode cX7_part 9 = .ok (.invokestatic 99, 3) := by decide +kernel
theorem dX7_part_12 : decode cX7_part 12 = .ok (.ifCond .eq 15, 3) := by decide +kernel
theorem dX7_part_15 : decode cX7_part 15 = .ok (.aload_n 0, 1) := by decide +kernel
theorem dX7_part_16 : decode cX7_part 16 = .ok (.getfield 21, 3) := by decide +kernel
theorem dX7_part_19 : decode cX7_part 19 = .ok (.iload_n 2, 1) := by decide +kernel
theorem dX7_part_20 : decode cX7_part 20 = .ok (.iload_n 3, 1) := by decide +kernel
theorem dX7_part_21 : decode cX7_part 21 = .ok (.invokevirtual 142, 3) := by decide +kernel
theorem dX7_part_24 : decode cX7_part 24 = .ok (.ifCond .ne 7, 3) := by decide +kernel
theorem dX7_part_27 : decode cX7_part 27 = .ok (.ldc2_w 136, 3) := by decide +kernel
theorem dX7_part_30 : decode cX7_part 30 = .ok (.lreturn, 1) := by decide +kernel
theorem dX7_part_31 : decode cX7_part 31 = .ok (.aload_n 0, 1) := by decide +kernel
theorem dX7_part_32 : decode cX7_part 32 = .ok (.getfield 21, 3) := by decide +kernel
theorem dX7_part_35 : decode cX7_part 35 = .ok (.iload_n 2, 1) := by decide +kernel
theorem dX7_part_36 : decode cX7_part 36 = .ok (.iload_n 3, 1) := by decide +kernel
theorem dX7_part_37 : decode cX7_part 37 = .ok (.iload_n 1, 1) := by decide +kernel
theorem dX7_part_38 : decode cX7_part 38 = .ok (.invokevirtual 146, 3) := by decide +kernel
theorem dX7_part_41 : decode cX7_part 41 = .ok (.lreturn, 1) := by decide +kernel
theorem dX7_parts_0 : decode cX7_parts 0 = .ok (.iload_n 1, 1) := by decide +kernel
theorem dX7_parts_1 : decode cX7_parts 1 = .ok (.invokestatic 99, 3) := by decide +kernel
theorem dX7_parts_4 : decode cX7_parts 4 = .ok (.ifCond .eq 14, 3) := by decide +kernel
theorem dX7_parts_7 : decode cX7_parts 7 = .ok (.aload_n 0, 1) := by decide +kernel
theorem dX7_parts_8 : decode cX7_parts 8 = .ok (.getfield 21, 3) := by decide +kernel
theorem dX7_parts_11 : decode cX7_parts 11 = .ok (.iload_n 1, 1) := by decide +kernel
theorem dX7_parts_12 : decode cX7_parts 12 = .ok (.invokevirtual 103, 3) := by decide +kernel
theorem dX7_parts_15 : decode cX7_parts 15 = .ok (.goto 5, 3) := by decide +kernel
theorem dX7_parts_18 : decode cX7_parts 18 = .ok (.bipush (-101), 2) := by decide +kernel
theorem dX7_parts_20 : decode cX7_parts 20 = .ok (.ireturn, 1) := by decide +kernel
theorem dX7_place_0 : decode cX7_place 0 = .ok (.iload_n 1, 1) := by decide +kernel
theorem dX7_place_1 : decode cX7_place 1 = .ok (.invokestatic 99, 3) := by decide +kernel
theorem dX7_place_4 : decode cX7_place 4 = .ok (.ifCond .ne 6, 3) := by decide +kernel
theorem dX7_place_7 : decode cX7_place 7 = .ok (.bipush (-101), 2) := by decide +kernel
theorem dX7_place_9 : decode cX7_place 9 = .ok (.ireturn, 1) := by decide +kernel
theorem dX7_place_10 : decode cX7_place 10 = .ok (.aload_n 0, 1) := by decide +kernel
theorem dX7_place_11 : decode cX7_place 11 = .ok (.getfield 21, 3) := by decide +kernel
theorem dX7_place_14 : decode cX7_place 14 = .ok (.iload_n 1, 1) := by decide +kernel
theorem dX7_place_15 : decode cX7_place 15 = .ok (.iload_n 2, 1) := by decide +kernel
theorem dX7_place_16 : decode cX7_place 16 = .ok (.invokevirtual 142, 3) := by decide +kernel
theorem dX7_place_19 : decode cX7_place 19 = .ok (.ifCond .eq 12, 3) := by decide +kernel
theorem dX7_place_22 : decode cX7_place 22 = .ok (.aload_n 0, 1) := by decide +kernel
theorem dX7_place_23 : decode cX7_place 23 = .ok (.iload_n 1, 1) := by decide +kernel
theorem dX7_place_24 : decode cX7_place 24 = .ok (.iload_n 2, 1) := by decide +kernel
theorem dX7_place_25 : decode cX7_place 25 = .ok (.invokevirtual 111, 3) := by decide +kernel
theorem dX7_place_28 : decode cX7_place 28 = .ok (.goto 4, 3) := by decide +kernel
theorem dX7_place_31 : decode cX7_place 31 = .ok (.iconst (-1), 1) := by decide +kernel
theorem dX7_place_32 : decode cX7_place 32 = .ok (.ireturn, 1) := by decide +kernel
theorem dX7_split_0 : decode cX7_split 0 = .ok (.iload_n 1, 1) := by decide +kernel
theorem dX7_split_1 : decode cX7_split 1 = .ok (.invokestatic 99, 3) := by decide +kernel
theorem dX7_split_4 : decode cX7_split 4 = .ok (.ifCond .ne 6, 3) := by decide +kernel
theorem dX7_split_7 : decode cX7_split 7 = .ok (.bipush (-101), 2) := by decide +kernel
theorem dX7_split_9 : decode cX7_split 9 = .ok (.ireturn, 1) := by decide +kernel
theorem dX7_split_10 : decode cX7_split 10 = .ok (.iload_n 2, 1) := by decide +kernel
theorem dX7_split_11 : decode cX7_split 11 = .ok (.iconst 2, 1) := by decide +kernel
theorem dX7_split_12 : decode cX7_split 12 = .ok (.aload_n 0, 1) := by decide +kernel
theorem dX7_split_13 : decode cX7_split 13 = .ok (.getfield 150, 3) := by decide +kernel
theorem dX7_split_16 : decode cX7_split 16 = .ok (.invokestatic 66, 3) := by decide +kernel
theorem dX7_split_19 : decode cX7_split 19 = .ok (.ifCond .ne 6, 3) := by decide +kernel
theorem dX7_split_22 : decode cX7_split 22 = .ok (.bipush (-102), 2) := by decide +kernel
theorem dX7_split_24 : decode cX7_split 24 = .ok (.ireturn, 1) := by decide +kernel
theorem dX7_split_25 : decode cX7_split 25 = .ok (.aload_n 0, 1) := by decide +kernel
theorem dX7_split_26 : decode cX7_split 26 = .ok (.getfield 21, 3) := by decide +kernel
theorem dX7_split_29 : decode cX7_split 29 = .ok (.iload_n 1, 1) := by decide +kernel
theorem dX7_split_30 : decode cX7_split 30 = .ok (.invokevirtual 153, 3) := by decide +kernel
theorem dX7_split_33 : decode cX7_split 33 = .ok (.ifCond .ne 13, 3) := by decide +kernel
theorem dX7_split_36 : decode cX7_split 36 = .ok (.aload_n 0, 1) := by decide +kernel
theorem dX7_split_37 : decode cX7_split 37 = .ok (.getfield 12, 3) := by decide +kernel
theorem dX7_split_40 : decode cX7_split 40 = .ok (.invokevirtual 156, 3) := by decide +kernel
theorem dX7_split_43 : decode cX7_split 43 = .ok (.ifCond .ne 6, 3) := by decide +kernel
theorem dX7_split_46 : decode cX7_split 46 = .ok (.bipush (-103), 2) := by decide +kernel
theorem dX7_split_48 : decode cX7_split 48 = .ok (.ireturn, 1) := by decide +kernel
theorem dX7_split_49 : decode cX7_split 49 = .ok (.aload_n 0, 1) := by decide +kernel
theorem dX7_split_50 : decode cX7_split 50 = .ok (.getfield 21, 3) := by decide +kernel
theorem dX7_split_53 : decode cX7_split 53 = .ok (.iload_n 1, 1) := by decide +kernel
theorem dX7_split_54 : decode cX7_split 54 = .ok (.iload_n 2, 1) := by decide +kernel
theorem dX7_split_55 : decode cX7_split 55 = .ok (.invokevirtual 160, 3) := by decide +kernel
theorem dX7_split_58 : decode cX7_split 58 = .ok (.iconst 1, 1) := by decide +kernel
theorem dX7_split_59 : decode cX7_split 59 = .ok (.ireturn, 1) := by decide +kernel
theorem dX7_back_0 : decode cX7_back 0 = .ok (.iload_n 1, 1) := by decide +kernel
theorem dX7_back_1 : decode cX7_back 1 = .ok (.invokestatic 99, 3) := by decide +kernel
theorem dX7_back_4 : decode cX7_back 4 = .ok (.ifCond .ne 6, 3) := by decide +kernel
theorem dX7_back_7 : decode cX7_back 7 = .ok (.bipush (-101), 2) := by decide +kernel
theorem dX7_back_9 : decode cX7_back 9 = .ok (.ireturn, 1) := by decide +kernel
theorem dX7_back_10 : decode cX7_back 10 = .ok (.aload_n 0, 1) := by decide +kernel
theorem dX7_back_11 : decode cX7_back 11 = .ok (.getfield 21, 3) := by decide +kernel
theorem dX7_back_14 : decode cX7_back 14 = .ok (.iload_n 1, 1) := by decide +kernel
theorem dX7_back_15 : decode cX7_back 15 = .ok (.invokevirtual 153, 3) := by decide +kernel
theorem dX7_back_18 : decode cX7_back 18 = .ok (.ifCond .ne 6, 3) := by decide +kernel
theorem dX7_back_21 : decode cX7_back 21 = .ok (.bipush (-103), 2) := by decide +kernel
theorem dX7_back_23 : decode cX7_back 23 = .ok (.ireturn, 1) := by decide +kernel
theorem dX7_back_24 : decode cX7_back 24 = .ok (.aload_n 0, 1) := by decide +kernel
theorem dX7_back_25 : decode cX7_back 25 = .ok (.getfield 21, 3) := by decide +kernel
theorem dX7_back_28 : decode cX7_back 28 = .ok (.iload_n 1, 1) := by decide +kernel
theorem dX7_back_29 : decode cX7_back 29 = .ok (.invokevirtual 163, 3) := by decide +kernel
theorem dX7_back_32 : decode cX7_back 32 = .ok (.ireturn, 1) := by decide +kernel
theorem dX7_tree_0 : decode cX7_tree 0 = .ok (.iload_n 1, 1) := by decide +kernel
theorem dX7_tree_1 : decode cX7_tree 1 = .ok (.invokestatic 99, 3) := by decide +kernel
theorem dX7_tree_4 : decode cX7_tree 4 = .ok (.ifCond .ne 6, 3) := by decide +kernel
theorem dX7_tree_7 : decode cX7_tree 7 = .ok (.bipush (-101), 2) := by decide +kernel
theorem dX7_tree_9 : decode cX7_tree 9 = .ok (.ireturn, 1) := by decide +kernel
theorem dX7_tree_10 : decode cX7_tree 10 = .ok (.iload_n 2, 1) := by decide +kernel
theorem dX7_tree_11 : decode cX7_tree 11 = .ok (.ifCond .ge 7, 3) := by decide +kernel
theorem dX7_tree_14 : decode cX7_tree 14 = .ok (.iconst (-1), 1) := by decide +kernel
theorem dX7_tree_15 : decode cX7_tree 15 = .ok (.goto 15, 3) := by decide +kernel
theorem dX7_tree_18 : decode cX7_tree 18 = .ok (.aload_n 0, 1) := by decide +kernel
theorem dX7_tree_19 : decode cX7_tree 19 = .ok (.getfield 21, 3) := by decide +kernel
theorem dX7_tree_22 : decode cX7_tree 22 = .ok (.iload_n 1, 1) := by decide +kernel
theorem dX7_tree_23 : decode cX7_tree 23 = .ok (.invokevirtual 103, 3) := by decide +kernel
theorem dX7_tree_26 : decode cX7_tree 26 = .ok (.iload_n 2, 1) := by decide +kernel
theorem dX7_tree_27 : decode cX7_tree 27 = .ok (.invokestatic 166, 3) := by decide +kernel
theorem dX7_tree_30 : decode cX7_tree 30 = .ok (.ireturn, 1) := by decide +kernel
theorem dX7_counter_0 : decode cX7_counter 0 = .ok (.iload_n 1, 1) := by decide +kernel
theorem dX7_counter_1 : decode cX7_counter 1 = .ok (.iconst 0, 1) := by decide +kernel
theorem dX7_counter_2 : decode cX7_counter 2 = .ok (.aload_n 0, 1) := by decide +kernel
theorem dX7_counter_3 : decode cX7_counter 3 = .ok (.getfield 28, 3) := by decide +kernel
theorem dX7_counter_6 : decode cX7_counter 6 = .ok (.getfield 169, 3) := by decide +kernel
theorem dX7_counter_9 : decode cX7_counter 9 = .ok (.iconst 1, 1) := by decide +kernel
theorem dX7_counter_10 : decode cX7_counter 10 = .ok (.isub, 1) := by decide +kernel
theorem dX7_counter_11 : decode cX7_counter 11 = .ok (.invokestatic 66, 3) := by decide +kernel
theorem dX7_counter_14 : decode cX7_counter 14 = .ok (.ifCond .ne 6, 3) := by decide +kernel
theorem dX7_counter_17 : decode cX7_counter 17 = .ok (.bipush (-102), 2) := by decide +kernel
theorem dX7_counter_19 : decode cX7_counter 19 = .ok (.ireturn, 1) := by decide +kernel
theorem dX7_counter_20 : decode cX7_counter 20 = .ok (.iload_n 2, 1) := by decide +kernel
theorem dX7_counter_21 : decode cX7_counter 21 = .ok (.tableswitch 54 0 2 #[27, 36, 45], 27) := by decide +kernel
theorem dX7_counter_48 : decode cX7_counter 48 = .ok (.aload_n 0, 1) := by decide +kernel
theorem dX7_counter_49 : decode cX7_counter 49 = .ok (.getfield 28, 3) := by decide +kernel
theorem dX7_counter_52 : decode cX7_counter 52 = .ok (.iload_n 1, 1) := by decide +kernel
theorem dX7_counter_53 : decode cX7_counter 53 = .ok (.invokevirtual 172, 3) := by decide +kernel
theorem dX7_counter_56 : decode cX7_counter 56 = .ok (.ireturn, 1) := by decide +kernel
theorem dX7_counter_57 : decode cX7_counter 57 = .ok (.aload_n 0, 1) := by decide +kernel
theorem dX7_counter_58 : decode cX7_counter 58 = .ok (.getfield 28, 3) := by decide +kernel
theorem dX7_counter_61 : decode cX7_counter 61 = .ok (.iload_n 1, 1) := by decide +kernel
theorem dX7_counter_62 : decode cX7_counter 62 = .ok (.invokevirtual 175, 3) := by decide +kernel
theorem dX7_counter_65 : decode cX7_counter 65 = .ok (.ireturn, 1) := by decide +kernel
theorem dX7_counter_66 : decode cX7_counter 66 = .ok (.aload_n 0, 1) := by decide +kernel
theorem dX7_counter_67 : decode cX7_counter 67 = .ok (.getfield 28, 3) := by decide +kernel
theorem dX7_counter_70 : decode cX7_counter 70 = .ok (.iload_n 1, 1) := by decide +kernel
theorem dX7_counter_71 : decode cX7_counter 71 = .ok (.invokevirtual 178, 3) := by decide +kernel
theorem dX7_counter_74 : decode cX7_counter 74 = .ok (.ireturn, 1) := by decide +kernel
theorem dX7_counter_75 : decode cX7_counter 75 = .ok (.bipush (-102), 2) := by decide +kernel
theorem dX7_counter_77 : decode cX7_counter 77 = .ok (.ireturn, 1) := by decide +kernel
theorem dX7_hot_0 : decode cX7_hot 0 = .ok (.iload_n 1, 1) := by decide +kernel
theorem dX7_hot_1 : decode cX7_hot 1 = .ok (.invokestatic 99, 3) := by decide +kernel
theorem dX7_hot_4 : decode cX7_hot 4 = .ok (.ifCond .ne 6, 3) := by decide +kernel
theorem dX7_hot_7 : decode cX7_hot 7 = .ok (.bipush (-101), 2) := by decide +kernel
theorem dX7_hot_9 : decode cX7_hot 9 = .ok (.ireturn, 1) := by decide +kernel
theorem dX7_hot_10 : decode cX7_hot 10 = .ok (.aload_n 0, 1) := by decide +kernel
theorem dX7_hot_11 : decode cX7_hot 11 = .ok (.getfield 28, 3) := by decide +kernel
theorem dX7_hot_14 : decode cX7_hot 14 = .ok (.iload_n 1, 1) := by decide +kernel
theorem dX7_hot_15 : decode cX7_hot 15 = .ok (.invokevirtual 181, 3) := by decide +kernel
theorem dX7_hot_18 : decode cX7_hot 18 = .ok (.aload_n 0, 1) := by decide +kernel
theorem dX7_hot_19 : decode cX7_hot 19 = .ok (.getfield 184, 3) := by decide +kernel
theorem dX7_hot_22 : decode cX7_hot 22 = .ok (.if_icmp .lt 5, 3) := by decide +kernel
theorem dX7_hot_25 : decode cX7_hot 25 = .ok (.iconst 2, 1) := by decide +kernel
theorem dX7_hot_26 : decode cX7_hot 26 = .ok (.ireturn, 1) := by decide +kernel
theorem dX7_hot_27 : decode cX7_hot 27 = .ok (.aload_n 0, 1) := by decide +kernel
theorem dX7_hot_28 : decode cX7_hot 28 = .ok (.getfield 28, 3) := by decide +kernel
theorem dX7_hot_31 : decode cX7_hot 31 = .ok (.iload_n 1, 1) := by decide +kernel
theorem dX7_hot_32 : decode cX7_hot 32 = .ok (.invokevirtual 187, 3) := by decide +kernel
theorem dX7_hot_35 : decode cX7_hot 35 = .ok (.aload_n 0, 1) := by decide +kernel
theorem dX7_hot_36 : decode cX7_hot 36 = .ok (.getfield 184, 3) := by decide +kernel
theorem dX7_hot_39 : decode cX7_hot 39 = .ok (.if_icmp .lt 7, 3) := by decide +kernel
theorem dX7_hot_42 : decode cX7_hot 42 = .ok (.iconst 1, 1) := by decide +kernel
theorem dX7_hot_43 : decode cX7_hot 43 = .ok (.goto 4, 3) := by decide +kernel
theorem dX7_hot_46 : decode cX7_hot 46 = .ok (.iconst 0, 1) := by decide +kernel
theorem dX7_hot_47 : decode cX7_hot 47 = .ok (.ireturn, 1) := by decide +kernel
theorem dX7_splitKey_0 : decode cX7_splitKey 0 = .ok (.iconst 0, 1) := by decide +kernel
theorem dX7_splitKey_1 : decode cX7_splitKey 1 = .ok (.istore_n 2, 1) := by decide +kernel
theorem dX7_splitKey_2 : decode cX7_splitKey 2 = .ok (.iconst 0, 1) := by decide +kernel
theorem dX7_splitKey_3 : decode cX7_splitKey 3 = .ok (.istore_n 3, 1) := by decide +kernel
theorem dX7_splitKey_4 : decode cX7_splitKey 4 = .ok (.iload_n 3, 1) := by decide +kernel
theorem dX7_splitKey_5 : decode cX7_splitKey 5 = .ok (.bipush 100, 2) := by decide +kernel
theorem dX7_splitKey_7 : decode cX7_splitKey 7 = .ok (.if_icmp .ge 30, 3) := by decide +kernel
theorem dX7_splitKey_10 : decode cX7_splitKey 10 = .ok (.aload_n 0, 1) := by decide +kernel
theorem dX7_splitKey_11 : decode cX7_splitKey 11 = .ok (.getfield 21, 3) := by decide +kernel
theorem dX7_splitKey_14 : decode cX7_splitKey 14 = .ok (.iload_n 3, 1) := by decide +kernel
theorem dX7_splitKey_15 : decode cX7_splitKey 15 = .ok (.invokevirtual 153, 3) := by decide +kernel
theorem dX7_splitKey_18 : decode cX7_splitKey 18 = .ok (.ifCond .eq 13, 3) := by decide +kernel
theorem dX7_splitKey_21 : decode cX7_splitKey 21 = .ok (.iload_n 2, 1) := by decide +kernel
theorem dX7_splitKey_22 : decode cX7_splitKey 22 = .ok (.iload_n 1, 1) := by decide +kernel
theorem dX7_splitKey_23 : decode cX7_splitKey 23 = .ok (.if_icmp .ne 5, 3) := by decide +kernel
theorem dX7_splitKey_26 : decode cX7_splitKey 26 = .ok (.iload_n 3, 1) := by decide +kernel
theorem dX7_splitKey_27 : decode cX7_splitKey 27 = .ok (.ireturn, 1) := by decide +kernel
theorem dX7_splitKey_28 : decode cX7_splitKey 28 = .ok (.iinc 2 1, 3) := by decide +kernel
theorem dX7_splitKey_31 : decode cX7_splitKey 31 = .ok (.iinc 3 1, 3) := by decide +kernel
theorem dX7_splitKey_34 : decode cX7_splitKey 34 = .ok (.goto (-30), 3) := by decide +kernel
theorem dX7_splitKey_37 : decode cX7_splitKey 37 = .ok (.iconst (-1), 1) := by decide +kernel
theorem dX7_splitKey_38 : decode cX7_splitKey 38 = .ok (.ireturn, 1) := by decide +kernel
theorem dX7_load_0 : decode cX7_load 0 = .ok (.aload_n 0, 1) := by decide +kernel
theorem dX7_load_1 : decode cX7_load 1 = .ok (.iload_n 1, 1) := by decide +kernel
theorem dX7_load_2 : decode cX7_load 2 = .ok (.invokevirtual 190, 3) := by decide +kernel
theorem dX7_load_5 : decode cX7_load 5 = .ok (.ifCond .eq 12, 3) := by decide +kernel
theorem dX7_load_8 : decode cX7_load 8 = .ok (.aload_n 0, 1) := by decide +kernel
theorem dX7_load_9 : decode cX7_load 9 = .ok (.getfield 59, 3) := by decide +kernel
theorem dX7_load_12 : decode cX7_load 12 = .ok (.iload_n 1, 1) := by decide +kernel
theorem dX7_load_13 : decode cX7_load 13 = .ok (.iaload, 1) := by decide +kernel
theorem dX7_load_14 : decode cX7_load 14 = .ok (.goto 5, 3) := by decide +kernel
theorem dX7_load_17 : decode cX7_load 17 = .ok (.bipush (-101), 2) := by decide +kernel
theorem dX7_load_19 : decode cX7_load 19 = .ok (.ireturn, 1) := by decide +kernel
theorem dX7_small_0 : decode cX7_small 0 = .ok (.iload_n 1, 1) := by decide +kernel
theorem dX7_small_1 : decode cX7_small 1 = .ok (.invokestatic 99, 3) := by decide +kernel
theorem dX7_small_4 : decode cX7_small 4 = .ok (.ifCond .ne 6, 3) := by decide +kernel
theorem dX7_small_7 : decode cX7_small 7 = .ok (.bipush (-101), 2) := by decide +kernel
theorem dX7_small_9 : decode cX7_small 9 = .ok (.ireturn, 1) := by decide +kernel
theorem dX7_small_10 : decode cX7_small 10 = .ok (.iload_n 2, 1) := by decide +kernel
theorem dX7_small_11 : decode cX7_small 11 = .ok (.sipush (-1000), 3) := by decide +kernel
theorem dX7_small_14 : decode cX7_small 14 = .ok (.sipush 1000, 3) := by decide +kernel
theorem dX7_small_17 : decode cX7_small 17 = .ok (.invokestatic 66, 3) := by decide +kernel
theorem dX7_small_20 : decode cX7_small 20 = .ok (.ifCond .ne 6, 3) := by decide +kernel
theorem dX7_small_23 : decode cX7_small 23 = .ok (.bipush (-102), 2) := by decide +kernel
theorem dX7_small_25 : decode cX7_small 25 = .ok (.ireturn, 1) := by decide +kernel
theorem dX7_small_26 : decode cX7_small 26 = .ok (.aload_n 0, 1) := by decide +kernel
theorem dX7_small_27 : decode cX7_small 27 = .ok (.getfield 35, 3) := by decide +kernel
theorem dX7_small_30 : decode cX7_small 30 = .ok (.getfield 193, 3) := by decide +kernel
theorem dX7_small_33 : decode cX7_small 33 = .ok (.bipush 60, 2) := by decide +kernel
theorem dX7_small_35 : decode cX7_small 35 = .ok (.if_icmp .lt 6, 3) := by decide +kernel
theorem dX7_small_38 : decode cX7_small 38 = .ok (.bipush (-104), 2) := by decide +kernel
theorem dX7_small_40 : decode cX7_small 40 = .ok (.ireturn, 1) := by decide +kernel
theorem dX7_small_41 : decode cX7_small 41 = .ok (.aload_n 0, 1) := by decide +kernel
theorem dX7_small_42 : decode cX7_small 42 = .ok (.getfield 35, 3) := by decide +kernel
theorem dX7_small_45 : decode cX7_small 45 = .ok (.iload_n 1, 1) := by decide +kernel
theorem dX7_small_46 : decode cX7_small 46 = .ok (.iload_n 2, 1) := by decide +kernel
theorem dX7_small_47 : decode cX7_small 47 = .ok (.invokevirtual 194, 3) := by decide +kernel
theorem dX7_small_50 : decode cX7_small 50 = .ok (.aload_n 0, 1) := by decide +kernel
theorem dX7_small_51 : decode cX7_small 51 = .ok (.getfield 35, 3) := by decide +kernel
theorem dX7_small_54 : decode cX7_small 54 = .ok (.getfield 193, 3) := by decide +kernel
theorem dX7_small_57 : decode cX7_small 57 = .ok (.ireturn, 1) := by decide +kernel
theorem dX7_copies_0 : decode cX7_copies 0 = .ok (.aload_n 0, 1) := by decide +kernel
theorem dX7_copies_1 : decode cX7_copies 1 = .ok (.iload_n 1, 1) := by decide +kernel
theorem dX7_copies_2 : decode cX7_copies 2 = .ok (.invokevirtual 190, 3) := by decide +kernel
theorem dX7_copies_5 : decode cX7_copies 5 = .ok (.ifCond .ne 6, 3) := by decide +kernel
theorem dX7_copies_8 : decode cX7_copies 8 = .ok (.bipush (-101), 2) := by decide +kernel
theorem dX7_copies_10 : decode cX7_copies 10 = .ok (.ireturn, 1) := by decide +kernel
theorem dX7_copies_11 : decode cX7_copies 11 = .ok (.iconst 0, 1) := by decide +kernel
theorem dX7_copies_12 : decode cX7_copies 12 = .ok (.istore_n 2, 1) := by decide +kernel
theorem dX7_copies_13 : decode cX7_copies 13 = .ok (.iconst 0, 1) := by decide +kernel
theorem dX7_copies_14 : decode cX7_copies 14 = .ok (.istore_n 3, 1) := by decide +kernel
theorem dX7_copies_15 : decode cX7_copies 15 = .ok (.iload_n 3, 1) := by decide +kernel
theorem dX7_copies_16 : decode cX7_copies 16 = .ok (.aload_n 0, 1) := by decide +kernel
theorem dX7_copies_17 : decode cX7_copies 17 = .ok (.getfield 35, 3) := by decide +kernel
theorem dX7_copies_20 : decode cX7_copies 20 = .ok (.getfield 193, 3) := by decide +kernel
theorem dX7_copies_23 : decode cX7_copies 23 = .ok (.if_icmp .ge 29, 3) := by decide +kernel
theorem dX7_copies_26 : decode cX7_copies 26 = .ok (.aload_n 0, 1) := by decide +kernel
theorem dX7_copies_27 : decode cX7_copies 27 = .ok (.aload_n 0, 1) := by decide +kernel
theorem dX7_copies_28 : decode cX7_copies 28 = .ok (.getfield 35, 3) := by decide +kernel
theorem dX7_copies_31 : decode cX7_copies 31 = .ok (.getfield 196, 3) := by decide +kernel
theorem dX7_copies_34 : decode cX7_copies 34 = .ok (.iload_n 3, 1) := by decide +kernel
theorem dX7_copies_35 : decode cX7_copies 35 = .ok (.iaload, 1) := by decide +kernel
theorem dX7_copies_36 : decode cX7_copies 36 = .ok (.iload_n 1, 1) := by decide +kernel
theorem dX7_copies_37 : decode cX7_copies 37 = .ok (.invokevirtual 199, 3) := by decide +kernel
theorem dX7_copies_40 : decode cX7_copies 40 = .ok (.ifCond .eq 6, 3) := by decide +kernel
theorem dX7_copies_43 : decode cX7_copies 43 = .ok (.iinc 2 1, 3) := by decide +kernel
theorem dX7_copies_46 : decode cX7_copies 46 = .ok (.iinc 3 1, 3) := by decide +kernel
theorem dX7_copies_49 : decode cX7_copies 49 = .ok (.goto (-34), 3) := by decide +kernel
theorem dX7_copies_52 : decode cX7_copies 52 = .ok (.iload_n 2, 1) := by decide +kernel
theorem dX7_copies_53 : decode cX7_copies 53 = .ok (.ireturn, 1) := by decide +kernel
theorem dX7_out_0 : decode cX7_out 0 = .ok (.aload_n 0, 1) := by decide +kernel
theorem dX7_out_1 : decode cX7_out 1 = .ok (.getfield 35, 3) := by decide +kernel
theorem dX7_out_4 : decode cX7_out 4 = .ok (.getfield 202, 3) := by decide +kernel
theorem dX7_out_7 : decode cX7_out 7 = .ok (.lreturn, 1) := by decide +kernel
theorem dX7_timer_0 : decode cX7_timer 0 = .ok (.iload_n 1, 1) := by decide +kernel
theorem dX7_timer_1 : decode cX7_timer 1 = .ok (.invokestatic 99, 3) := by decide +kernel
theorem dX7_timer_4 : decode cX7_timer 4 = .ok (.ifCond .ne 6, 3) := by decide +kernel
theorem dX7_timer_7 : decode cX7_timer 7 = .ok (.bipush (-101), 2) := by decide +kernel
theorem dX7_timer_9 : decode cX7_timer 9 = .ok (.ireturn, 1) := by decide +kernel
theorem dX7_timer_10 : decode cX7_timer 10 = .ok (.iload_n 2, 1) := by decide +kernel
theorem dX7_timer_11 : decode cX7_timer 11 = .ok (.aload_n 0, 1) := by decide +kernel
theorem dX7_timer_12 : decode cX7_timer 12 = .ok (.getfield 42, 3) := by decide +kernel
theorem dX7_timer_15 : decode cX7_timer 15 = .ok (.getfield 206, 3) := by decide +kernel
theorem dX7_timer_18 : decode cX7_timer 18 = .ok (.if_icmp .le 9, 3) := by decide +kernel
theorem dX7_timer_21 : decode cX7_timer 21 = .ok (.iload_n 2, 1) := by decide +kernel
theorem dX7_timer_22 : decode cX7_timer 22 = .ok (.ldc 209, 2) := by decide +kernel
theorem dX7_timer_24 : decode cX7_timer 24 = .ok (.if_icmp .le 6, 3) := by decide +kernel
theorem dX7_timer_27 : decode cX7_timer 27 = .ok (.bipush (-102), 2) := by decide +kernel
theorem dX7_timer_29 : decode cX7_timer 29 = .ok (.ireturn, 1) := by decide +kernel
theorem dX7_timer_30 : decode cX7_timer 30 = .ok (.aload_n 0, 1) := by decide +kernel
theorem dX7_timer_31 : decode cX7_timer 31 = .ok (.getfield 42, 3) := by decide +kernel
theorem dX7_timer_34 : decode cX7_timer 34 = .ok (.getfield 210, 3) := by decide +kernel
theorem dX7_timer_37 : decode cX7_timer 37 = .ok (.bipush 40, 2) := by decide +kernel
theorem dX7_timer_39 : decode cX7_timer 39 = .ok (.if_icmp .lt 6, 3) := by decide +kernel
theorem dX7_timer_42 : decode cX7_timer 42 = .ok (.bipush (-104), 2) := by decide +kernel
theorem dX7_timer_44 : decode cX7_timer 44 = .ok (.ireturn, 1) := by decide +kernel
theorem dX7_timer_45 : decode cX7_timer 45 = .ok (.aload_n 0, 1) := by decide +kernel
theorem dX7_timer_46 : decode cX7_timer 46 = .ok (.getfield 42, 3) := by decide +kernel
theorem dX7_timer_49 : decode cX7_timer 49 = .ok (.iload_n 1, 1) := by decide +kernel
theorem dX7_timer_50 : decode cX7_timer 50 = .ok (.iload_n 2, 1) := by decide +kernel
theorem dX7_timer_51 : decode cX7_timer 51 = .ok (.invokevirtual 211, 3) := by decide +kernel
theorem dX7_timer_54 : decode cX7_timer 54 = .ok (.aload_n 0, 1) := by decide +kernel
theorem dX7_timer_55 : decode cX7_timer 55 = .ok (.getfield 42, 3) := by decide +kernel
theorem dX7_timer_58 : decode cX7_timer 58 = .ok (.getfield 210, 3) := by decide +kernel
theorem dX7_timer_61 : decode cX7_timer 61 = .ok (.ireturn, 1) := by decide +kernel
theorem dX7_tick_0 : decode cX7_tick 0 = .ok (.iload_n 1, 1) := by decide +kernel
theorem dX7_tick_1 : decode cX7_tick 1 = .ok (.aload_n 0, 1) := by decide +kernel
theorem dX7_tick_2 : decode cX7_tick 2 = .ok (.getfield 42, 3) := by decide +kernel
theorem dX7_tick_5 : decode cX7_tick 5 = .ok (.getfield 206, 3) := by decide +kernel
theorem dX7_tick_8 : decode cX7_tick 8 = .ok (.ldc 209, 2) := by decide +kernel
theorem dX7_tick_10 : decode cX7_tick 10 = .ok (.invokestatic 66, 3) := by decide +kernel
theorem dX7_tick_13 : decode cX7_tick 13 = .ok (.ifCond .ne 6, 3) := by decide +kernel
theorem dX7_tick_16 : decode cX7_tick 16 = .ok (.bipush (-102), 2) := by decide +kernel
theorem dX7_tick_18 : decode cX7_tick 18 = .ok (.ireturn, 1) := by decide +kernel
theorem dX7_tick_19 : decode cX7_tick 19 = .ok (.aload_n 0, 1) := by decide +kernel
theorem dX7_tick_20 : decode cX7_tick 20 = .ok (.getfield 42, 3) := by decide +kernel
theorem dX7_tick_23 : decode cX7_tick 23 = .ok (.iload_n 1, 1) := by decide +kernel
theorem dX7_tick_24 : decode cX7_tick 24 = .ok (.invokevirtual 212, 3) := by decide +kernel
theorem dX7_tick_27 : decode cX7_tick 27 = .ok (.istore_n 2, 1) := by decide +kernel
theorem dX7_tick_28 : decode cX7_tick 28 = .ok (.iconst 0, 1) := by decide +kernel
theorem dX7_tick_29 : decode cX7_tick 29 = .ok (.istore_n 3, 1) := by decide +kernel
theorem dX7_tick_30 : decode cX7_tick 30 = .ok (.iload_n 3, 1) := by decide +kernel
theorem dX7_tick_31 : decode cX7_tick 31 = .ok (.iload_n 2, 1) := by decide +kernel
theorem dX7_tick_32 : decode cX7_tick 32 = .ok (.if_icmp .ge 31, 3) := by decide +kernel
theorem dX7_tick_35 : decode cX7_tick 35 = .ok (.aload_n 0, 1) := by decide +kernel
theorem dX7_tick_36 : decode cX7_tick 36 = .ok (.aload_n 0, 1) := by decide +kernel
theorem dX7_tick_37 : decode cX7_tick 37 = .ok (.getfield 42, 3) := by decide +kernel
theorem dX7_tick_40 : decode cX7_tick 40 = .ok (.getfield 215, 3) := by decide +kernel
theorem dX7_tick_43 : decode cX7_tick 43 = .ok (.iload_n 3, 1) := by decide +kernel
theorem dX7_tick_44 : decode cX7_tick 44 = .ok (.iaload, 1) := by decide +kernel
theorem dX7_tick_45 : decode cX7_tick 45 = .ok (.aload_n 0, 1) := by decide +kernel
theorem dX7_tick_46 : decode cX7_tick 46 = .ok (.getfield 42, 3) := by decide +kernel
theorem dX7_tick_49 : decode cX7_tick 49 = .ok (.getfield 216, 3) := by decide +kernel
theorem dX7_tick_52 : decode cX7_tick 52 = .ok (.iload_n 3, 1) := by decide +kernel
theorem dX7_tick_53 : decode cX7_tick 53 = .ok (.iaload, 1) := by decide +kernel
theorem dX7_tick_54 : decode cX7_tick 54 = .ok (.invokevirtual 219, 3) := by decide +kernel
theorem dX7_tick_57 : decode cX7_tick 57 = .ok (.iinc 3 1, 3) := by decide +kernel
theorem dX7_tick_60 : decode cX7_tick 60 = .ok (.goto (-30), 3) := by decide +kernel
theorem dX7_tick_63 : decode cX7_tick 63 = .ok (.aload_n 0, 1) := by decide +kernel
theorem dX7_tick_64 : decode cX7_tick 64 = .ok (.getfield 42, 3) := by decide +kernel
theorem dX7_tick_67 : decode cX7_tick 67 = .ok (.iload_n 2, 1) := by decide +kernel
theorem dX7_tick_68 : decode cX7_tick 68 = .ok (.invokevirtual 222, 3) := by decide +kernel
theorem dX7_tick_71 : decode cX7_tick 71 = .ok (.aload_n 0, 1) := by decide +kernel
theorem dX7_tick_72 : decode cX7_tick 72 = .ok (.getfield 42, 3) := by decide +kernel
theorem dX7_tick_75 : decode cX7_tick 75 = .ok (.iload_n 1, 1) := by decide +kernel
theorem dX7_tick_76 : decode cX7_tick 76 = .ok (.putfield 206, 3) := by decide +kernel
theorem dX7_tick_79 : decode cX7_tick 79 = .ok (.iload_n 2, 1) := by decide +kernel
theorem dX7_tick_80 : decode cX7_tick 80 = .ok (.ireturn, 1) := by decide +kernel
theorem dX7_log_0 : decode cX7_log 0 = .ok (.iload_n 1, 1) := by decide +kernel
theorem dX7_log_1 : decode cX7_log 1 = .ok (.iconst 0, 1) := by decide +kernel
theorem dX7_log_2 : decode cX7_log 2 = .ok (.aload_n 0, 1) := by decide +kernel
theorem dX7_log_3 : decode cX7_log 3 = .ok (.getfield 49, 3) := by decide +kernel
theorem dX7_log_6 : decode cX7_log 6 = .ok (.getfield 225, 3) := by decide +kernel
theorem dX7_log_9 : decode cX7_log 9 = .ok (.iconst 1, 1) := by decide +kernel
theorem dX7_log_10 : decode cX7_log 10 = .ok (.isub, 1) := by decide +kernel
theorem dX7_log_11 : decode cX7_log 11 = .ok (.invokestatic 66, 3) := by decide +kernel
theorem dX7_log_14 : decode cX7_log 14 = .ok (.ifCond .eq 13, 3) := by decide +kernel
theorem dX7_log_17 : decode cX7_log 17 = .ok (.iload_n 2, 1) := by decide +kernel
theorem dX7_log_18 : decode cX7_log 18 = .ok (.iconst 0, 1) := by decide +kernel
theorem dX7_log_19 : decode cX7_log 19 = .ok (.bipush 7, 2) := by decide +kernel
theorem dX7_log_21 : decode cX7_log 21 = .ok (.invokestatic 66, 3) := by decide +kernel
theorem dX7_log_24 : decode cX7_log 24 = .ok (.ifCond .ne 7, 3) := by decide +kernel
theorem dX7_log_27 : decode cX7_log 27 = .ok (.ldc2_w 136, 3) := by decide +kernel
theorem dX7_log_30 : decode cX7_log 30 = .ok (.lreturn, 1) := by decide +kernel
theorem dX7_log_31 : decode cX7_log 31 = .ok (.aload_n 0, 1) := by decide +kernel
theorem dX7_log_32 : decode cX7_log 32 = .ok (.getfield 49, 3) := by decide +kernel
theorem dX7_log_35 : decode cX7_log 35 = .ok (.iload_n 1, 1) := by decide +kernel
theorem dX7_log_36 : decode cX7_log 36 = .ok (.iload_n 2, 1) := by decide +kernel
theorem dX7_log_37 : decode cX7_log 37 = .ok (.invokevirtual 228, 3) := by decide +kernel
theorem dX7_log_40 : decode cX7_log 40 = .ok (.lreturn, 1) := by decide +kernel
theorem dX7_mark_0 : decode cX7_mark 0 = .ok (.aload_n 0, 1) := by decide +kernel
theorem dX7_mark_1 : decode cX7_mark 1 = .ok (.getfield 81, 3) := by decide +kernel
theorem dX7_mark_4 : decode cX7_mark 4 = .ok (.iconst 4, 1) := by decide +kernel
theorem dX7_mark_5 : decode cX7_mark 5 = .ok (.if_icmp .lt 6, 3) := by decide +kernel
theorem dX7_mark_8 : decode cX7_mark 8 = .ok (.bipush (-104), 2) := by decide +kernel
theorem dX7_mark_10 : decode cX7_mark 10 = .ok (.ireturn, 1) := by decide +kernel
theorem dX7_mark_11 : decode cX7_mark 11 = .ok (.aload_n 0, 1) := by decide +kernel
theorem dX7_mark_12 : decode cX7_mark 12 = .ok (.getfield 81, 3) := by decide +kernel
theorem dX7_mark_15 : decode cX7_mark 15 = .ok (.istore_n 1, 1) := by decide +kernel
theorem dX7_mark_16 : decode cX7_mark 16 = .ok (.aload_n 0, 1) := by decide +kernel
theorem dX7_mark_17 : decode cX7_mark 17 = .ok (.getfield 55, 3) := by decide +kernel
theorem dX7_mark_20 : decode cX7_mark 20 = .ok (.iload_n 1, 1) := by decide +kernel
theorem dX7_mark_21 : decode cX7_mark 21 = .ok (.aaload, 1) := by decide +kernel
theorem dX7_mark_22 : decode cX7_mark 22 = .ok (.ifnonnull 13, 3) := by decide +kernel
theorem dX7_mark_25 : decode cX7_mark 25 = .ok (.new 53, 3) := by decide +kernel
theorem dX7_mark_28 : decode cX7_mark 28 = .ok (.dup, 1) := by decide +kernel
theorem dX7_mark_29 : decode cX7_mark 29 = .ok (.invokespecial 231, 3) := by decide +kernel
theorem dX7_mark_32 : decode cX7_mark 32 = .ok (.goto 9, 3) := by decide +kernel
theorem dX7_mark_35 : decode cX7_mark 35 = .ok (.aload_n 0, 1) := by decide +kernel
theorem dX7_mark_36 : decode cX7_mark 36 = .ok (.getfield 55, 3) := by decide +kernel
theorem dX7_mark_39 : decode cX7_mark 39 = .ok (.iload_n 1, 1) := by decide +kernel
theorem dX7_mark_40 : decode cX7_mark 40 = .ok (.aaload, 1) := by decide +kernel
theorem dX7_mark_41 : decode cX7_mark 41 = .ok (.astore_n 2, 1) := by decide +kernel
theorem dX7_mark_42 : decode cX7_mark 42 = .ok (.aload_n 0, 1) := by decide +kernel
theorem dX7_mark_43 : decode cX7_mark 43 = .ok (.getfield 55, 3) := by decide +kernel
theorem dX7_mark_46 : decode cX7_mark 46 = .ok (.iload_n 1, 1) := by decide +kernel
theorem dX7_mark_47 : decode cX7_mark 47 = .ok (.aload_n 2, 1) := by decide +kernel
theorem dX7_mark_48 : decode cX7_mark 48 = .ok (.aastore, 1) := by decide +kernel
theorem dX7_mark_49 : decode cX7_mark 49 = .ok (.aload_n 2, 1) := by decide +kernel
theorem dX7_mark_50 : decode cX7_mark 50 = .ok (.aload_n 0, 1) := by decide +kernel
theorem dX7_mark_51 : decode cX7_mark 51 = .ok (.getfield 70, 3) := by decide +kernel
theorem dX7_mark_54 : decode cX7_mark 54 = .ok (.putfield 232, 3) := by decide +kernel
theorem dX7_mark_57 : decode cX7_mark 57 = .ok (.aload_n 2, 1) := by decide +kernel
theorem dX7_mark_58 : decode cX7_mark 58 = .ok (.getfield 233, 3) := by decide +kernel
theorem dX7_mark_61 : decode cX7_mark 61 = .ok (.aload_n 0, 1) := by decide +kernel
theorem dX7_mark_62 : decode cX7_mark 62 = .ok (.getfield 35, 3) := by decide +kernel
theorem dX7_mark_65 : decode cX7_mark 65 = .ok (.invokevirtual 234, 3) := by decide +kernel
theorem dX7_mark_68 : decode cX7_mark 68 = .ok (.aload_n 2, 1) := by decide +kernel
theorem dX7_mark_69 : decode cX7_mark 69 = .ok (.getfield 238, 3) := by decide +kernel
theorem dX7_mark_72 : decode cX7_mark 72 = .ok (.aload_n 0, 1) := by decide +kernel
theorem dX7_mark_73 : decode cX7_mark 73 = .ok (.getfield 42, 3) := by decide +kernel
theorem dX7_mark_76 : decode cX7_mark 76 = .ok (.invokevirtual 239, 3) := by decide +kernel
theorem dX7_mark_79 : decode cX7_mark 79 = .ok (.aload_n 0, 1) := by decide +kernel
theorem dX7_mark_80 : decode cX7_mark 80 = .ok (.getfield 21, 3) := by decide +kernel
theorem dX7_mark_83 : decode cX7_mark 83 = .ok (.aload_n 2, 1) := by decide +kernel
theorem dX7_mark_84 : decode cX7_mark 84 = .ok (.invokevirtual 242, 3) := by decide +kernel
theorem dX7_mark_87 : decode cX7_mark 87 = .ok (.aload_n 0, 1) := by decide +kernel
theorem dX7_mark_88 : decode cX7_mark 88 = .ok (.dup, 1) := by decide +kernel
theorem dX7_mark_89 : decode cX7_mark 89 = .ok (.getfield 81, 3) := by decide +kernel
theorem dX7_mark_92 : decode cX7_mark 92 = .ok (.iconst 1, 1) := by decide +kernel
theorem dX7_mark_93 : decode cX7_mark 93 = .ok (.iadd, 1) := by decide +kernel
theorem dX7_mark_94 : decode cX7_mark 94 = .ok (.putfield 81, 3) := by decide +kernel
theorem dX7_mark_97 : decode cX7_mark 97 = .ok (.iload_n 1, 1) := by decide +kernel
theorem dX7_mark_98 : decode cX7_mark 98 = .ok (.ireturn, 1) := by decide +kernel
theorem dX7_restore_0 : decode cX7_restore 0 = .ok (.iload_n 1, 1) := by decide +kernel
theorem dX7_restore_1 : decode cX7_restore 1 = .ok (.iconst 0, 1) := by decide +kernel
theorem dX7_restore_2 : decode cX7_restore 2 = .ok (.aload_n 0, 1) := by decide +kernel
theorem dX7_restore_3 : decode cX7_restore 3 = .ok (.getfield 81, 3) := by decide +kernel
theorem dX7_restore_6 : decode cX7_restore 6 = .ok (.iconst 1, 1) := by decide +kernel
theorem dX7_restore_7 : decode cX7_restore 7 = .ok (.isub, 1) := by decide +kernel
theorem dX7_restore_8 : decode cX7_restore 8 = .ok (.invokestatic 66, 3) := by decide +kernel
theorem dX7_restore_11 : decode cX7_restore 11 = .ok (.ifCond .ne 6, 3) := by decide +kernel
theorem dX7_restore_14 : decode cX7_restore 14 = .ok (.bipush (-101), 2) := by decide +kernel
theorem dX7_restore_16 : decode cX7_restore 16 = .ok (.ireturn, 1) := by decide +kernel
theorem dX7_restore_17 : decode cX7_restore 17 = .ok (.aload_n 0, 1) := by decide +kernel
theorem dX7_restore_18 : decode cX7_restore 18 = .ok (.getfield 55, 3) := by decide +kernel
theorem dX7_restore_21 : decode cX7_restore 21 = .ok (.iload_n 1, 1) := by decide +kernel
theorem dX7_restore_22 : decode cX7_restore 22 = .ok (.aaload, 1) := by decide +kernel
theorem dX7_restore_23 : decode cX7_restore 23 = .ok (.astore_n 2, 1) := by decide +kernel
theorem dX7_restore_24 : decode cX7_restore 24 = .ok (.aload_n 2, 1) := by decide +kernel
theorem dX7_restore_25 : decode cX7_restore 25 = .ok (.ifnonnull 6, 3) := by decide +kernel
theorem dX7_restore_28 : decode cX7_restore 28 = .ok (.bipush (-101), 2) := by decide +kernel
theorem dX7_restore_30 : decode cX7_restore 30 = .ok (.ireturn, 1) := by decide +kernel
theorem dX7_restore_31 : decode cX7_restore 31 = .ok (.aload_n 0, 1) := by decide +kernel
theorem dX7_restore_32 : decode cX7_restore 32 = .ok (.aload_n 2, 1) := by decide +kernel
theorem dX7_restore_33 : decode cX7_restore 33 = .ok (.getfield 232, 3) := by decide +kernel
theorem dX7_restore_36 : decode cX7_restore 36 = .ok (.putfield 70, 3) := by decide +kernel
theorem dX7_restore_39 : decode cX7_restore 39 = .ok (.aload_n 0, 1) := by decide +kernel
theorem dX7_restore_40 : decode cX7_restore 40 = .ok (.getfield 35, 3) := by decide +kernel
theorem dX7_restore_43 : decode cX7_restore 43 = .ok (.aload_n 2, 1) := by decide +kernel
theorem dX7_restore_44 : decode cX7_restore 44 = .ok (.getfield 233, 3) := by decide +kernel
theorem dX7_restore_47 : decode cX7_restore 47 = .ok (.invokevirtual 234, 3) := by decide +kernel
theorem dX7_restore_50 : decode cX7_restore 50 = .ok (.aload_n 0, 1) := by decide +kernel
theorem dX7_restore_51 : decode cX7_restore 51 = .ok (.getfield 42, 3) := by decide +kernel
theorem dX7_restore_54 : decode cX7_restore 54 = .ok (.aload_n 2, 1) := by decide +kernel
theorem dX7_restore_55 : decode cX7_restore 55 = .ok (.getfield 238, 3) := by decide +kernel
theorem dX7_restore_58 : decode cX7_restore 58 = .ok (.invokevirtual 239, 3) := by decide +kernel
theorem dX7_restore_61 : decode cX7_restore 61 = .ok (.aload_n 0, 1) := by decide +kernel
theorem dX7_restore_62 : decode cX7_restore 62 = .ok (.getfield 21, 3) := by decide +kernel
theorem dX7_restore_65 : decode cX7_restore 65 = .ok (.aload_n 2, 1) := by decide +kernel
theorem dX7_restore_66 : decode cX7_restore 66 = .ok (.invokevirtual 246, 3) := by decide +kernel
theorem dX7_restore_69 : decode cX7_restore 69 = .ok (.aload_n 0, 1) := by decide +kernel
theorem dX7_restore_70 : decode cX7_restore 70 = .ok (.invokevirtual 249, 3) := by decide +kernel
theorem dX7_restore_73 : decode cX7_restore 73 = .ok (.aload_n 0, 1) := by decide +kernel
theorem dX7_restore_74 : decode cX7_restore 74 = .ok (.getfield 70, 3) := by decide +kernel
theorem dX7_restore_77 : decode cX7_restore 77 = .ok (.ireturn, 1) := by decide +kernel
theorem dX7_told_0 : decode cX7_told 0 = .ok (.iload_n 1, 1) := by decide +kernel
theorem dX7_told_1 : decode cX7_told 1 = .ok (.tableswitch 165 0 13 #[71, 76, 81, 86, 91, 96, 104, 112, 120, 128, 136, 144, 149, 157], 71) := by decide +kernel
theorem dX7_told_72 : decode cX7_told 72 = .ok (.aload_n 0, 1) := by decide +kernel
theorem dX7_told_73 : decode cX7_told 73 = .ok (.getfield 70, 3) := by decide +kernel
theorem dX7_told_76 : decode cX7_told 76 = .ok (.ireturn, 1) := by decide +kernel
theorem dX7_told_77 : decode cX7_told 77 = .ok (.aload_n 0, 1) := by decide +kernel
theorem dX7_told_78 : decode cX7_told 78 = .ok (.getfield 122, 3) := by decide +kernel
theorem dX7_told_81 : decode cX7_told 81 = .ok (.ireturn, 1) := by decide +kernel
theorem dX7_told_82 : decode cX7_told 82 = .ok (.aload_n 0, 1) := by decide +kernel
theorem dX7_told_83 : decode cX7_told 83 = .ok (.getfield 252, 3) := by decide +kernel
theorem dX7_told_86 : decode cX7_told 86 = .ok (.ireturn, 1) := by decide +kernel
theorem dX7_told_87 : decode cX7_told 87 = .ok (.aload_n 0, 1) := by decide +kernel
theorem dX7_told_88 : decode cX7_told 88 = .ok (.getfield 255, 3) := by decide +kernel
theorem dX7_told_91 : decode cX7_told 91 = .ok (.ireturn, 1) := by decide +kernel
theorem dX7_told_92 : decode cX7_told 92 = .ok (.aload_n 0, 1) := by decide +kernel
theorem dX7_told_93 : decode cX7_told 93 = .ok (.getfield 258, 3) := by decide +kernel
theorem dX7_told_96 : decode cX7_told 96 = .ok (.ireturn, 1) := by decide +kernel
theorem dX7_told_97 : decode cX7_told 97 = .ok (.aload_n 0, 1) := by decide +kernel
theorem dX7_told_98 : decode cX7_told 98 = .ok (.getfield 35, 3) := by decide +kernel
theorem dX7_told_101 : decode cX7_told 101 = .ok (.getfield 261, 3) := by decide +kernel
theorem dX7_told_104 : decode cX7_told 104 = .ok (.ireturn, 1) := by decide +kernel
theorem dX7_told_105 : decode cX7_told 105 = .ok (.aload_n 0, 1) := by decide +kernel
theorem dX7_told_106 : decode cX7_told 106 = .ok (.getfield 21, 3) := by decide +kernel
theorem dX7_told_109 : decode cX7_told 109 = .ok (.getfield 264, 3) := by decide +kernel
theorem dX7_told_112 : decode cX7_told 112 = .ok (.ireturn, 1) := by decide +kernel
theorem dX7_told_113 : decode cX7_told 113 = .ok (.aload_n 0, 1) := by decide +kernel
theorem dX7_told_114 : decode cX7_told 114 = .ok (.getfield 42, 3) := by decide +kernel
theorem dX7_told_117 : decode cX7_told 117 = .ok (.getfield 210, 3) := by decide +kernel
theorem dX7_told_120 : decode cX7_told 120 = .ok (.ireturn, 1) := by decide +kernel
theorem dX7_told_121 : decode cX7_told 121 = .ok (.aload_n 0, 1) := by decide +kernel
theorem dX7_told_122 : decode cX7_told 122 = .ok (.getfield 42, 3) := by decide +kernel
theorem dX7_told_125 : decode cX7_told 125 = .ok (.getfield 206, 3) := by decide +kernel
theorem dX7_told_128 : decode cX7_told 128 = .ok (.ireturn, 1) := by decide +kernel
theorem dX7_told_129 : decode cX7_told 129 = .ok (.aload_n 0, 1) := by decide +kernel
theorem dX7_told_130 : decode cX7_told 130 = .ok (.getfield 49, 3) := by decide +kernel
theorem dX7_told_133 : decode cX7_told 133 = .ok (.getfield 225, 3) := by decide +kernel
theorem dX7_told_136 : decode cX7_told 136 = .ok (.ireturn, 1) := by decide +kernel
theorem dX7_told_137 : decode cX7_told 137 = .ok (.aload_n 0, 1) := by decide +kernel
theorem dX7_told_138 : decode cX7_told 138 = .ok (.getfield 12, 3) := by decide +kernel
theorem dX7_told_141 : decode cX7_told 141 = .ok (.getfield 88, 3) := by decide +kernel
theorem dX7_told_144 : decode cX7_told 144 = .ok (.ireturn, 1) := by decide +kernel
theorem dX7_told_145 : decode cX7_told 145 = .ok (.aload_n 0, 1) := by decide +kernel
theorem dX7_told_146 : decode cX7_told 146 = .ok (.getfield 81, 3) := by decide +kernel
theorem dX7_told_149 : decode cX7_told 149 = .ok (.ireturn, 1) := by decide +kernel
theorem dX7_told_150 : decode cX7_told 150 = .ok (.aload_n 0, 1) := by decide +kernel
theorem dX7_told_151 : decode cX7_told 151 = .ok (.getfield 21, 3) := by decide +kernel
theorem dX7_told_154 : decode cX7_told 154 = .ok (.invokevirtual 84, 3) := by decide +kernel
theorem dX7_told_157 : decode cX7_told 157 = .ok (.ireturn, 1) := by decide +kernel
theorem dX7_told_158 : decode cX7_told 158 = .ok (.aload_n 0, 1) := by decide +kernel
theorem dX7_told_159 : decode cX7_told 159 = .ok (.getfield 35, 3) := by decide +kernel
theorem dX7_told_162 : decode cX7_told 162 = .ok (.getfield 193, 3) := by decide +kernel
theorem dX7_told_165 : decode cX7_told 165 = .ok (.ireturn, 1) := by decide +kernel
theorem dX7_told_166 : decode cX7_told 166 = .ok (.bipush (-102), 2) := by decide +kernel
theorem dX7_told_168 : decode cX7_told 168 = .ok (.ireturn, 1) := by decide +kernel
theorem dX7_clear_0 : decode cX7_clear 0 = .ok (.aload_n 0, 1) := by decide +kernel
theorem dX7_clear_1 : decode cX7_clear 1 = .ok (.getfield 70, 3) := by decide +kernel
theorem dX7_clear_4 : decode cX7_clear 4 = .ok (.istore_n 1, 1) := by decide +kernel
theorem dX7_clear_5 : decode cX7_clear 5 = .ok (.aload_n 0, 1) := by decide +kernel
theorem dX7_clear_6 : decode cX7_clear 6 = .ok (.invokevirtual 63, 3) := by decide +kernel
theorem dX7_clear_9 : decode cX7_clear 9 = .ok (.iload_n 1, 1) := by decide +kernel
theorem dX7_clear_10 : decode cX7_clear 10 = .ok (.ireturn, 1) := by decide +kernel
theorem dX7_begin_0 : decode cX7_begin 0 = .ok (.aload_n 0, 1) := by decide +kernel
theorem dX7_begin_1 : decode cX7_begin 1 = .ok (.iconst 4, 1) := by decide +kernel
theorem dX7_begin_2 : decode cX7_begin 2 = .ok (.bipush 32, 2) := by decide +kernel
theorem dX7_begin_4 : decode cX7_begin 4 = .ok (.bipush 8, 2) := by decide +kernel
theorem dX7_begin_6 : decode cX7_begin 6 = .ok (.iconst 2, 1) := by decide +kernel
theorem dX7_begin_7 : decode cX7_begin 7 = .ok (.iconst 4, 1) := by decide +kernel
theorem dX7_begin_8 : decode cX7_begin 8 = .ok (.invokevirtual 74, 3) := by decide +kernel
theorem dX7_begin_11 : decode cX7_begin 11 = .ok (.aload_n 0, 1) := by decide +kernel
theorem dX7_begin_12 : decode cX7_begin 12 = .ok (.getfield 12, 3) := by decide +kernel
theorem dX7_begin_15 : decode cX7_begin 15 = .ok (.iconst 0, 1) := by decide +kernel
theorem dX7_begin_16 : decode cX7_begin 16 = .ok (.putfield 88, 3) := by decide +kernel
theorem dX7_begin_19 : decode cX7_begin 19 = .ok (.aload_n 0, 1) := by decide +kernel
theorem dX7_begin_20 : decode cX7_begin 20 = .ok (.getfield 21, 3) := by decide +kernel
theorem dX7_begin_23 : decode cX7_begin 23 = .ok (.invokevirtual 267, 3) := by decide +kernel
theorem dX7_begin_26 : decode cX7_begin 26 = .ok (.aload_n 0, 1) := by decide +kernel
theorem dX7_begin_27 : decode cX7_begin 27 = .ok (.getfield 35, 3) := by decide +kernel
theorem dX7_begin_30 : decode cX7_begin 30 = .ok (.invokevirtual 270, 3) := by decide +kernel
theorem dX7_begin_33 : decode cX7_begin 33 = .ok (.aload_n 0, 1) := by decide +kernel
theorem dX7_begin_34 : decode cX7_begin 34 = .ok (.getfield 42, 3) := by decide +kernel
theorem dX7_begin_37 : decode cX7_begin 37 = .ok (.invokevirtual 271, 3) := by decide +kernel
theorem dX7_begin_40 : decode cX7_begin 40 = .ok (.aload_n 0, 1) := by decide +kernel
theorem dX7_begin_41 : decode cX7_begin 41 = .ok (.iconst 0, 1) := by decide +kernel
theorem dX7_begin_42 : decode cX7_begin 42 = .ok (.putfield 81, 3) := by decide +kernel
theorem dX7_begin_45 : decode cX7_begin 45 = .ok (.aload_n 0, 1) := by decide +kernel
theorem dX7_begin_46 : decode cX7_begin 46 = .ok (.iconst 0, 1) := by decide +kernel
theorem dX7_begin_47 : decode cX7_begin 47 = .ok (.putfield 70, 3) := by decide +kernel
theorem dX7_begin_50 : decode cX7_begin 50 = .ok (.aload_n 0, 1) := by decide +kernel
theorem dX7_begin_51 : decode cX7_begin 51 = .ok (.iconst 0, 1) := by decide +kernel
theorem dX7_begin_52 : decode cX7_begin 52 = .ok (.putfield 252, 3) := by decide +kernel
theorem dX7_begin_55 : decode cX7_begin 55 = .ok (.aload_n 0, 1) := by decide +kernel
theorem dX7_begin_56 : decode cX7_begin 56 = .ok (.iconst 0, 1) := by decide +kernel
theorem dX7_begin_57 : decode cX7_begin 57 = .ok (.putfield 255, 3) := by decide +kernel
theorem dX7_begin_60 : decode cX7_begin 60 = .ok (.aload_n 0, 1) := by decide +kernel
theorem dX7_begin_61 : decode cX7_begin 61 = .ok (.iconst 0, 1) := by decide +kernel
theorem dX7_begin_62 : decode cX7_begin 62 = .ok (.putfield 258, 3) := by decide +kernel
theorem dX7_begin_65 : decode cX7_begin 65 = .ok (.aload_n 0, 1) := by decide +kernel
theorem dX7_begin_66 : decode cX7_begin 66 = .ok (.invokevirtual 249, 3) := by decide +kernel
theorem dX7_begin_69 : decode cX7_begin 69 = .ok (.return_, 1) := by decide +kernel
theorem dX7_beginWork_0 : decode cX7_beginWork 0 = .ok (.aload_n 0, 1) := by decide +kernel
theorem dX7_beginWork_1 : decode cX7_beginWork 1 = .ok (.getfield 28, 3) := by decide +kernel
theorem dX7_beginWork_4 : decode cX7_beginWork 4 = .ok (.iconst 0, 1) := by decide +kernel
theorem dX7_beginWork_5 : decode cX7_beginWork 5 = .ok (.putfield 272, 3) := by decide +kernel
theorem dX7_beginWork_8 : decode cX7_beginWork 8 = .ok (.aload_n 0, 1) := by decide +kernel
theorem dX7_beginWork_9 : decode cX7_beginWork 9 = .ok (.getfield 49, 3) := by decide +kernel
theorem dX7_beginWork_12 : decode cX7_beginWork 12 = .ok (.iconst 0, 1) := by decide +kernel
theorem dX7_beginWork_13 : decode cX7_beginWork 13 = .ok (.putfield 225, 3) := by decide +kernel
theorem dX7_beginWork_16 : decode cX7_beginWork 16 = .ok (.aload_n 0, 1) := by decide +kernel
theorem dX7_beginWork_17 : decode cX7_beginWork 17 = .ok (.iconst 0, 1) := by decide +kernel
theorem dX7_beginWork_18 : decode cX7_beginWork 18 = .ok (.putfield 122, 3) := by decide +kernel
theorem dX7_beginWork_21 : decode cX7_beginWork 21 = .ok (.aload_n 0, 1) := by decide +kernel
theorem dX7_beginWork_22 : decode cX7_beginWork 22 = .ok (.getfield 59, 3) := by decide +kernel
theorem dX7_beginWork_25 : decode cX7_beginWork 25 = .ok (.iconst 0, 1) := by decide +kernel
theorem dX7_beginWork_26 : decode cX7_beginWork 26 = .ok (.invokestatic 275, 3) := by decide +kernel
theorem dX7_beginWork_29 : decode cX7_beginWork 29 = .ok (.return_, 1) := by decide +kernel
theorem dX7_setShape_0 : decode cX7_setShape 0 = .ok (.aload_n 0, 1) := by decide +kernel
theorem dX7_setShape_1 : decode cX7_setShape 1 = .ok (.iload_n 1, 1) := by decide +kernel
theorem dX7_setShape_2 : decode cX7_setShape 2 = .ok (.putfield 150, 3) := by decide +kernel
theorem dX7_setShape_5 : decode cX7_setShape 5 = .ok (.aload_n 0, 1) := by decide +kernel
theorem dX7_setShape_6 : decode cX7_setShape 6 = .ok (.iload_n 2, 1) := by decide +kernel
theorem dX7_setShape_7 : decode cX7_setShape 7 = .ok (.putfield 127, 3) := by decide +kernel
theorem dX7_setShape_10 : decode cX7_setShape 10 = .ok (.aload_n 0, 1) := by decide +kernel
theorem dX7_setShape_11 : decode cX7_setShape 11 = .ok (.iload_n 3, 1) := by decide +kernel
theorem dX7_setShape_12 : decode cX7_setShape 12 = .ok (.putfield 184, 3) := by decide +kernel
theorem dX7_setShape_15 : decode cX7_setShape 15 = .ok (.aload_n 0, 1) := by decide +kernel
theorem dX7_setShape_16 : decode cX7_setShape 16 = .ok (.iload 4, 2) := by decide +kernel
theorem dX7_setShape_18 : decode cX7_setShape 18 = .ok (.putfield 281, 3) := by decide +kernel
theorem dX7_setShape_21 : decode cX7_setShape 21 = .ok (.aload_n 0, 1) := by decide +kernel
theorem dX7_setShape_22 : decode cX7_setShape 22 = .ok (.getfield 28, 3) := by decide +kernel
theorem dX7_setShape_25 : decode cX7_setShape 25 = .ok (.iload 5, 2) := by decide +kernel
theorem dX7_setShape_27 : decode cX7_setShape 27 = .ok (.putfield 169, 3) := by decide +kernel
theorem dX7_setShape_30 : decode cX7_setShape 30 = .ok (.return_, 1) := by decide +kernel
theorem dX7_isWithin_0 : decode cX7_isWithin 0 = .ok (.iload_n 0, 1) := by decide +kernel
theorem dX7_isWithin_1 : decode cX7_isWithin 1 = .ok (.iload_n 1, 1) := by decide +kernel
theorem dX7_isWithin_2 : decode cX7_isWithin 2 = .ok (.if_icmp .lt 12, 3) := by decide +kernel
theorem dX7_isWithin_5 : decode cX7_isWithin 5 = .ok (.iload_n 0, 1) := by decide +kernel
theorem dX7_isWithin_6 : decode cX7_isWithin 6 = .ok (.iload_n 2, 1) := by decide +kernel
theorem dX7_isWithin_7 : decode cX7_isWithin 7 = .ok (.if_icmp .gt 7, 3) := by decide +kernel
theorem dX7_isWithin_10 : decode cX7_isWithin 10 = .ok (.iconst 1, 1) := by decide +kernel
theorem dX7_isWithin_11 : decode cX7_isWithin 11 = .ok (.goto 4, 3) := by decide +kernel
theorem dX7_isWithin_14 : decode cX7_isWithin 14 = .ok (.iconst 0, 1) := by decide +kernel
theorem dX7_isWithin_15 : decode cX7_isWithin 15 = .ok (.ireturn, 1) := by decide +kernel
theorem dX7_isKey_0 : decode cX7_isKey 0 = .ok (.iload_n 0, 1) := by decide +kernel
theorem dX7_isKey_1 : decode cX7_isKey 1 = .ok (.iconst 0, 1) := by decide +kernel
theorem dX7_isKey_2 : decode cX7_isKey 2 = .ok (.bipush 99, 2) := by decide +kernel
theorem dX7_isKey_4 : decode cX7_isKey 4 = .ok (.invokestatic 66, 3) := by decide +kernel
theorem dX7_isKey_7 : decode cX7_isKey 7 = .ok (.ireturn, 1) := by decide +kernel
theorem dX7_isFold_0 : decode cX7_isFold 0 = .ok (.iload_n 1, 1) := by decide +kernel
theorem dX7_isFold_1 : decode cX7_isFold 1 = .ok (.iconst 0, 1) := by decide +kernel
theorem dX7_isFold_2 : decode cX7_isFold 2 = .ok (.aload_n 0, 1) := by decide +kernel
theorem dX7_isFold_3 : decode cX7_isFold 3 = .ok (.getfield 12, 3) := by decide +kernel
theorem dX7_isFold_6 : decode cX7_isFold 6 = .ok (.getfield 88, 3) := by decide +kernel
theorem dX7_isFold_9 : decode cX7_isFold 9 = .ok (.iconst 1, 1) := by decide +kernel
theorem dX7_isFold_10 : decode cX7_isFold 10 = .ok (.isub, 1) := by decide +kernel
theorem dX7_isFold_11 : decode cX7_isFold 11 = .ok (.invokestatic 66, 3) := by decide +kernel
theorem dX7_isFold_14 : decode cX7_isFold 14 = .ok (.ireturn, 1) := by decide +kernel
theorem dX7_isPlace_0 : decode cX7_isPlace 0 = .ok (.iload_n 1, 1) := by decide +kernel
theorem dX7_isPlace_1 : decode cX7_isPlace 1 = .ok (.iconst 0, 1) := by decide +kernel
theorem dX7_isPlace_2 : decode cX7_isPlace 2 = .ok (.aload_n 0, 1) := by decide +kernel
theorem dX7_isPlace_3 : decode cX7_isPlace 3 = .ok (.getfield 150, 3) := by decide +kernel
theorem dX7_isPlace_6 : decode cX7_isPlace 6 = .ok (.iconst 1, 1) := by decide +kernel
theorem dX7_isPlace_7 : decode cX7_isPlace 7 = .ok (.isub, 1) := by decide +kernel
theorem dX7_isPlace_8 : decode cX7_isPlace 8 = .ok (.invokestatic 66, 3) := by decide +kernel
theorem dX7_isPlace_11 : decode cX7_isPlace 11 = .ok (.ireturn, 1) := by decide +kernel
theorem dX7_remainder_0 : decode cX7_remainder 0 = .ok (.iload_n 1, 1) := by decide +kernel
theorem dX7_remainder_1 : decode cX7_remainder 1 = .ok (.ifCond .le 9, 3) := by decide +kernel
theorem dX7_remainder_4 : decode cX7_remainder 4 = .ok (.iload_n 0, 1) := by decide +kernel
theorem dX7_remainder_5 : decode cX7_remainder 5 = .ok (.iload_n 1, 1) := by decide +kernel
theorem dX7_remainder_6 : decode cX7_remainder 6 = .ok (.irem, 1) := by decide +kernel
theorem dX7_remainder_7 : decode cX7_remainder 7 = .ok (.goto 4, 3) := by decide +kernel
theorem dX7_remainder_10 : decode cX7_remainder 10 = .ok (.iconst 0, 1) := by decide +kernel
theorem dX7_remainder_11 : decode cX7_remainder 11 = .ok (.ireturn, 1) := by decide +kernel
theorem dX7_quotient_0 : decode cX7_quotient 0 = .ok (.iload_n 1, 1) := by decide +kernel
theorem dX7_quotient_1 : decode cX7_quotient 1 = .ok (.ifCond .le 9, 3) := by decide +kernel
theorem dX7_quotient_4 : decode cX7_quotient 4 = .ok (.iload_n 0, 1) := by decide +kernel
theorem dX7_quotient_5 : decode cX7_quotient 5 = .ok (.iload_n 1, 1) := by decide +kernel
theorem dX7_quotient_6 : decode cX7_quotient 6 = .ok (.idiv, 1) := by decide +kernel
theorem dX7_quotient_7 : decode cX7_quotient 7 = .ok (.goto 4, 3) := by decide +kernel
theorem dX7_quotient_10 : decode cX7_quotient 10 = .ok (.iconst 0, 1) := by decide +kernel
theorem dX7_quotient_11 : decode cX7_quotient 11 = .ok (.ireturn, 1) := by decide +kernel
theorem dX7_partOfRow_0 : decode cX7_partOfRow 0 = .ok (.iload_n 0, 1) := by decide +kernel
theorem dX7_partOfRow_1 : decode cX7_partOfRow 1 = .ok (.ldc_w 284, 3) := by decide +kernel
theorem dX7_partOfRow_4 : decode cX7_partOfRow 4 = .ok (.imul, 1) := by decide +kernel
theorem dX7_partOfRow_5 : decode cX7_partOfRow 5 = .ok (.bipush 16, 2) := by decide +kernel
theorem dX7_partOfRow_7 : decode cX7_partOfRow 7 = .ok (.iushr, 1) := by decide +kernel
theorem dX7_partOfRow_8 : decode cX7_partOfRow 8 = .ok (.iload_n 1, 1) := by decide +kernel
theorem dX7_partOfRow_9 : decode cX7_partOfRow 9 = .ok (.invokestatic 285, 3) := by decide +kernel
theorem dX7_partOfRow_12 : decode cX7_partOfRow 12 = .ok (.ireturn, 1) := by decide +kernel
theorem dX7_placeOfPart_0 : decode cX7_placeOfPart 0 = .ok (.iload_n 1, 1) := by decide +kernel
theorem dX7_placeOfPart_1 : decode cX7_placeOfPart 1 = .ok (.aload_n 0, 1) := by decide +kernel
theorem dX7_placeOfPart_2 : decode cX7_placeOfPart 2 = .ok (.getfield 150, 3) := by decide +kernel
theorem dX7_placeOfPart_5 : decode cX7_placeOfPart 5 = .ok (.invokestatic 285, 3) := by decide +kernel
theorem dX7_placeOfPart_8 : decode cX7_placeOfPart 8 = .ok (.iload_n 2, 1) := by decide +kernel
theorem dX7_placeOfPart_9 : decode cX7_placeOfPart 9 = .ok (.iadd, 1) := by decide +kernel
theorem dX7_placeOfPart_10 : decode cX7_placeOfPart 10 = .ok (.aload_n 0, 1) := by decide +kernel
theorem dX7_placeOfPart_11 : decode cX7_placeOfPart 11 = .ok (.getfield 150, 3) := by decide +kernel
theorem dX7_placeOfPart_14 : decode cX7_placeOfPart 14 = .ok (.invokestatic 285, 3) := by decide +kernel
theorem dX7_placeOfPart_17 : decode cX7_placeOfPart 17 = .ok (.ireturn, 1) := by decide +kernel
theorem dX7_hasPartAt_0 : decode cX7_hasPartAt 0 = .ok (.aload_n 0, 1) := by decide +kernel
theorem dX7_hasPartAt_1 : decode cX7_hasPartAt 1 = .ok (.getfield 21, 3) := by decide +kernel
theorem dX7_hasPartAt_4 : decode cX7_hasPartAt 4 = .ok (.iload_n 1, 1) := by decide +kernel
theorem dX7_hasPartAt_5 : decode cX7_hasPartAt 5 = .ok (.invokevirtual 103, 3) := by decide +kernel
theorem dX7_hasPartAt_8 : decode cX7_hasPartAt 8 = .ok (.istore_n 3, 1) := by decide +kernel
theorem dX7_hasPartAt_9 : decode cX7_hasPartAt 9 = .ok (.iconst 0, 1) := by decide +kernel
theorem dX7_hasPartAt_10 : decode cX7_hasPartAt 10 = .ok (.istore 4, 2) := by decide +kernel
theorem dX7_hasPartAt_12 : decode cX7_hasPartAt 12 = .ok (.iload 4, 2) := by decide +kernel
theorem dX7_hasPartAt_14 : decode cX7_hasPartAt 14 = .ok (.iload_n 3, 1) := by decide +kernel
theorem dX7_hasPartAt_15 : decode cX7_hasPartAt 15 = .ok (.if_icmp .ge 22, 3) := by decide +kernel
theorem dX7_hasPartAt_18 : decode cX7_hasPartAt 18 = .ok (.aload_n 0, 1) := by decide +kernel
theorem dX7_hasPartAt_19 : decode cX7_hasPartAt 19 = .ok (.iload_n 1, 1) := by decide +kernel
theorem dX7_hasPartAt_20 : decode cX7_hasPartAt 20 = .ok (.iload 4, 2) := by decide +kernel
theorem dX7_hasPartAt_22 : decode cX7_hasPartAt 22 = .ok (.invokevirtual 111, 3) := by decide +kernel
theorem dX7_hasPartAt_25 : decode cX7_hasPartAt 25 = .ok (.iload_n 2, 1) := by decide +kernel
theorem dX7_hasPartAt_26 : decode cX7_hasPartAt 26 = .ok (.if_icmp .ne 5, 3) := by decide +kernel
theorem dX7_hasPartAt_29 : decode cX7_hasPartAt 29 = .ok (.iconst 1, 1) := by decide +kernel
theorem dX7_hasPartAt_30 : decode cX7_hasPartAt 30 = .ok (.ireturn, 1) := by decide +kernel
theorem dX7_hasPartAt_31 : decode cX7_hasPartAt 31 = .ok (.iinc 4 1, 3) := by decide +kernel
theorem dX7_hasPartAt_34 : decode cX7_hasPartAt 34 = .ok (.goto (-22), 3) := by decide +kernel
theorem dX7_hasPartAt_37 : decode cX7_hasPartAt 37 = .ok (.iconst 0, 1) := by decide +kernel
theorem dX7_hasPartAt_38 : decode cX7_hasPartAt 38 = .ok (.ireturn, 1) := by decide +kernel
theorem dX7_joinOfTree_0 : decode cX7_joinOfTree 0 = .ok (.iconst 0, 1) := by decide +kernel
theorem dX7_joinOfTree_1 : decode cX7_joinOfTree 1 = .ok (.istore_n 2, 1) := by decide +kernel
theorem dX7_joinOfTree_2 : decode cX7_joinOfTree 2 = .ok (.iconst 1, 1) := by decide +kernel
theorem dX7_joinOfTree_3 : decode cX7_joinOfTree 3 = .ok (.istore_n 3, 1) := by decide +kernel
