theorem dX3_init_0 : decode cX3_init 0 = .ok (.aload_n 0, 1) := by decide +kernel
theorem dX3_init_1 : decode cX3_init 1 = .ok (.invokespecial 3, 3) := by decide +kernel
theorem dX3_init_4 : decode cX3_init 4 = .ok (.aload_n 0, 1) := by decide +kernel
theorem dX3_init_5 : decode cX3_init 5 = .ok (.sipush 512, 3) := by decide +kernel
theorem dX3_init_8 : decode cX3_init 8 = .ok (.newarray .long, 2) := by decide +kernel
theorem dX3_init_10 : decode cX3_init 10 = .ok (.putfield 9, 3) := by decide +kernel
theorem dX3_init_13 : decode cX3_init 13 = .ok (.return_, 1) := by decide +kernel
theorem dX3_open_0 : decode cX3_open 0 = .ok (.aload_n 0, 1) := by decide +kernel
theorem dX3_open_1 : decode cX3_open 1 = .ok (.aload_n 0, 1) := by decide +kernel
theorem dX3_open_2 : decode cX3_open 2 = .ok (.getfield 15, 3) := by decide +kernel
theorem dX3_open_5 : decode cX3_open 5 = .ok (.iconst 1, 1) := by decide +kernel
theorem dX3_open_6 : decode cX3_open 6 = .ok (.iadd, 1) := by decide +kernel
theorem dX3_open_7 : decode cX3_open 7 = .ok (.bipush 64, 2) := by decide +kernel
theorem dX3_open_9 : decode cX3_open 9 = .ok (.irem, 1) := by decide +kernel
theorem dX3_open_10 : decode cX3_open 10 = .ok (.putfield 15, 3) := by decide +kernel
theorem dX3_open_13 : decode cX3_open 13 = .ok (.aload_n 0, 1) := by decide +kernel
theorem dX3_open_14 : decode cX3_open 14 = .ok (.aload_n 0, 1) := by decide +kernel
theorem dX3_open_15 : decode cX3_open 15 = .ok (.getfield 19, 3) := by decide +kernel
theorem dX3_open_18 : decode cX3_open 18 = .ok (.iconst 1, 1) := by decide +kernel
theorem dX3_open_19 : decode cX3_open 19 = .ok (.iadd, 1) := by decide +kernel
theorem dX3_open_20 : decode cX3_open 20 = .ok (.bipush 64, 2) := by decide +kernel
theorem dX3_open_22 : decode cX3_open 22 = .ok (.invokestatic 22, 3) := by decide +kernel
theorem dX3_open_25 : decode cX3_open 25 = .ok (.putfield 19, 3) := by decide +kernel
theorem dX3_open_28 : decode cX3_open 28 = .ok (.aload_n 0, 1) := by decide +kernel
theorem dX3_open_29 : decode cX3_open 29 = .ok (.getfield 15, 3) := by decide +kernel
theorem dX3_open_32 : decode cX3_open 32 = .ok (.bipush 8, 2) := by decide +kernel
theorem dX3_open_34 : decode cX3_open 34 = .ok (.imul, 1) := by decide +kernel
theorem dX3_open_35 : decode cX3_open 35 = .ok (.istore_n 3, 1) := by decide +kernel
theorem dX3_open_36 : decode cX3_open 36 = .ok (.aload_n 0, 1) := by decide +kernel
theorem dX3_open_37 : decode cX3_open 37 = .ok (.getfield 9, 3) := by decide +kernel
theorem dX3_open_40 : decode cX3_open 40 = .ok (.iload_n 3, 1) := by decide +kernel
theorem dX3_open_41 : decode cX3_open 41 = .ok (.iload_n 1, 1) := by decide +kernel
theorem dX3_open_42 : decode cX3_open 42 = .ok (.i2l, 1) := by decide +kernel
theorem dX3_open_43 : decode cX3_open 43 = .ok (.lastore, 1) := by decide +kernel
theorem dX3_open_44 : decode cX3_open 44 = .ok (.aload_n 0, 1) := by decide +kernel
theorem dX3_open_45 : decode cX3_open 45 = .ok (.getfield 9, 3) := by decide +kernel
theorem dX3_open_48 : decode cX3_open 48 = .ok (.iload_n 3, 1) := by decide +kernel
theorem dX3_open_49 : decode cX3_open 49 = .ok (.iconst 1, 1) := by decide +kernel
theorem dX3_open_50 : decode cX3_open 50 = .ok (.iadd, 1) := by decide +kernel
theorem dX3_open_51 : decode cX3_open 51 = .ok (.iload_n 2, 1) := by decide +kernel
theorem dX3_open_52 : decode cX3_open 52 = .ok (.i2l, 1) := by decide +kernel
theorem dX3_open_53 : decode cX3_open 53 = .ok (.lastore, 1) := by decide +kernel
theorem dX3_open_54 : decode cX3_open 54 = .ok (.aload_n 0, 1) := by decide +kernel
theorem dX3_open_55 : decode cX3_open 55 = .ok (.getfield 9, 3) := by decide +kernel
theorem dX3_open_58 : decode cX3_open 58 = .ok (.iload_n 3, 1) := by decide +kernel
theorem dX3_open_59 : decode cX3_open 59 = .ok (.iconst 2, 1) := by decide +kernel
theorem dX3_open_60 : decode cX3_open 60 = .ok (.iadd, 1) := by decide +kernel
theorem dX3_open_61 : decode cX3_open 61 = .ok (.iload_n 3, 1) := by decide +kernel
theorem dX3_open_62 : decode cX3_open 62 = .ok (.bipush 8, 2) := by decide +kernel
theorem dX3_open_64 : decode cX3_open 64 = .ok (.iadd, 1) := by decide +kernel
theorem dX3_open_65 : decode cX3_open 65 = .ok (.ldc2_w 28, 3) := by decide +kernel
theorem dX3_open_68 : decode cX3_open 68 = .ok (.invokestatic 30, 3) := by decide +kernel
theorem dX3_open_71 : decode cX3_open 71 = .ok (.iload_n 3, 1) := by decide +kernel
theorem dX3_open_72 : decode cX3_open 72 = .ok (.ireturn, 1) := by decide +kernel
theorem dX3_write_0 : decode cX3_write 0 = .ok (.aload_n 0, 1) := by decide +kernel
theorem dX3_write_1 : decode cX3_write 1 = .ok (.getfield 9, 3) := by decide +kernel
theorem dX3_write_4 : decode cX3_write 4 = .ok (.iload_n 1, 1) := by decide +kernel
theorem dX3_write_5 : decode cX3_write 5 = .ok (.iconst 2, 1) := by decide +kernel
theorem dX3_write_6 : decode cX3_write 6 = .ok (.iadd, 1) := by decide +kernel
theorem dX3_write_7 : decode cX3_write 7 = .ok (.iload_n 2, 1) := by decide +kernel
theorem dX3_write_8 : decode cX3_write 8 = .ok (.iadd, 1) := by decide +kernel
theorem dX3_write_9 : decode cX3_write 9 = .ok (.lload_n 3, 1) := by decide +kernel
theorem dX3_write_10 : decode cX3_write 10 = .ok (.lastore, 1) := by decide +kernel
theorem dX3_write_11 : decode cX3_write 11 = .ok (.return_, 1) := by decide +kernel
theorem dX3_read_0 : decode cX3_read 0 = .ok (.aload_n 0, 1) := by decide +kernel
theorem dX3_read_1 : decode cX3_read 1 = .ok (.getfield 9, 3) := by decide +kernel
theorem dX3_read_4 : decode cX3_read 4 = .ok (.aload_n 0, 1) := by decide +kernel
theorem dX3_read_5 : decode cX3_read 5 = .ok (.getfield 15, 3) := by decide +kernel
theorem dX3_read_8 : decode cX3_read 8 = .ok (.iload_n 1, 1) := by decide +kernel
theorem dX3_read_9 : decode cX3_read 9 = .ok (.isub, 1) := by decide +kernel
theorem dX3_read_10 : decode cX3_read 10 = .ok (.bipush 64, 2) := by decide +kernel
theorem dX3_read_12 : decode cX3_read 12 = .ok (.invokestatic 36, 3) := by decide +kernel
theorem dX3_read_15 : decode cX3_read 15 = .ok (.bipush 8, 2) := by decide +kernel
theorem dX3_read_17 : decode cX3_read 17 = .ok (.imul, 1) := by decide +kernel
theorem dX3_read_18 : decode cX3_read 18 = .ok (.iload_n 2, 1) := by decide +kernel
theorem dX3_read_19 : decode cX3_read 19 = .ok (.iadd, 1) := by decide +kernel
theorem dX3_read_20 : decode cX3_read 20 = .ok (.laload, 1) := by decide +kernel
theorem dX3_read_21 : decode cX3_read 21 = .ok (.lreturn, 1) := by decide +kernel
