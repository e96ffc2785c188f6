theorem dX6_init_0 : decode cX6_init 0 = .ok (.aload_n 0, 1) := by decide +kernel
theorem dX6_init_1 : decode cX6_init 1 = .ok (.invokespecial 3, 3) := by decide +kernel
theorem dX6_init_4 : decode cX6_init 4 = .ok (.aload_n 0, 1) := by decide +kernel
theorem dX6_init_5 : decode cX6_init 5 = .ok (.bipush 40, 2) := by decide +kernel
theorem dX6_init_7 : decode cX6_init 7 = .ok (.newarray .int, 2) := by decide +kernel
theorem dX6_init_9 : decode cX6_init 9 = .ok (.putfield 9, 3) := by decide +kernel
theorem dX6_init_12 : decode cX6_init 12 = .ok (.aload_n 0, 1) := by decide +kernel
theorem dX6_init_13 : decode cX6_init 13 = .ok (.bipush 40, 2) := by decide +kernel
theorem dX6_init_15 : decode cX6_init 15 = .ok (.newarray .int, 2) := by decide +kernel
theorem dX6_init_17 : decode cX6_init 17 = .ok (.putfield 15, 3) := by decide +kernel
theorem dX6_init_20 : decode cX6_init 20 = .ok (.return_, 1) := by decide +kernel
theorem dX6_forgetAll_0 : decode cX6_forgetAll 0 = .ok (.aload_n 0, 1) := by decide +kernel
theorem dX6_forgetAll_1 : decode cX6_forgetAll 1 = .ok (.iconst 0, 1) := by decide +kernel
theorem dX6_forgetAll_2 : decode cX6_forgetAll 2 = .ok (.putfield 18, 3) := by decide +kernel
theorem dX6_forgetAll_5 : decode cX6_forgetAll 5 = .ok (.aload_n 0, 1) := by decide +kernel
theorem dX6_forgetAll_6 : decode cX6_forgetAll 6 = .ok (.iconst 0, 1) := by decide +kernel
theorem dX6_forgetAll_7 : decode cX6_forgetAll 7 = .ok (.putfield 22, 3) := by decide +kernel
theorem dX6_forgetAll_10 : decode cX6_forgetAll 10 = .ok (.return_, 1) := by decide +kernel
theorem dX6_dueAt_0 : decode cX6_dueAt 0 = .ok (.iconst 0, 1) := by decide +kernel
theorem dX6_dueAt_1 : decode cX6_dueAt 1 = .ok (.istore_n 2, 1) := by decide +kernel
theorem dX6_dueAt_2 : decode cX6_dueAt 2 = .ok (.iload_n 2, 1) := by decide +kernel
theorem dX6_dueAt_3 : decode cX6_dueAt 3 = .ok (.aload_n 0, 1) := by decide +kernel
theorem dX6_dueAt_4 : decode cX6_dueAt 4 = .ok (.getfield 18, 3) := by decide +kernel
theorem dX6_dueAt_7 : decode cX6_dueAt 7 = .ok (.if_icmp .ge 19, 3) := by decide +kernel
theorem dX6_dueAt_10 : decode cX6_dueAt 10 = .ok (.aload_n 0, 1) := by decide +kernel
theorem dX6_dueAt_11 : decode cX6_dueAt 11 = .ok (.getfield 15, 3) := by decide +kernel
theorem dX6_dueAt_14 : decode cX6_dueAt 14 = .ok (.iload_n 2, 1) := by decide +kernel
theorem dX6_dueAt_15 : decode cX6_dueAt 15 = .ok (.iaload, 1) := by decide +kernel
theorem dX6_dueAt_16 : decode cX6_dueAt 16 = .ok (.iload_n 1, 1) := by decide +kernel
theorem dX6_dueAt_17 : decode cX6_dueAt 17 = .ok (.if_icmp .gt 9, 3) := by decide +kernel
theorem dX6_dueAt_20 : decode cX6_dueAt 20 = .ok (.iinc 2 1, 3) := by decide +kernel
theorem dX6_dueAt_23 : decode cX6_dueAt 23 = .ok (.goto (-21), 3) := by decide +kernel
theorem dX6_dueAt_26 : decode cX6_dueAt 26 = .ok (.iload_n 2, 1) := by decide +kernel
theorem dX6_dueAt_27 : decode cX6_dueAt 27 = .ok (.ireturn, 1) := by decide +kernel
theorem dX6_add_0 : decode cX6_add 0 = .ok (.aload_n 0, 1) := by decide +kernel
theorem dX6_add_1 : decode cX6_add 1 = .ok (.iload_n 2, 1) := by decide +kernel
theorem dX6_add_2 : decode cX6_add 2 = .ok (.invokevirtual 25, 3) := by decide +kernel
theorem dX6_add_5 : decode cX6_add 5 = .ok (.istore_n 3, 1) := by decide +kernel
theorem dX6_add_6 : decode cX6_add 6 = .ok (.aload_n 0, 1) := by decide +kernel
theorem dX6_add_7 : decode cX6_add 7 = .ok (.getfield 9, 3) := by decide +kernel
theorem dX6_add_10 : decode cX6_add 10 = .ok (.iload_n 3, 1) := by decide +kernel
theorem dX6_add_11 : decode cX6_add 11 = .ok (.aload_n 0, 1) := by decide +kernel
theorem dX6_add_12 : decode cX6_add 12 = .ok (.getfield 9, 3) := by decide +kernel
theorem dX6_add_15 : decode cX6_add 15 = .ok (.iload_n 3, 1) := by decide +kernel
theorem dX6_add_16 : decode cX6_add 16 = .ok (.iconst 1, 1) := by decide +kernel
theorem dX6_add_17 : decode cX6_add 17 = .ok (.iadd, 1) := by decide +kernel
theorem dX6_add_18 : decode cX6_add 18 = .ok (.aload_n 0, 1) := by decide +kernel
theorem dX6_add_19 : decode cX6_add 19 = .ok (.getfield 18, 3) := by decide +kernel
theorem dX6_add_22 : decode cX6_add 22 = .ok (.iload_n 3, 1) := by decide +kernel
theorem dX6_add_23 : decode cX6_add 23 = .ok (.isub, 1) := by decide +kernel
theorem dX6_add_24 : decode cX6_add 24 = .ok (.invokestatic 29, 3) := by decide +kernel
theorem dX6_add_27 : decode cX6_add 27 = .ok (.aload_n 0, 1) := by decide +kernel
theorem dX6_add_28 : decode cX6_add 28 = .ok (.getfield 15, 3) := by decide +kernel
theorem dX6_add_31 : decode cX6_add 31 = .ok (.iload_n 3, 1) := by decide +kernel
theorem dX6_add_32 : decode cX6_add 32 = .ok (.aload_n 0, 1) := by decide +kernel
theorem dX6_add_33 : decode cX6_add 33 = .ok (.getfield 15, 3) := by decide +kernel
theorem dX6_add_36 : decode cX6_add 36 = .ok (.iload_n 3, 1) := by decide +kernel
theorem dX6_add_37 : decode cX6_add 37 = .ok (.iconst 1, 1) := by decide +kernel
theorem dX6_add_38 : decode cX6_add 38 = .ok (.iadd, 1) := by decide +kernel
theorem dX6_add_39 : decode cX6_add 39 = .ok (.aload_n 0, 1) := by decide +kernel
theorem dX6_add_40 : decode cX6_add 40 = .ok (.getfield 18, 3) := by decide +kernel
theorem dX6_add_43 : decode cX6_add 43 = .ok (.iload_n 3, 1) := by decide +kernel
theorem dX6_add_44 : decode cX6_add 44 = .ok (.isub, 1) := by decide +kernel
theorem dX6_add_45 : decode cX6_add 45 = .ok (.invokestatic 29, 3) := by decide +kernel
theorem dX6_add_48 : decode cX6_add 48 = .ok (.aload_n 0, 1) := by decide +kernel
theorem dX6_add_49 : decode cX6_add 49 = .ok (.getfield 9, 3) := by decide +kernel
theorem dX6_add_52 : decode cX6_add 52 = .ok (.iload_n 3, 1) := by decide +kernel
theorem dX6_add_53 : decode cX6_add 53 = .ok (.iload_n 1, 1) := by decide +kernel
theorem dX6_add_54 : decode cX6_add 54 = .ok (.iastore, 1) := by decide +kernel
theorem dX6_add_55 : decode cX6_add 55 = .ok (.aload_n 0, 1) := by decide +kernel
theorem dX6_add_56 : decode cX6_add 56 = .ok (.getfield 15, 3) := by decide +kernel
theorem dX6_add_59 : decode cX6_add 59 = .ok (.iload_n 3, 1) := by decide +kernel
theorem dX6_add_60 : decode cX6_add 60 = .ok (.iload_n 2, 1) := by decide +kernel
theorem dX6_add_61 : decode cX6_add 61 = .ok (.iastore, 1) := by decide +kernel
theorem dX6_add_62 : decode cX6_add 62 = .ok (.aload_n 0, 1) := by decide +kernel
theorem dX6_add_63 : decode cX6_add 63 = .ok (.dup, 1) := by decide +kernel
theorem dX6_add_64 : decode cX6_add 64 = .ok (.getfield 18, 3) := by decide +kernel
theorem dX6_add_67 : decode cX6_add 67 = .ok (.iconst 1, 1) := by decide +kernel
theorem dX6_add_68 : decode cX6_add 68 = .ok (.iadd, 1) := by decide +kernel
theorem dX6_add_69 : decode cX6_add 69 = .ok (.putfield 18, 3) := by decide +kernel
theorem dX6_add_72 : decode cX6_add 72 = .ok (.return_, 1) := by decide +kernel
theorem dX6_dropFirst_0 : decode cX6_dropFirst 0 = .ok (.aload_n 0, 1) := by decide +kernel
theorem dX6_dropFirst_1 : decode cX6_dropFirst 1 = .ok (.dup, 1) := by decide +kernel
theorem dX6_dropFirst_2 : decode cX6_dropFirst 2 = .ok (.getfield 18, 3) := by decide +kernel
theorem dX6_dropFirst_5 : decode cX6_dropFirst 5 = .ok (.iload_n 1, 1) := by decide +kernel
theorem dX6_dropFirst_6 : decode cX6_dropFirst 6 = .ok (.isub, 1) := by decide +kernel
theorem dX6_dropFirst_7 : decode cX6_dropFirst 7 = .ok (.putfield 18, 3) := by decide +kernel
theorem dX6_dropFirst_10 : decode cX6_dropFirst 10 = .ok (.aload_n 0, 1) := by decide +kernel
theorem dX6_dropFirst_11 : decode cX6_dropFirst 11 = .ok (.getfield 9, 3) := by decide +kernel
theorem dX6_dropFirst_14 : decode cX6_dropFirst 14 = .ok (.iload_n 1, 1) := by decide +kernel
theorem dX6_dropFirst_15 : decode cX6_dropFirst 15 = .ok (.aload_n 0, 1) := by decide +kernel
theorem dX6_dropFirst_16 : decode cX6_dropFirst 16 = .ok (.getfield 9, 3) := by decide +kernel
theorem dX6_dropFirst_19 : decode cX6_dropFirst 19 = .ok (.iconst 0, 1) := by decide +kernel
theorem dX6_dropFirst_20 : decode cX6_dropFirst 20 = .ok (.aload_n 0, 1) := by decide +kernel
theorem dX6_dropFirst_21 : decode cX6_dropFirst 21 = .ok (.getfield 18, 3) := by decide +kernel
theorem dX6_dropFirst_24 : decode cX6_dropFirst 24 = .ok (.invokestatic 29, 3) := by decide +kernel
theorem dX6_dropFirst_27 : decode cX6_dropFirst 27 = .ok (.aload_n 0, 1) := by decide +kernel
theorem dX6_dropFirst_28 : decode cX6_dropFirst 28 = .ok (.getfield 15, 3) := by decide +kernel
theorem dX6_dropFirst_31 : decode cX6_dropFirst 31 = .ok (.iload_n 1, 1) := by decide +kernel
theorem dX6_dropFirst_32 : decode cX6_dropFirst 32 = .ok (.aload_n 0, 1) := by decide +kernel
theorem dX6_dropFirst_33 : decode cX6_dropFirst 33 = .ok (.getfield 15, 3) := by decide +kernel
theorem dX6_dropFirst_36 : decode cX6_dropFirst 36 = .ok (.iconst 0, 1) := by decide +kernel
theorem dX6_dropFirst_37 : decode cX6_dropFirst 37 = .ok (.aload_n 0, 1) := by decide +kernel
theorem dX6_dropFirst_38 : decode cX6_dropFirst 38 = .ok (.getfield 18, 3) := by decide +kernel
theorem dX6_dropFirst_41 : decode cX6_dropFirst 41 = .ok (.invokestatic 29, 3) := by decide +kernel
theorem dX6_dropFirst_44 : decode cX6_dropFirst 44 = .ok (.return_, 1) := by decide +kernel
theorem dX6_copyFrom_0 : decode cX6_copyFrom 0 = .ok (.aload_n 1, 1) := by decide +kernel
theorem dX6_copyFrom_1 : decode cX6_copyFrom 1 = .ok (.getfield 9, 3) := by decide +kernel
theorem dX6_copyFrom_4 : decode cX6_copyFrom 4 = .ok (.iconst 0, 1) := by decide +kernel
theorem dX6_copyFrom_5 : decode cX6_copyFrom 5 = .ok (.aload_n 0, 1) := by decide +kernel
theorem dX6_copyFrom_6 : decode cX6_copyFrom 6 = .ok (.getfield 9, 3) := by decide +kernel
theorem dX6_copyFrom_9 : decode cX6_copyFrom 9 = .ok (.iconst 0, 1) := by decide +kernel
theorem dX6_copyFrom_10 : decode cX6_copyFrom 10 = .ok (.aload_n 1, 1) := by decide +kernel
theorem dX6_copyFrom_11 : decode cX6_copyFrom 11 = .ok (.getfield 18, 3) := by decide +kernel
theorem dX6_copyFrom_14 : decode cX6_copyFrom 14 = .ok (.invokestatic 29, 3) := by decide +kernel
theorem dX6_copyFrom_17 : decode cX6_copyFrom 17 = .ok (.aload_n 1, 1) := by decide +kernel
theorem dX6_copyFrom_18 : decode cX6_copyFrom 18 = .ok (.getfield 15, 3) := by decide +kernel
theorem dX6_copyFrom_21 : decode cX6_copyFrom 21 = .ok (.iconst 0, 1) := by decide +kernel
theorem dX6_copyFrom_22 : decode cX6_copyFrom 22 = .ok (.aload_n 0, 1) := by decide +kernel
theorem dX6_copyFrom_23 : decode cX6_copyFrom 23 = .ok (.getfield 15, 3) := by decide +kernel
theorem dX6_copyFrom_26 : decode cX6_copyFrom 26 = .ok (.iconst 0, 1) := by decide +kernel
theorem dX6_copyFrom_27 : decode cX6_copyFrom 27 = .ok (.aload_n 1, 1) := by decide +kernel
theorem dX6_copyFrom_28 : decode cX6_copyFrom 28 = .ok (.getfield 18, 3) := by decide +kernel
theorem dX6_copyFrom_31 : decode cX6_copyFrom 31 = .ok (.invokestatic 29, 3) := by decide +kernel
theorem dX6_copyFrom_34 : decode cX6_copyFrom 34 = .ok (.aload_n 0, 1) := by decide +kernel
theorem dX6_copyFrom_35 : decode cX6_copyFrom 35 = .ok (.aload_n 1, 1) := by decide +kernel
theorem dX6_copyFrom_36 : decode cX6_copyFrom 36 = .ok (.getfield 18, 3) := by decide +kernel
theorem dX6_copyFrom_39 : decode cX6_copyFrom 39 = .ok (.putfield 18, 3) := by decide +kernel
theorem dX6_copyFrom_42 : decode cX6_copyFrom 42 = .ok (.aload_n 0, 1) := by decide +kernel
theorem dX6_copyFrom_43 : decode cX6_copyFrom 43 = .ok (.aload_n 1, 1) := by decide +kernel
theorem dX6_copyFrom_44 : decode cX6_copyFrom 44 = .ok (.getfield 22, 3) := by decide +kernel
theorem dX6_copyFrom_47 : decode cX6_copyFrom 47 = .ok (.putfield 22, 3) := by decide +kernel
theorem dX6_copyFrom_50 : decode cX6_copyFrom 50 = .ok (.return_, 1) := by decide +kernel
