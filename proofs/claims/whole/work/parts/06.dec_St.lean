/-! decode rows (by program) -/
theorem d_St_init_0 : decode c_St_init 0 = .ok (.aload_n 0, 1) := by decide +kernel
theorem d_St_init_1 : decode c_St_init 1 = .ok (.invokespecial 3, 3) := by decide +kernel
theorem d_St_init_4 : decode c_St_init 4 = .ok (.aload_n 0, 1) := by decide +kernel
theorem d_St_init_5 : decode c_St_init 5 = .ok (.iconst 0, 1) := by decide +kernel
theorem d_St_init_6 : decode c_St_init 6 = .ok (.putfield 9, 3) := by decide +kernel
theorem d_St_init_9 : decode c_St_init 9 = .ok (.aload_n 0, 1) := by decide +kernel
theorem d_St_init_10 : decode c_St_init 10 = .ok (.lconst 0, 1) := by decide +kernel
theorem d_St_init_11 : decode c_St_init 11 = .ok (.putfield 15, 3) := by decide +kernel
theorem d_St_init_14 : decode c_St_init 14 = .ok (.aload_n 0, 1) := by decide +kernel
theorem d_St_init_15 : decode c_St_init 15 = .ok (.iconst 0, 1) := by decide +kernel
theorem d_St_init_16 : decode c_St_init 16 = .ok (.putfield 19, 3) := by decide +kernel
theorem d_St_init_19 : decode c_St_init 19 = .ok (.aload_n 0, 1) := by decide +kernel
theorem d_St_init_20 : decode c_St_init 20 = .ok (.iconst 0, 1) := by decide +kernel
theorem d_St_init_21 : decode c_St_init 21 = .ok (.putfield 22, 3) := by decide +kernel
theorem d_St_init_24 : decode c_St_init 24 = .ok (.aload_n 0, 1) := by decide +kernel
theorem d_St_init_25 : decode c_St_init 25 = .ok (.iconst 0, 1) := by decide +kernel
theorem d_St_init_26 : decode c_St_init 26 = .ok (.putfield 25, 3) := by decide +kernel
theorem d_St_init_29 : decode c_St_init 29 = .ok (.aload_n 0, 1) := by decide +kernel
theorem d_St_init_30 : decode c_St_init 30 = .ok (.lconst 0, 1) := by decide +kernel
theorem d_St_init_31 : decode c_St_init 31 = .ok (.putfield 28, 3) := by decide +kernel
theorem d_St_init_34 : decode c_St_init 34 = .ok (.aload_n 0, 1) := by decide +kernel
theorem d_St_init_35 : decode c_St_init 35 = .ok (.lconst 0, 1) := by decide +kernel
theorem d_St_init_36 : decode c_St_init 36 = .ok (.putfield 31, 3) := by decide +kernel
theorem d_St_init_39 : decode c_St_init 39 = .ok (.aload_n 0, 1) := by decide +kernel
theorem d_St_init_40 : decode c_St_init 40 = .ok (.lconst 0, 1) := by decide +kernel
theorem d_St_init_41 : decode c_St_init 41 = .ok (.putfield 34, 3) := by decide +kernel
theorem d_St_init_44 : decode c_St_init 44 = .ok (.aload_n 0, 1) := by decide +kernel
theorem d_St_init_45 : decode c_St_init 45 = .ok (.aload_n 1, 1) := by decide +kernel
theorem d_St_init_46 : decode c_St_init 46 = .ok (.putfield 37, 3) := by decide +kernel
theorem d_St_init_49 : decode c_St_init 49 = .ok (.return_, 1) := by decide +kernel
theorem d_St_set_0 : decode c_St_set 0 = .ok (.aload_n 0, 1) := by decide +kernel
theorem d_St_set_1 : decode c_St_set 1 = .ok (.aload_n 1, 1) := by decide +kernel
theorem d_St_set_2 : decode c_St_set 2 = .ok (.putfield 37, 3) := by decide +kernel
theorem d_St_set_5 : decode c_St_set 5 = .ok (.aload_n 1, 1) := by decide +kernel
theorem d_St_set_6 : decode c_St_set 6 = .ok (.getfield 41, 3) := by decide +kernel
theorem d_St_set_9 : decode c_St_set 9 = .ok (.iconst 3, 1) := by decide +kernel
theorem d_St_set_10 : decode c_St_set 10 = .ok (.if_icmp .ne 12, 3) := by decide +kernel
theorem d_St_set_13 : decode c_St_set 13 = .ok (.aload_n 0, 1) := by decide +kernel
theorem d_St_set_14 : decode c_St_set 14 = .ok (.aload_n 1, 1) := by decide +kernel
theorem d_St_set_15 : decode c_St_set 15 = .ok (.getfield 46, 3) := by decide +kernel
theorem d_St_set_18 : decode c_St_set 18 = .ok (.invokevirtual 49, 3) := by decide +kernel
theorem d_St_set_21 : decode c_St_set 21 = .ok (.return_, 1) := by decide +kernel
theorem d_St_set_22 : decode c_St_set 22 = .ok (.lload_n 2, 1) := by decide +kernel
theorem d_St_set_23 : decode c_St_set 23 = .ok (.aload_n 1, 1) := by decide +kernel
theorem d_St_set_24 : decode c_St_set 24 = .ok (.getfield 53, 3) := by decide +kernel
theorem d_St_set_27 : decode c_St_set 27 = .ok (.i2l, 1) := by decide +kernel
theorem d_St_set_28 : decode c_St_set 28 = .ok (.ldc2_w 58, 3) := by decide +kernel
theorem d_St_set_31 : decode c_St_set 31 = .ok (.lmul, 1) := by decide +kernel
theorem d_St_set_32 : decode c_St_set 32 = .ok (.lsub, 1) := by decide +kernel
theorem d_St_set_33 : decode c_St_set 33 = .ok (.aload_n 1, 1) := by decide +kernel
theorem d_St_set_34 : decode c_St_set 34 = .ok (.getfield 60, 3) := by decide +kernel
theorem d_St_set_37 : decode c_St_set 37 = .ok (.i2l, 1) := by decide +kernel
theorem d_St_set_38 : decode c_St_set 38 = .ok (.ldc2_w 58, 3) := by decide +kernel
theorem d_St_set_41 : decode c_St_set 41 = .ok (.lmul, 1) := by decide +kernel
theorem d_St_set_42 : decode c_St_set 42 = .ok (.invokestatic 63, 3) := by decide +kernel
theorem d_St_set_45 : decode c_St_set 45 = .ok (.lstore 4, 2) := by decide +kernel
theorem d_St_set_47 : decode c_St_set 47 = .ok (.aload_n 0, 1) := by decide +kernel
theorem d_St_set_48 : decode c_St_set 48 = .ok (.lload_n 2, 1) := by decide +kernel
theorem d_St_set_49 : decode c_St_set 49 = .ok (.lload 4, 2) := by decide +kernel
theorem d_St_set_51 : decode c_St_set 51 = .ok (.lsub, 1) := by decide +kernel
theorem d_St_set_52 : decode c_St_set 52 = .ok (.ldc2_w 58, 3) := by decide +kernel
theorem d_St_set_55 : decode c_St_set 55 = .ok (.ldiv, 1) := by decide +kernel
theorem d_St_set_56 : decode c_St_set 56 = .ok (.putfield 15, 3) := by decide +kernel
theorem d_St_set_59 : decode c_St_set 59 = .ok (.aload_n 0, 1) := by decide +kernel
theorem d_St_set_60 : decode c_St_set 60 = .ok (.aload_n 1, 1) := by decide +kernel
theorem d_St_set_61 : decode c_St_set 61 = .ok (.lload 4, 2) := by decide +kernel
theorem d_St_set_63 : decode c_St_set 63 = .ok (.ldc2_w 58, 3) := by decide +kernel
theorem d_St_set_66 : decode c_St_set 66 = .ok (.ldiv, 1) := by decide +kernel
theorem d_St_set_67 : decode c_St_set 67 = .ok (.l2i, 1) := by decide +kernel
theorem d_St_set_68 : decode c_St_set 68 = .ok (.invokevirtual 69, 3) := by decide +kernel
theorem d_St_set_71 : decode c_St_set 71 = .ok (.putfield 9, 3) := by decide +kernel
theorem d_St_set_74 : decode c_St_set 74 = .ok (.aload_n 0, 1) := by decide +kernel
theorem d_St_set_75 : decode c_St_set 75 = .ok (.aload_n 1, 1) := by decide +kernel
theorem d_St_set_76 : decode c_St_set 76 = .ok (.getfield 73, 3) := by decide +kernel
theorem d_St_set_79 : decode c_St_set 79 = .ok (.putfield 25, 3) := by decide +kernel
theorem d_St_set_82 : decode c_St_set 82 = .ok (.aload_n 0, 1) := by decide +kernel
theorem d_St_set_83 : decode c_St_set 83 = .ok (.invokevirtual 74, 3) := by decide +kernel
theorem d_St_set_86 : decode c_St_set 86 = .ok (.return_, 1) := by decide +kernel
theorem d_St_stand_0 : decode c_St_stand 0 = .ok (.aload_n 0, 1) := by decide +kernel
theorem d_St_stand_1 : decode c_St_stand 1 = .ok (.iload_n 1, 1) := by decide +kernel
theorem d_St_stand_2 : decode c_St_stand 2 = .ok (.putfield 19, 3) := by decide +kernel
theorem d_St_stand_5 : decode c_St_stand 5 = .ok (.aload_n 0, 1) := by decide +kernel
theorem d_St_stand_6 : decode c_St_stand 6 = .ok (.iload_n 1, 1) := by decide +kernel
theorem d_St_stand_7 : decode c_St_stand 7 = .ok (.putfield 22, 3) := by decide +kernel
theorem d_St_stand_10 : decode c_St_stand 10 = .ok (.aload_n 0, 1) := by decide +kernel
theorem d_St_stand_11 : decode c_St_stand 11 = .ok (.iconst 0, 1) := by decide +kernel
theorem d_St_stand_12 : decode c_St_stand 12 = .ok (.putfield 25, 3) := by decide +kernel
theorem d_St_stand_15 : decode c_St_stand 15 = .ok (.aload_n 0, 1) := by decide +kernel
theorem d_St_stand_16 : decode c_St_stand 16 = .ok (.ldc2_w 77, 3) := by decide +kernel
theorem d_St_stand_19 : decode c_St_stand 19 = .ok (.putfield 28, 3) := by decide +kernel
theorem d_St_stand_22 : decode c_St_stand 22 = .ok (.aload_n 0, 1) := by decide +kernel
theorem d_St_stand_23 : decode c_St_stand 23 = .ok (.ldc2_w 79, 3) := by decide +kernel
theorem d_St_stand_26 : decode c_St_stand 26 = .ok (.putfield 31, 3) := by decide +kernel
theorem d_St_stand_29 : decode c_St_stand 29 = .ok (.aload_n 0, 1) := by decide +kernel
theorem d_St_stand_30 : decode c_St_stand 30 = .ok (.ldc2_w 79, 3) := by decide +kernel
theorem d_St_stand_33 : decode c_St_stand 33 = .ok (.putfield 34, 3) := by decide +kernel
theorem d_St_stand_36 : decode c_St_stand 36 = .ok (.return_, 1) := by decide +kernel
theorem d_St_read_0 : decode c_St_read 0 = .ok (.aload_n 0, 1) := by decide +kernel
theorem d_St_read_1 : decode c_St_read 1 = .ok (.aload_n 0, 1) := by decide +kernel
theorem d_St_read_2 : decode c_St_read 2 = .ok (.getfield 37, 3) := by decide +kernel
theorem d_St_read_5 : decode c_St_read 5 = .ok (.getfield 81, 3) := by decide +kernel
theorem d_St_read_8 : decode c_St_read 8 = .ok (.aload_n 0, 1) := by decide +kernel
theorem d_St_read_9 : decode c_St_read 9 = .ok (.getfield 9, 3) := by decide +kernel
theorem d_St_read_12 : decode c_St_read 12 = .ok (.iaload, 1) := by decide +kernel
theorem d_St_read_13 : decode c_St_read 13 = .ok (.putfield 19, 3) := by decide +kernel
theorem d_St_read_16 : decode c_St_read 16 = .ok (.aload_n 0, 1) := by decide +kernel
theorem d_St_read_17 : decode c_St_read 17 = .ok (.aload_n 0, 1) := by decide +kernel
theorem d_St_read_18 : decode c_St_read 18 = .ok (.getfield 37, 3) := by decide +kernel
theorem d_St_read_21 : decode c_St_read 21 = .ok (.getfield 81, 3) := by decide +kernel
theorem d_St_read_24 : decode c_St_read 24 = .ok (.aload_n 0, 1) := by decide +kernel
theorem d_St_read_25 : decode c_St_read 25 = .ok (.getfield 37, 3) := by decide +kernel
theorem d_St_read_28 : decode c_St_read 28 = .ok (.aload_n 0, 1) := by decide +kernel
theorem d_St_read_29 : decode c_St_read 29 = .ok (.getfield 9, 3) := by decide +kernel
theorem d_St_read_32 : decode c_St_read 32 = .ok (.invokevirtual 85, 3) := by decide +kernel
theorem d_St_read_35 : decode c_St_read 35 = .ok (.iaload, 1) := by decide +kernel
theorem d_St_read_36 : decode c_St_read 36 = .ok (.putfield 22, 3) := by decide +kernel
theorem d_St_read_39 : decode c_St_read 39 = .ok (.aload_n 0, 1) := by decide +kernel
theorem d_St_read_40 : decode c_St_read 40 = .ok (.aload_n 0, 1) := by decide +kernel
theorem d_St_read_41 : decode c_St_read 41 = .ok (.getfield 15, 3) := by decide +kernel
theorem d_St_read_44 : decode c_St_read 44 = .ok (.aload_n 0, 1) := by decide +kernel
theorem d_St_read_45 : decode c_St_read 45 = .ok (.getfield 37, 3) := by decide +kernel
theorem d_St_read_48 : decode c_St_read 48 = .ok (.getfield 88, 3) := by decide +kernel
theorem d_St_read_51 : decode c_St_read 51 = .ok (.aload_n 0, 1) := by decide +kernel
theorem d_St_read_52 : decode c_St_read 52 = .ok (.getfield 9, 3) := by decide +kernel
theorem d_St_read_55 : decode c_St_read 55 = .ok (.iaload, 1) := by decide +kernel
theorem d_St_read_56 : decode c_St_read 56 = .ok (.i2l, 1) := by decide +kernel
theorem d_St_read_57 : decode c_St_read 57 = .ok (.ladd, 1) := by decide +kernel
theorem d_St_read_58 : decode c_St_read 58 = .ok (.putfield 28, 3) := by decide +kernel
theorem d_St_read_61 : decode c_St_read 61 = .ok (.aload_n 0, 1) := by decide +kernel
theorem d_St_read_62 : decode c_St_read 62 = .ok (.aload_n 0, 1) := by decide +kernel
theorem d_St_read_63 : decode c_St_read 63 = .ok (.getfield 15, 3) := by decide +kernel
theorem d_St_read_66 : decode c_St_read 66 = .ok (.aload_n 0, 1) := by decide +kernel
theorem d_St_read_67 : decode c_St_read 67 = .ok (.getfield 37, 3) := by decide +kernel
theorem d_St_read_70 : decode c_St_read 70 = .ok (.getfield 90, 3) := by decide +kernel
theorem d_St_read_73 : decode c_St_read 73 = .ok (.aload_n 0, 1) := by decide +kernel
theorem d_St_read_74 : decode c_St_read 74 = .ok (.getfield 9, 3) := by decide +kernel
theorem d_St_read_77 : decode c_St_read 77 = .ok (.iaload, 1) := by decide +kernel
theorem d_St_read_78 : decode c_St_read 78 = .ok (.i2l, 1) := by decide +kernel
theorem d_St_read_79 : decode c_St_read 79 = .ok (.ladd, 1) := by decide +kernel
theorem d_St_read_80 : decode c_St_read 80 = .ok (.putfield 31, 3) := by decide +kernel
theorem d_St_read_83 : decode c_St_read 83 = .ok (.aload_n 0, 1) := by decide +kernel
theorem d_St_read_84 : decode c_St_read 84 = .ok (.aload_n 0, 1) := by decide +kernel
theorem d_St_read_85 : decode c_St_read 85 = .ok (.getfield 15, 3) := by decide +kernel
theorem d_St_read_88 : decode c_St_read 88 = .ok (.aload_n 0, 1) := by decide +kernel
theorem d_St_read_89 : decode c_St_read 89 = .ok (.getfield 37, 3) := by decide +kernel
theorem d_St_read_92 : decode c_St_read 92 = .ok (.getfield 88, 3) := by decide +kernel
theorem d_St_read_95 : decode c_St_read 95 = .ok (.aload_n 0, 1) := by decide +kernel
theorem d_St_read_96 : decode c_St_read 96 = .ok (.getfield 9, 3) := by decide +kernel
theorem d_St_read_99 : decode c_St_read 99 = .ok (.iconst 1, 1) := by decide +kernel
theorem d_St_read_100 : decode c_St_read 100 = .ok (.iadd, 1) := by decide +kernel
theorem d_St_read_101 : decode c_St_read 101 = .ok (.iaload, 1) := by decide +kernel
theorem d_St_read_102 : decode c_St_read 102 = .ok (.i2l, 1) := by decide +kernel
theorem d_St_read_103 : decode c_St_read 103 = .ok (.ladd, 1) := by decide +kernel
theorem d_St_read_104 : decode c_St_read 104 = .ok (.putfield 34, 3) := by decide +kernel
theorem d_St_read_107 : decode c_St_read 107 = .ok (.return_, 1) := by decide +kernel
theorem d_St_goOn_0 : decode c_St_goOn 0 = .ok (.aload_n 0, 1) := by decide +kernel
theorem d_St_goOn_1 : decode c_St_goOn 1 = .ok (.getfield 37, 3) := by decide +kernel
theorem d_St_goOn_4 : decode c_St_goOn 4 = .ok (.getfield 41, 3) := by decide +kernel
theorem d_St_goOn_7 : decode c_St_goOn 7 = .ok (.iconst 3, 1) := by decide +kernel
theorem d_St_goOn_8 : decode c_St_goOn 8 = .ok (.if_icmp .ne 4, 3) := by decide +kernel
theorem d_St_goOn_11 : decode c_St_goOn 11 = .ok (.return_, 1) := by decide +kernel
theorem d_St_goOn_12 : decode c_St_goOn 12 = .ok (.aload_n 0, 1) := by decide +kernel
theorem d_St_goOn_13 : decode c_St_goOn 13 = .ok (.aload_n 0, 1) := by decide +kernel
theorem d_St_goOn_14 : decode c_St_goOn 14 = .ok (.getfield 37, 3) := by decide +kernel
theorem d_St_goOn_17 : decode c_St_goOn 17 = .ok (.aload_n 0, 1) := by decide +kernel
theorem d_St_goOn_18 : decode c_St_goOn 18 = .ok (.getfield 9, 3) := by decide +kernel
theorem d_St_goOn_21 : decode c_St_goOn 21 = .ok (.invokevirtual 85, 3) := by decide +kernel
theorem d_St_goOn_24 : decode c_St_goOn 24 = .ok (.putfield 9, 3) := by decide +kernel
theorem d_St_goOn_27 : decode c_St_goOn 27 = .ok (.aload_n 0, 1) := by decide +kernel
theorem d_St_goOn_28 : decode c_St_goOn 28 = .ok (.getfield 9, 3) := by decide +kernel
theorem d_St_goOn_31 : decode c_St_goOn 31 = .ok (.ifCond .ne 20, 3) := by decide +kernel
theorem d_St_goOn_34 : decode c_St_goOn 34 = .ok (.aload_n 0, 1) := by decide +kernel
theorem d_St_goOn_35 : decode c_St_goOn 35 = .ok (.dup, 1) := by decide +kernel
theorem d_St_goOn_36 : decode c_St_goOn 36 = .ok (.getfield 15, 3) := by decide +kernel
theorem d_St_goOn_39 : decode c_St_goOn 39 = .ok (.aload_n 0, 1) := by decide +kernel
theorem d_St_goOn_40 : decode c_St_goOn 40 = .ok (.getfield 37, 3) := by decide +kernel
theorem d_St_goOn_43 : decode c_St_goOn 43 = .ok (.getfield 60, 3) := by decide +kernel
theorem d_St_goOn_46 : decode c_St_goOn 46 = .ok (.i2l, 1) := by decide +kernel
theorem d_St_goOn_47 : decode c_St_goOn 47 = .ok (.ladd, 1) := by decide +kernel
theorem d_St_goOn_48 : decode c_St_goOn 48 = .ok (.putfield 15, 3) := by decide +kernel
theorem d_St_goOn_51 : decode c_St_goOn 51 = .ok (.aload_n 0, 1) := by decide +kernel
theorem d_St_goOn_52 : decode c_St_goOn 52 = .ok (.invokevirtual 74, 3) := by decide +kernel
theorem d_St_goOn_55 : decode c_St_goOn 55 = .ok (.return_, 1) := by decide +kernel
