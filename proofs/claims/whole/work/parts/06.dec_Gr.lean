/-! decode rows (by program) -/
theorem d_Gr_init_0 : decode c_Gr_init 0 = .ok (.aload_n 0, 1) := by decide +kernel
theorem d_Gr_init_1 : decode c_Gr_init 1 = .ok (.invokespecial 3, 3) := by decide +kernel
theorem d_Gr_init_4 : decode c_Gr_init 4 = .ok (.aload_n 0, 1) := by decide +kernel
theorem d_Gr_init_5 : decode c_Gr_init 5 = .ok (.iconst 2, 1) := by decide +kernel
theorem d_Gr_init_6 : decode c_Gr_init 6 = .ok (.putfield 9, 3) := by decide +kernel
theorem d_Gr_init_9 : decode c_Gr_init 9 = .ok (.aload_n 0, 1) := by decide +kernel
theorem d_Gr_init_10 : decode c_Gr_init 10 = .ok (.iconst 1, 1) := by decide +kernel
theorem d_Gr_init_11 : decode c_Gr_init 11 = .ok (.putfield 15, 3) := by decide +kernel
theorem d_Gr_init_14 : decode c_Gr_init 14 = .ok (.aload_n 0, 1) := by decide +kernel
theorem d_Gr_init_15 : decode c_Gr_init 15 = .ok (.iconst 0, 1) := by decide +kernel
theorem d_Gr_init_16 : decode c_Gr_init 16 = .ok (.putfield 18, 3) := by decide +kernel
theorem d_Gr_init_19 : decode c_Gr_init 19 = .ok (.aload_n 0, 1) := by decide +kernel
theorem d_Gr_init_20 : decode c_Gr_init 20 = .ok (.iconst 0, 1) := by decide +kernel
theorem d_Gr_init_21 : decode c_Gr_init 21 = .ok (.putfield 21, 3) := by decide +kernel
theorem d_Gr_init_24 : decode c_Gr_init 24 = .ok (.aload_n 0, 1) := by decide +kernel
theorem d_Gr_init_25 : decode c_Gr_init 25 = .ok (.iconst 0, 1) := by decide +kernel
theorem d_Gr_init_26 : decode c_Gr_init 26 = .ok (.putfield 24, 3) := by decide +kernel
theorem d_Gr_init_29 : decode c_Gr_init 29 = .ok (.aload_n 0, 1) := by decide +kernel
theorem d_Gr_init_30 : decode c_Gr_init 30 = .ok (.sipush 256, 3) := by decide +kernel
theorem d_Gr_init_33 : decode c_Gr_init 33 = .ok (.newarray .int, 2) := by decide +kernel
theorem d_Gr_init_35 : decode c_Gr_init 35 = .ok (.putfield 27, 3) := by decide +kernel
theorem d_Gr_init_38 : decode c_Gr_init 38 = .ok (.aload_n 0, 1) := by decide +kernel
theorem d_Gr_init_39 : decode c_Gr_init 39 = .ok (.bipush 16, 2) := by decide +kernel
theorem d_Gr_init_41 : decode c_Gr_init 41 = .ok (.newarray .int, 2) := by decide +kernel
theorem d_Gr_init_43 : decode c_Gr_init 43 = .ok (.putfield 31, 3) := by decide +kernel
theorem d_Gr_init_46 : decode c_Gr_init 46 = .ok (.aload_n 0, 1) := by decide +kernel
theorem d_Gr_init_47 : decode c_Gr_init 47 = .ok (.bipush 16, 2) := by decide +kernel
theorem d_Gr_init_49 : decode c_Gr_init 49 = .ok (.newarray .boolean, 2) := by decide +kernel
theorem d_Gr_init_51 : decode c_Gr_init 51 = .ok (.putfield 34, 3) := by decide +kernel
theorem d_Gr_init_54 : decode c_Gr_init 54 = .ok (.aload_n 0, 1) := by decide +kernel
theorem d_Gr_init_55 : decode c_Gr_init 55 = .ok (.sipush 256, 3) := by decide +kernel
theorem d_Gr_init_58 : decode c_Gr_init 58 = .ok (.newarray .int, 2) := by decide +kernel
theorem d_Gr_init_60 : decode c_Gr_init 60 = .ok (.putfield 38, 3) := by decide +kernel
theorem d_Gr_init_63 : decode c_Gr_init 63 = .ok (.aload_n 0, 1) := by decide +kernel
theorem d_Gr_init_64 : decode c_Gr_init 64 = .ok (.iconst 1, 1) := by decide +kernel
theorem d_Gr_init_65 : decode c_Gr_init 65 = .ok (.putfield 41, 3) := by decide +kernel
theorem d_Gr_init_68 : decode c_Gr_init 68 = .ok (.aload_n 0, 1) := by decide +kernel
theorem d_Gr_init_69 : decode c_Gr_init 69 = .ok (.getfield 31, 3) := by decide +kernel
theorem d_Gr_init_72 : decode c_Gr_init 72 = .ok (.iconst 0, 1) := by decide +kernel
theorem d_Gr_init_73 : decode c_Gr_init 73 = .ok (.iconst 1, 1) := by decide +kernel
theorem d_Gr_init_74 : decode c_Gr_init 74 = .ok (.iastore, 1) := by decide +kernel
theorem d_Gr_init_75 : decode c_Gr_init 75 = .ok (.return_, 1) := by decide +kernel
theorem d_Gr_begin_0 : decode c_Gr_begin 0 = .ok (.aload_n 0, 1) := by decide +kernel
theorem d_Gr_begin_1 : decode c_Gr_begin 1 = .ok (.iload_n 1, 1) := by decide +kernel
theorem d_Gr_begin_2 : decode c_Gr_begin 2 = .ok (.putfield 9, 3) := by decide +kernel
theorem d_Gr_begin_5 : decode c_Gr_begin 5 = .ok (.aload_n 0, 1) := by decide +kernel
theorem d_Gr_begin_6 : decode c_Gr_begin 6 = .ok (.iload_n 2, 1) := by decide +kernel
theorem d_Gr_begin_7 : decode c_Gr_begin 7 = .ok (.putfield 15, 3) := by decide +kernel
theorem d_Gr_begin_10 : decode c_Gr_begin 10 = .ok (.aload_n 0, 1) := by decide +kernel
theorem d_Gr_begin_11 : decode c_Gr_begin 11 = .ok (.iconst 0, 1) := by decide +kernel
theorem d_Gr_begin_12 : decode c_Gr_begin 12 = .ok (.putfield 18, 3) := by decide +kernel
theorem d_Gr_begin_15 : decode c_Gr_begin 15 = .ok (.aload_n 0, 1) := by decide +kernel
theorem d_Gr_begin_16 : decode c_Gr_begin 16 = .ok (.iconst 0, 1) := by decide +kernel
theorem d_Gr_begin_17 : decode c_Gr_begin 17 = .ok (.putfield 21, 3) := by decide +kernel
theorem d_Gr_begin_20 : decode c_Gr_begin 20 = .ok (.iconst 0, 1) := by decide +kernel
theorem d_Gr_begin_21 : decode c_Gr_begin 21 = .ok (.istore_n 3, 1) := by decide +kernel
theorem d_Gr_begin_22 : decode c_Gr_begin 22 = .ok (.iload_n 3, 1) := by decide +kernel
theorem d_Gr_begin_23 : decode c_Gr_begin 23 = .ok (.sipush 256, 3) := by decide +kernel
theorem d_Gr_begin_26 : decode c_Gr_begin 26 = .ok (.if_icmp .ge 16, 3) := by decide +kernel
theorem d_Gr_begin_29 : decode c_Gr_begin 29 = .ok (.aload_n 0, 1) := by decide +kernel
theorem d_Gr_begin_30 : decode c_Gr_begin 30 = .ok (.getfield 27, 3) := by decide +kernel
theorem d_Gr_begin_33 : decode c_Gr_begin 33 = .ok (.iload_n 3, 1) := by decide +kernel
theorem d_Gr_begin_34 : decode c_Gr_begin 34 = .ok (.iconst 0, 1) := by decide +kernel
theorem d_Gr_begin_35 : decode c_Gr_begin 35 = .ok (.iastore, 1) := by decide +kernel
theorem d_Gr_begin_36 : decode c_Gr_begin 36 = .ok (.iinc 3 1, 3) := by decide +kernel
theorem d_Gr_begin_39 : decode c_Gr_begin 39 = .ok (.goto (-17), 3) := by decide +kernel
theorem d_Gr_begin_42 : decode c_Gr_begin 42 = .ok (.iconst 0, 1) := by decide +kernel
theorem d_Gr_begin_43 : decode c_Gr_begin 43 = .ok (.istore_n 3, 1) := by decide +kernel
theorem d_Gr_begin_44 : decode c_Gr_begin 44 = .ok (.iload_n 3, 1) := by decide +kernel
theorem d_Gr_begin_45 : decode c_Gr_begin 45 = .ok (.bipush 16, 2) := by decide +kernel
theorem d_Gr_begin_47 : decode c_Gr_begin 47 = .ok (.if_icmp .ge 23, 3) := by decide +kernel
theorem d_Gr_begin_50 : decode c_Gr_begin 50 = .ok (.aload_n 0, 1) := by decide +kernel
theorem d_Gr_begin_51 : decode c_Gr_begin 51 = .ok (.getfield 31, 3) := by decide +kernel
theorem d_Gr_begin_54 : decode c_Gr_begin 54 = .ok (.iload_n 3, 1) := by decide +kernel
theorem d_Gr_begin_55 : decode c_Gr_begin 55 = .ok (.iconst 1, 1) := by decide +kernel
theorem d_Gr_begin_56 : decode c_Gr_begin 56 = .ok (.iastore, 1) := by decide +kernel
theorem d_Gr_begin_57 : decode c_Gr_begin 57 = .ok (.aload_n 0, 1) := by decide +kernel
theorem d_Gr_begin_58 : decode c_Gr_begin 58 = .ok (.getfield 34, 3) := by decide +kernel
theorem d_Gr_begin_61 : decode c_Gr_begin 61 = .ok (.iload_n 3, 1) := by decide +kernel
theorem d_Gr_begin_62 : decode c_Gr_begin 62 = .ok (.iconst 0, 1) := by decide +kernel
theorem d_Gr_begin_63 : decode c_Gr_begin 63 = .ok (.bastore, 1) := by decide +kernel
theorem d_Gr_begin_64 : decode c_Gr_begin 64 = .ok (.iinc 3 1, 3) := by decide +kernel
theorem d_Gr_begin_67 : decode c_Gr_begin 67 = .ok (.goto (-23), 3) := by decide +kernel
theorem d_Gr_begin_70 : decode c_Gr_begin 70 = .ok (.aload_n 0, 1) := by decide +kernel
theorem d_Gr_begin_71 : decode c_Gr_begin 71 = .ok (.invokevirtual 45, 3) := by decide +kernel
theorem d_Gr_begin_74 : decode c_Gr_begin 74 = .ok (.return_, 1) := by decide +kernel
theorem d_Gr_wallsChanged_0 : decode c_Gr_wallsChanged 0 = .ok (.aload_n 0, 1) := by decide +kernel
theorem d_Gr_wallsChanged_1 : decode c_Gr_wallsChanged 1 = .ok (.iconst 1, 1) := by decide +kernel
theorem d_Gr_wallsChanged_2 : decode c_Gr_wallsChanged 2 = .ok (.putfield 41, 3) := by decide +kernel
theorem d_Gr_wallsChanged_5 : decode c_Gr_wallsChanged 5 = .ok (.aload_n 0, 1) := by decide +kernel
theorem d_Gr_wallsChanged_6 : decode c_Gr_wallsChanged 6 = .ok (.dup, 1) := by decide +kernel
theorem d_Gr_wallsChanged_7 : decode c_Gr_wallsChanged 7 = .ok (.getfield 24, 3) := by decide +kernel
theorem d_Gr_wallsChanged_10 : decode c_Gr_wallsChanged 10 = .ok (.iconst 1, 1) := by decide +kernel
theorem d_Gr_wallsChanged_11 : decode c_Gr_wallsChanged 11 = .ok (.iadd, 1) := by decide +kernel
theorem d_Gr_wallsChanged_12 : decode c_Gr_wallsChanged 12 = .ok (.putfield 24, 3) := by decide +kernel
theorem d_Gr_wallsChanged_15 : decode c_Gr_wallsChanged 15 = .ok (.return_, 1) := by decide +kernel
theorem d_Gr_has_0 : decode c_Gr_has 0 = .ok (.iload_n 1, 1) := by decide +kernel
theorem d_Gr_has_1 : decode c_Gr_has 1 = .ok (.ifCond .lt 15, 3) := by decide +kernel
theorem d_Gr_has_4 : decode c_Gr_has 4 = .ok (.iload_n 1, 1) := by decide +kernel
theorem d_Gr_has_5 : decode c_Gr_has 5 = .ok (.aload_n 0, 1) := by decide +kernel
theorem d_Gr_has_6 : decode c_Gr_has 6 = .ok (.getfield 15, 3) := by decide +kernel
theorem d_Gr_has_9 : decode c_Gr_has 9 = .ok (.if_icmp .ge 7, 3) := by decide +kernel
theorem d_Gr_has_12 : decode c_Gr_has 12 = .ok (.iconst 1, 1) := by decide +kernel
theorem d_Gr_has_13 : decode c_Gr_has 13 = .ok (.goto 4, 3) := by decide +kernel
theorem d_Gr_has_16 : decode c_Gr_has 16 = .ok (.iconst 0, 1) := by decide +kernel
theorem d_Gr_has_17 : decode c_Gr_has 17 = .ok (.ireturn, 1) := by decide +kernel
theorem d_Gr_lengthOf_0 : decode c_Gr_lengthOf 0 = .ok (.aload_n 0, 1) := by decide +kernel
theorem d_Gr_lengthOf_1 : decode c_Gr_lengthOf 1 = .ok (.getfield 27, 3) := by decide +kernel
theorem d_Gr_lengthOf_4 : decode c_Gr_lengthOf 4 = .ok (.iload_n 1, 1) := by decide +kernel
theorem d_Gr_lengthOf_5 : decode c_Gr_lengthOf 5 = .ok (.bipush 16, 2) := by decide +kernel
theorem d_Gr_lengthOf_7 : decode c_Gr_lengthOf 7 = .ok (.imul, 1) := by decide +kernel
theorem d_Gr_lengthOf_8 : decode c_Gr_lengthOf 8 = .ok (.iload_n 2, 1) := by decide +kernel
theorem d_Gr_lengthOf_9 : decode c_Gr_lengthOf 9 = .ok (.iadd, 1) := by decide +kernel
theorem d_Gr_lengthOf_10 : decode c_Gr_lengthOf 10 = .ok (.iaload, 1) := by decide +kernel
theorem d_Gr_lengthOf_11 : decode c_Gr_lengthOf 11 = .ok (.ireturn, 1) := by decide +kernel
theorem d_Gr_setLength_0 : decode c_Gr_setLength 0 = .ok (.aload_n 0, 1) := by decide +kernel
theorem d_Gr_setLength_1 : decode c_Gr_setLength 1 = .ok (.getfield 27, 3) := by decide +kernel
theorem d_Gr_setLength_4 : decode c_Gr_setLength 4 = .ok (.iload_n 1, 1) := by decide +kernel
theorem d_Gr_setLength_5 : decode c_Gr_setLength 5 = .ok (.bipush 16, 2) := by decide +kernel
theorem d_Gr_setLength_7 : decode c_Gr_setLength 7 = .ok (.imul, 1) := by decide +kernel
theorem d_Gr_setLength_8 : decode c_Gr_setLength 8 = .ok (.iload_n 2, 1) := by decide +kernel
theorem d_Gr_setLength_9 : decode c_Gr_setLength 9 = .ok (.iadd, 1) := by decide +kernel
theorem d_Gr_setLength_10 : decode c_Gr_setLength 10 = .ok (.iload_n 3, 1) := by decide +kernel
theorem d_Gr_setLength_11 : decode c_Gr_setLength 11 = .ok (.iastore, 1) := by decide +kernel
theorem d_Gr_setLength_12 : decode c_Gr_setLength 12 = .ok (.aload_n 0, 1) := by decide +kernel
theorem d_Gr_setLength_13 : decode c_Gr_setLength 13 = .ok (.getfield 27, 3) := by decide +kernel
theorem d_Gr_setLength_16 : decode c_Gr_setLength 16 = .ok (.iload_n 2, 1) := by decide +kernel
theorem d_Gr_setLength_17 : decode c_Gr_setLength 17 = .ok (.bipush 16, 2) := by decide +kernel
theorem d_Gr_setLength_19 : decode c_Gr_setLength 19 = .ok (.imul, 1) := by decide +kernel
theorem d_Gr_setLength_20 : decode c_Gr_setLength 20 = .ok (.iload_n 1, 1) := by decide +kernel
theorem d_Gr_setLength_21 : decode c_Gr_setLength 21 = .ok (.iadd, 1) := by decide +kernel
theorem d_Gr_setLength_22 : decode c_Gr_setLength 22 = .ok (.iload_n 3, 1) := by decide +kernel
theorem d_Gr_setLength_23 : decode c_Gr_setLength 23 = .ok (.iastore, 1) := by decide +kernel
theorem d_Gr_setLength_24 : decode c_Gr_setLength 24 = .ok (.aload_n 0, 1) := by decide +kernel
theorem d_Gr_setLength_25 : decode c_Gr_setLength 25 = .ok (.invokevirtual 45, 3) := by decide +kernel
theorem d_Gr_setLength_28 : decode c_Gr_setLength 28 = .ok (.return_, 1) := by decide +kernel
theorem d_Gr_build_0 : decode c_Gr_build 0 = .ok (.aload_n 0, 1) := by decide +kernel
theorem d_Gr_build_1 : decode c_Gr_build 1 = .ok (.iload_n 1, 1) := by decide +kernel
theorem d_Gr_build_2 : decode c_Gr_build 2 = .ok (.iload_n 2, 1) := by decide +kernel
theorem d_Gr_build_3 : decode c_Gr_build 3 = .ok (.iload_n 3, 1) := by decide +kernel
theorem d_Gr_build_4 : decode c_Gr_build 4 = .ok (.invokevirtual 48, 3) := by decide +kernel
theorem d_Gr_build_7 : decode c_Gr_build 7 = .ok (.aload_n 0, 1) := by decide +kernel
theorem d_Gr_build_8 : decode c_Gr_build 8 = .ok (.dup, 1) := by decide +kernel
theorem d_Gr_build_9 : decode c_Gr_build 9 = .ok (.getfield 18, 3) := by decide +kernel
theorem d_Gr_build_12 : decode c_Gr_build 12 = .ok (.iconst 1, 1) := by decide +kernel
theorem d_Gr_build_13 : decode c_Gr_build 13 = .ok (.iadd, 1) := by decide +kernel
theorem d_Gr_build_14 : decode c_Gr_build 14 = .ok (.putfield 18, 3) := by decide +kernel
theorem d_Gr_build_17 : decode c_Gr_build 17 = .ok (.return_, 1) := by decide +kernel
theorem d_Gr_turnBroken_0 : decode c_Gr_turnBroken 0 = .ok (.aload_n 0, 1) := by decide +kernel
theorem d_Gr_turnBroken_1 : decode c_Gr_turnBroken 1 = .ok (.iload_n 1, 1) := by decide +kernel
theorem d_Gr_turnBroken_2 : decode c_Gr_turnBroken 2 = .ok (.iload_n 2, 1) := by decide +kernel
theorem d_Gr_turnBroken_3 : decode c_Gr_turnBroken 3 = .ok (.invokevirtual 52, 3) := by decide +kernel
theorem d_Gr_turnBroken_6 : decode c_Gr_turnBroken 6 = .ok (.istore_n 3, 1) := by decide +kernel
theorem d_Gr_turnBroken_7 : decode c_Gr_turnBroken 7 = .ok (.aload_n 0, 1) := by decide +kernel
theorem d_Gr_turnBroken_8 : decode c_Gr_turnBroken 8 = .ok (.dup, 1) := by decide +kernel
theorem d_Gr_turnBroken_9 : decode c_Gr_turnBroken 9 = .ok (.getfield 21, 3) := by decide +kernel
theorem d_Gr_turnBroken_12 : decode c_Gr_turnBroken 12 = .ok (.iload_n 3, 1) := by decide +kernel
theorem d_Gr_turnBroken_13 : decode c_Gr_turnBroken 13 = .ok (.ifCond .le 7, 3) := by decide +kernel
theorem d_Gr_turnBroken_16 : decode c_Gr_turnBroken 16 = .ok (.iconst 1, 1) := by decide +kernel
theorem d_Gr_turnBroken_17 : decode c_Gr_turnBroken 17 = .ok (.goto 4, 3) := by decide +kernel
theorem d_Gr_turnBroken_20 : decode c_Gr_turnBroken 20 = .ok (.iconst (-1), 1) := by decide +kernel
theorem d_Gr_turnBroken_21 : decode c_Gr_turnBroken 21 = .ok (.iadd, 1) := by decide +kernel
theorem d_Gr_turnBroken_22 : decode c_Gr_turnBroken 22 = .ok (.putfield 21, 3) := by decide +kernel
theorem d_Gr_turnBroken_25 : decode c_Gr_turnBroken 25 = .ok (.aload_n 0, 1) := by decide +kernel
theorem d_Gr_turnBroken_26 : decode c_Gr_turnBroken 26 = .ok (.iload_n 1, 1) := by decide +kernel
theorem d_Gr_turnBroken_27 : decode c_Gr_turnBroken 27 = .ok (.iload_n 2, 1) := by decide +kernel
theorem d_Gr_turnBroken_28 : decode c_Gr_turnBroken 28 = .ok (.iload_n 3, 1) := by decide +kernel
theorem d_Gr_turnBroken_29 : decode c_Gr_turnBroken 29 = .ok (.ineg, 1) := by decide +kernel
theorem d_Gr_turnBroken_30 : decode c_Gr_turnBroken 30 = .ok (.invokevirtual 48, 3) := by decide +kernel
theorem d_Gr_turnBroken_33 : decode c_Gr_turnBroken 33 = .ok (.return_, 1) := by decide +kernel
theorem d_Gr_changeWorth_0 : decode c_Gr_changeWorth 0 = .ok (.aload_n 0, 1) := by decide +kernel
theorem d_Gr_changeWorth_1 : decode c_Gr_changeWorth 1 = .ok (.getfield 31, 3) := by decide +kernel
theorem d_Gr_changeWorth_4 : decode c_Gr_changeWorth 4 = .ok (.iload_n 1, 1) := by decide +kernel
theorem d_Gr_changeWorth_5 : decode c_Gr_changeWorth 5 = .ok (.iaload, 1) := by decide +kernel
theorem d_Gr_changeWorth_6 : decode c_Gr_changeWorth 6 = .ok (.istore_n 3, 1) := by decide +kernel
theorem d_Gr_changeWorth_7 : decode c_Gr_changeWorth 7 = .ok (.aload_n 0, 1) := by decide +kernel
theorem d_Gr_changeWorth_8 : decode c_Gr_changeWorth 8 = .ok (.getfield 31, 3) := by decide +kernel
theorem d_Gr_changeWorth_11 : decode c_Gr_changeWorth 11 = .ok (.iload_n 1, 1) := by decide +kernel
theorem d_Gr_changeWorth_12 : decode c_Gr_changeWorth 12 = .ok (.iload_n 2, 1) := by decide +kernel
theorem d_Gr_changeWorth_13 : decode c_Gr_changeWorth 13 = .ok (.iastore, 1) := by decide +kernel
theorem d_Gr_changeWorth_14 : decode c_Gr_changeWorth 14 = .ok (.aload_n 0, 1) := by decide +kernel
theorem d_Gr_changeWorth_15 : decode c_Gr_changeWorth 15 = .ok (.dup, 1) := by decide +kernel
theorem d_Gr_changeWorth_16 : decode c_Gr_changeWorth 16 = .ok (.getfield 24, 3) := by decide +kernel
theorem d_Gr_changeWorth_19 : decode c_Gr_changeWorth 19 = .ok (.iconst 1, 1) := by decide +kernel
theorem d_Gr_changeWorth_20 : decode c_Gr_changeWorth 20 = .ok (.iadd, 1) := by decide +kernel
theorem d_Gr_changeWorth_21 : decode c_Gr_changeWorth 21 = .ok (.putfield 24, 3) := by decide +kernel
theorem d_Gr_changeWorth_24 : decode c_Gr_changeWorth 24 = .ok (.iload_n 3, 1) := by decide +kernel
theorem d_Gr_changeWorth_25 : decode c_Gr_changeWorth 25 = .ok (.ireturn, 1) := by decide +kernel
theorem d_Gr_changeBase_0 : decode c_Gr_changeBase 0 = .ok (.aload_n 0, 1) := by decide +kernel
theorem d_Gr_changeBase_1 : decode c_Gr_changeBase 1 = .ok (.getfield 34, 3) := by decide +kernel
theorem d_Gr_changeBase_4 : decode c_Gr_changeBase 4 = .ok (.iload_n 1, 1) := by decide +kernel
theorem d_Gr_changeBase_5 : decode c_Gr_changeBase 5 = .ok (.baload, 1) := by decide +kernel
theorem d_Gr_changeBase_6 : decode c_Gr_changeBase 6 = .ok (.istore_n 3, 1) := by decide +kernel
theorem d_Gr_changeBase_7 : decode c_Gr_changeBase 7 = .ok (.aload_n 0, 1) := by decide +kernel
theorem d_Gr_changeBase_8 : decode c_Gr_changeBase 8 = .ok (.getfield 34, 3) := by decide +kernel
theorem d_Gr_changeBase_11 : decode c_Gr_changeBase 11 = .ok (.iload_n 1, 1) := by decide +kernel
theorem d_Gr_changeBase_12 : decode c_Gr_changeBase 12 = .ok (.iload_n 2, 1) := by decide +kernel
theorem d_Gr_changeBase_13 : decode c_Gr_changeBase 13 = .ok (.bastore, 1) := by decide +kernel
theorem d_Gr_changeBase_14 : decode c_Gr_changeBase 14 = .ok (.aload_n 0, 1) := by decide +kernel
theorem d_Gr_changeBase_15 : decode c_Gr_changeBase 15 = .ok (.dup, 1) := by decide +kernel
theorem d_Gr_changeBase_16 : decode c_Gr_changeBase 16 = .ok (.getfield 24, 3) := by decide +kernel
theorem d_Gr_changeBase_19 : decode c_Gr_changeBase 19 = .ok (.iconst 1, 1) := by decide +kernel
theorem d_Gr_changeBase_20 : decode c_Gr_changeBase 20 = .ok (.iadd, 1) := by decide +kernel
theorem d_Gr_changeBase_21 : decode c_Gr_changeBase 21 = .ok (.putfield 24, 3) := by decide +kernel
theorem d_Gr_changeBase_24 : decode c_Gr_changeBase 24 = .ok (.iload_n 3, 1) := by decide +kernel
theorem d_Gr_changeBase_25 : decode c_Gr_changeBase 25 = .ok (.ireturn, 1) := by decide +kernel
theorem d_Gr_worthOf_0 : decode c_Gr_worthOf 0 = .ok (.aload_n 0, 1) := by decide +kernel
theorem d_Gr_worthOf_1 : decode c_Gr_worthOf 1 = .ok (.getfield 31, 3) := by decide +kernel
theorem d_Gr_worthOf_4 : decode c_Gr_worthOf 4 = .ok (.iload_n 1, 1) := by decide +kernel
theorem d_Gr_worthOf_5 : decode c_Gr_worthOf 5 = .ok (.iaload, 1) := by decide +kernel
theorem d_Gr_worthOf_6 : decode c_Gr_worthOf 6 = .ok (.ireturn, 1) := by decide +kernel
theorem d_Gr_isBase_0 : decode c_Gr_isBase 0 = .ok (.aload_n 0, 1) := by decide +kernel
theorem d_Gr_isBase_1 : decode c_Gr_isBase 1 = .ok (.getfield 34, 3) := by decide +kernel
theorem d_Gr_isBase_4 : decode c_Gr_isBase 4 = .ok (.iload_n 1, 1) := by decide +kernel
theorem d_Gr_isBase_5 : decode c_Gr_isBase 5 = .ok (.baload, 1) := by decide +kernel
theorem d_Gr_isBase_6 : decode c_Gr_isBase 6 = .ok (.ireturn, 1) := by decide +kernel
theorem d_Gr_worthy_0 : decode c_Gr_worthy 0 = .ok (.iconst 0, 1) := by decide +kernel
theorem d_Gr_worthy_1 : decode c_Gr_worthy 1 = .ok (.istore_n 1, 1) := by decide +kernel
theorem d_Gr_worthy_2 : decode c_Gr_worthy 2 = .ok (.iconst 0, 1) := by decide +kernel
theorem d_Gr_worthy_3 : decode c_Gr_worthy 3 = .ok (.istore_n 2, 1) := by decide +kernel
theorem d_Gr_worthy_4 : decode c_Gr_worthy 4 = .ok (.iload_n 2, 1) := by decide +kernel
theorem d_Gr_worthy_5 : decode c_Gr_worthy 5 = .ok (.aload_n 0, 1) := by decide +kernel
theorem d_Gr_worthy_6 : decode c_Gr_worthy 6 = .ok (.getfield 15, 3) := by decide +kernel
theorem d_Gr_worthy_9 : decode c_Gr_worthy 9 = .ok (.if_icmp .ge 28, 3) := by decide +kernel
theorem d_Gr_worthy_12 : decode c_Gr_worthy 12 = .ok (.iload_n 1, 1) := by decide +kernel
theorem d_Gr_worthy_13 : decode c_Gr_worthy 13 = .ok (.aload_n 0, 1) := by decide +kernel
theorem d_Gr_worthy_14 : decode c_Gr_worthy 14 = .ok (.getfield 31, 3) := by decide +kernel
theorem d_Gr_worthy_17 : decode c_Gr_worthy 17 = .ok (.iload_n 2, 1) := by decide +kernel
theorem d_Gr_worthy_18 : decode c_Gr_worthy 18 = .ok (.iaload, 1) := by decide +kernel
theorem d_Gr_worthy_19 : decode c_Gr_worthy 19 = .ok (.ifCond .le 9, 3) := by decide +kernel
theorem d_Gr_worthy_22 : decode c_Gr_worthy 22 = .ok (.iconst 1, 1) := by decide +kernel
theorem d_Gr_worthy_23 : decode c_Gr_worthy 23 = .ok (.iload_n 2, 1) := by decide +kernel
theorem d_Gr_worthy_24 : decode c_Gr_worthy 24 = .ok (.ishl, 1) := by decide +kernel
theorem d_Gr_worthy_25 : decode c_Gr_worthy 25 = .ok (.goto 4, 3) := by decide +kernel
theorem d_Gr_worthy_28 : decode c_Gr_worthy 28 = .ok (.iconst 0, 1) := by decide +kernel
theorem d_Gr_worthy_29 : decode c_Gr_worthy 29 = .ok (.ior, 1) := by decide +kernel
theorem d_Gr_worthy_30 : decode c_Gr_worthy 30 = .ok (.istore_n 1, 1) := by decide +kernel
theorem d_Gr_worthy_31 : decode c_Gr_worthy 31 = .ok (.iinc 2 1, 3) := by decide +kernel
theorem d_Gr_worthy_34 : decode c_Gr_worthy 34 = .ok (.goto (-30), 3) := by decide +kernel
theorem d_Gr_worthy_37 : decode c_Gr_worthy 37 = .ok (.iload_n 1, 1) := by decide +kernel
theorem d_Gr_worthy_38 : decode c_Gr_worthy 38 = .ok (.ireturn, 1) := by decide +kernel
theorem d_Gr_farOf_0 : decode c_Gr_farOf 0 = .ok (.aload_n 0, 1) := by decide +kernel
theorem d_Gr_farOf_1 : decode c_Gr_farOf 1 = .ok (.getfield 38, 3) := by decide +kernel
theorem d_Gr_farOf_4 : decode c_Gr_farOf 4 = .ok (.iload_n 1, 1) := by decide +kernel
theorem d_Gr_farOf_5 : decode c_Gr_farOf 5 = .ok (.bipush 16, 2) := by decide +kernel
theorem d_Gr_farOf_7 : decode c_Gr_farOf 7 = .ok (.imul, 1) := by decide +kernel
theorem d_Gr_farOf_8 : decode c_Gr_farOf 8 = .ok (.iload_n 2, 1) := by decide +kernel
theorem d_Gr_farOf_9 : decode c_Gr_farOf 9 = .ok (.iadd, 1) := by decide +kernel
theorem d_Gr_farOf_10 : decode c_Gr_farOf 10 = .ok (.iaload, 1) := by decide +kernel
theorem d_Gr_farOf_11 : decode c_Gr_farOf 11 = .ok (.istore_n 3, 1) := by decide +kernel
theorem d_Gr_farOf_12 : decode c_Gr_farOf 12 = .ok (.iload_n 3, 1) := by decide +kernel
theorem d_Gr_farOf_13 : decode c_Gr_farOf 13 = .ok (.ldc 56, 2) := by decide +kernel
theorem d_Gr_farOf_15 : decode c_Gr_farOf 15 = .ok (.if_icmp .ge 7, 3) := by decide +kernel
theorem d_Gr_farOf_18 : decode c_Gr_farOf 18 = .ok (.iload_n 3, 1) := by decide +kernel
theorem d_Gr_farOf_19 : decode c_Gr_farOf 19 = .ok (.goto 5, 3) := by decide +kernel
theorem d_Gr_farOf_22 : decode c_Gr_farOf 22 = .ok (.bipush (-9), 2) := by decide +kernel
theorem d_Gr_farOf_24 : decode c_Gr_farOf 24 = .ok (.ireturn, 1) := by decide +kernel
theorem d_Gr_measure_0 : decode c_Gr_measure 0 = .ok (.aload_n 0, 1) := by decide +kernel
theorem d_Gr_measure_1 : decode c_Gr_measure 1 = .ok (.getfield 41, 3) := by decide +kernel
theorem d_Gr_measure_4 : decode c_Gr_measure 4 = .ok (.ifCond .ne 4, 3) := by decide +kernel
theorem d_Gr_measure_7 : decode c_Gr_measure 7 = .ok (.return_, 1) := by decide +kernel
theorem d_Gr_measure_8 : decode c_Gr_measure 8 = .ok (.iconst 0, 1) := by decide +kernel
theorem d_Gr_measure_9 : decode c_Gr_measure 9 = .ok (.istore_n 1, 1) := by decide +kernel
theorem d_Gr_measure_10 : decode c_Gr_measure 10 = .ok (.iload_n 1, 1) := by decide +kernel
theorem d_Gr_measure_11 : decode c_Gr_measure 11 = .ok (.aload_n 0, 1) := by decide +kernel
theorem d_Gr_measure_12 : decode c_Gr_measure 12 = .ok (.getfield 15, 3) := by decide +kernel
theorem d_Gr_measure_15 : decode c_Gr_measure 15 = .ok (.if_icmp .ge 62, 3) := by decide +kernel
theorem d_Gr_measure_18 : decode c_Gr_measure 18 = .ok (.iconst 0, 1) := by decide +kernel
theorem d_Gr_measure_19 : decode c_Gr_measure 19 = .ok (.istore_n 2, 1) := by decide +kernel
theorem d_Gr_measure_20 : decode c_Gr_measure 20 = .ok (.iload_n 2, 1) := by decide +kernel
theorem d_Gr_measure_21 : decode c_Gr_measure 21 = .ok (.aload_n 0, 1) := by decide +kernel
theorem d_Gr_measure_22 : decode c_Gr_measure 22 = .ok (.getfield 15, 3) := by decide +kernel
theorem d_Gr_measure_25 : decode c_Gr_measure 25 = .ok (.if_icmp .ge 46, 3) := by decide +kernel
theorem d_Gr_measure_28 : decode c_Gr_measure 28 = .ok (.aload_n 0, 1) := by decide +kernel
theorem d_Gr_measure_29 : decode c_Gr_measure 29 = .ok (.iload_n 1, 1) := by decide +kernel
theorem d_Gr_measure_30 : decode c_Gr_measure 30 = .ok (.iload_n 2, 1) := by decide +kernel
theorem d_Gr_measure_31 : decode c_Gr_measure 31 = .ok (.invokevirtual 52, 3) := by decide +kernel
theorem d_Gr_measure_34 : decode c_Gr_measure 34 = .ok (.istore_n 3, 1) := by decide +kernel
theorem d_Gr_measure_35 : decode c_Gr_measure 35 = .ok (.aload_n 0, 1) := by decide +kernel
theorem d_Gr_measure_36 : decode c_Gr_measure 36 = .ok (.getfield 38, 3) := by decide +kernel
theorem d_Gr_measure_39 : decode c_Gr_measure 39 = .ok (.iload_n 1, 1) := by decide +kernel
theorem d_Gr_measure_40 : decode c_Gr_measure 40 = .ok (.bipush 16, 2) := by decide +kernel
theorem d_Gr_measure_42 : decode c_Gr_measure 42 = .ok (.imul, 1) := by decide +kernel
theorem d_Gr_measure_43 : decode c_Gr_measure 43 = .ok (.iload_n 2, 1) := by decide +kernel
theorem d_Gr_measure_44 : decode c_Gr_measure 44 = .ok (.iadd, 1) := by decide +kernel
theorem d_Gr_measure_45 : decode c_Gr_measure 45 = .ok (.iload_n 1, 1) := by decide +kernel
theorem d_Gr_measure_46 : decode c_Gr_measure 46 = .ok (.iload_n 2, 1) := by decide +kernel
theorem d_Gr_measure_47 : decode c_Gr_measure 47 = .ok (.if_icmp .ne 7, 3) := by decide +kernel
theorem d_Gr_measure_50 : decode c_Gr_measure 50 = .ok (.iconst 0, 1) := by decide +kernel
theorem d_Gr_measure_51 : decode c_Gr_measure 51 = .ok (.goto 13, 3) := by decide +kernel
theorem d_Gr_measure_54 : decode c_Gr_measure 54 = .ok (.iload_n 3, 1) := by decide +kernel
theorem d_Gr_measure_55 : decode c_Gr_measure 55 = .ok (.ifCond .le 7, 3) := by decide +kernel
theorem d_Gr_measure_58 : decode c_Gr_measure 58 = .ok (.iload_n 3, 1) := by decide +kernel
theorem d_Gr_measure_59 : decode c_Gr_measure 59 = .ok (.goto 5, 3) := by decide +kernel
theorem d_Gr_measure_62 : decode c_Gr_measure 62 = .ok (.ldc 56, 2) := by decide +kernel
theorem d_Gr_measure_64 : decode c_Gr_measure 64 = .ok (.iastore, 1) := by decide +kernel
theorem d_Gr_measure_65 : decode c_Gr_measure 65 = .ok (.iinc 2 1, 3) := by decide +kernel
theorem d_Gr_measure_68 : decode c_Gr_measure 68 = .ok (.goto (-48), 3) := by decide +kernel
theorem d_Gr_measure_71 : decode c_Gr_measure 71 = .ok (.iinc 1 1, 3) := by decide +kernel
theorem d_Gr_measure_74 : decode c_Gr_measure 74 = .ok (.goto (-64), 3) := by decide +kernel
theorem d_Gr_measure_77 : decode c_Gr_measure 77 = .ok (.iconst 0, 1) := by decide +kernel
theorem d_Gr_measure_78 : decode c_Gr_measure 78 = .ok (.istore_n 1, 1) := by decide +kernel
theorem d_Gr_measure_79 : decode c_Gr_measure 79 = .ok (.iload_n 1, 1) := by decide +kernel
theorem d_Gr_measure_80 : decode c_Gr_measure 80 = .ok (.aload_n 0, 1) := by decide +kernel
theorem d_Gr_measure_81 : decode c_Gr_measure 81 = .ok (.getfield 15, 3) := by decide +kernel
theorem d_Gr_measure_84 : decode c_Gr_measure 84 = .ok (.if_icmp .ge 52, 3) := by decide +kernel
theorem d_Gr_measure_87 : decode c_Gr_measure 87 = .ok (.iconst 0, 1) := by decide +kernel
theorem d_Gr_measure_88 : decode c_Gr_measure 88 = .ok (.istore_n 2, 1) := by decide +kernel
theorem d_Gr_measure_89 : decode c_Gr_measure 89 = .ok (.iload_n 2, 1) := by decide +kernel
theorem d_Gr_measure_90 : decode c_Gr_measure 90 = .ok (.aload_n 0, 1) := by decide +kernel
theorem d_Gr_measure_91 : decode c_Gr_measure 91 = .ok (.getfield 15, 3) := by decide +kernel
theorem d_Gr_measure_94 : decode c_Gr_measure 94 = .ok (.if_icmp .ge 36, 3) := by decide +kernel
theorem d_Gr_measure_97 : decode c_Gr_measure 97 = .ok (.iload_n 2, 1) := by decide +kernel
theorem d_Gr_measure_98 : decode c_Gr_measure 98 = .ok (.iload_n 1, 1) := by decide +kernel
theorem d_Gr_measure_99 : decode c_Gr_measure 99 = .ok (.if_icmp .eq 25, 3) := by decide +kernel
theorem d_Gr_measure_102 : decode c_Gr_measure 102 = .ok (.aload_n 0, 1) := by decide +kernel
theorem d_Gr_measure_103 : decode c_Gr_measure 103 = .ok (.getfield 38, 3) := by decide +kernel
theorem d_Gr_measure_106 : decode c_Gr_measure 106 = .ok (.iload_n 2, 1) := by decide +kernel
theorem d_Gr_measure_107 : decode c_Gr_measure 107 = .ok (.bipush 16, 2) := by decide +kernel
theorem d_Gr_measure_109 : decode c_Gr_measure 109 = .ok (.imul, 1) := by decide +kernel
theorem d_Gr_measure_110 : decode c_Gr_measure 110 = .ok (.iload_n 1, 1) := by decide +kernel
theorem d_Gr_measure_111 : decode c_Gr_measure 111 = .ok (.iadd, 1) := by decide +kernel
theorem d_Gr_measure_112 : decode c_Gr_measure 112 = .ok (.iaload, 1) := by decide +kernel
theorem d_Gr_measure_113 : decode c_Gr_measure 113 = .ok (.ldc 56, 2) := by decide +kernel
theorem d_Gr_measure_115 : decode c_Gr_measure 115 = .ok (.if_icmp .ge 9, 3) := by decide +kernel
theorem d_Gr_measure_118 : decode c_Gr_measure 118 = .ok (.aload_n 0, 1) := by decide +kernel
theorem d_Gr_measure_119 : decode c_Gr_measure 119 = .ok (.iload_n 1, 1) := by decide +kernel
theorem d_Gr_measure_120 : decode c_Gr_measure 120 = .ok (.iload_n 2, 1) := by decide +kernel
theorem d_Gr_measure_121 : decode c_Gr_measure 121 = .ok (.invokevirtual 57, 3) := by decide +kernel
theorem d_Gr_measure_124 : decode c_Gr_measure 124 = .ok (.iinc 2 1, 3) := by decide +kernel
theorem d_Gr_measure_127 : decode c_Gr_measure 127 = .ok (.goto (-38), 3) := by decide +kernel
theorem d_Gr_measure_130 : decode c_Gr_measure 130 = .ok (.iinc 1 1, 3) := by decide +kernel
theorem d_Gr_measure_133 : decode c_Gr_measure 133 = .ok (.goto (-54), 3) := by decide +kernel
theorem d_Gr_measure_136 : decode c_Gr_measure 136 = .ok (.aload_n 0, 1) := by decide +kernel
theorem d_Gr_measure_137 : decode c_Gr_measure 137 = .ok (.iconst 0, 1) := by decide +kernel
theorem d_Gr_measure_138 : decode c_Gr_measure 138 = .ok (.putfield 41, 3) := by decide +kernel
theorem d_Gr_measure_141 : decode c_Gr_measure 141 = .ok (.return_, 1) := by decide +kernel
theorem d_Gr_shortenBy_0 : decode c_Gr_shortenBy 0 = .ok (.aload_n 0, 1) := by decide +kernel
theorem d_Gr_shortenBy_1 : decode c_Gr_shortenBy 1 = .ok (.getfield 38, 3) := by decide +kernel
theorem d_Gr_shortenBy_4 : decode c_Gr_shortenBy 4 = .ok (.iload_n 2, 1) := by decide +kernel
theorem d_Gr_shortenBy_5 : decode c_Gr_shortenBy 5 = .ok (.bipush 16, 2) := by decide +kernel
theorem d_Gr_shortenBy_7 : decode c_Gr_shortenBy 7 = .ok (.imul, 1) := by decide +kernel
theorem d_Gr_shortenBy_8 : decode c_Gr_shortenBy 8 = .ok (.iload_n 1, 1) := by decide +kernel
theorem d_Gr_shortenBy_9 : decode c_Gr_shortenBy 9 = .ok (.iadd, 1) := by decide +kernel
theorem d_Gr_shortenBy_10 : decode c_Gr_shortenBy 10 = .ok (.iaload, 1) := by decide +kernel
theorem d_Gr_shortenBy_11 : decode c_Gr_shortenBy 11 = .ok (.istore_n 3, 1) := by decide +kernel
theorem d_Gr_shortenBy_12 : decode c_Gr_shortenBy 12 = .ok (.iconst 0, 1) := by decide +kernel
theorem d_Gr_shortenBy_13 : decode c_Gr_shortenBy 13 = .ok (.istore 4, 2) := by decide +kernel
theorem d_Gr_shortenBy_15 : decode c_Gr_shortenBy 15 = .ok (.iload 4, 2) := by decide +kernel
theorem d_Gr_shortenBy_17 : decode c_Gr_shortenBy 17 = .ok (.aload_n 0, 1) := by decide +kernel
theorem d_Gr_shortenBy_18 : decode c_Gr_shortenBy 18 = .ok (.getfield 15, 3) := by decide +kernel
theorem d_Gr_shortenBy_21 : decode c_Gr_shortenBy 21 = .ok (.if_icmp .ge 56, 3) := by decide +kernel
theorem d_Gr_shortenBy_24 : decode c_Gr_shortenBy 24 = .ok (.iload_n 3, 1) := by decide +kernel
theorem d_Gr_shortenBy_25 : decode c_Gr_shortenBy 25 = .ok (.aload_n 0, 1) := by decide +kernel
theorem d_Gr_shortenBy_26 : decode c_Gr_shortenBy 26 = .ok (.getfield 38, 3) := by decide +kernel
theorem d_Gr_shortenBy_29 : decode c_Gr_shortenBy 29 = .ok (.iload_n 1, 1) := by decide +kernel
theorem d_Gr_shortenBy_30 : decode c_Gr_shortenBy 30 = .ok (.bipush 16, 2) := by decide +kernel
theorem d_Gr_shortenBy_32 : decode c_Gr_shortenBy 32 = .ok (.imul, 1) := by decide +kernel
theorem d_Gr_shortenBy_33 : decode c_Gr_shortenBy 33 = .ok (.iload 4, 2) := by decide +kernel
theorem d_Gr_shortenBy_35 : decode c_Gr_shortenBy 35 = .ok (.iadd, 1) := by decide +kernel
theorem d_Gr_shortenBy_36 : decode c_Gr_shortenBy 36 = .ok (.iaload, 1) := by decide +kernel
theorem d_Gr_shortenBy_37 : decode c_Gr_shortenBy 37 = .ok (.iadd, 1) := by decide +kernel
theorem d_Gr_shortenBy_38 : decode c_Gr_shortenBy 38 = .ok (.istore 5, 2) := by decide +kernel
theorem d_Gr_shortenBy_40 : decode c_Gr_shortenBy 40 = .ok (.iload 5, 2) := by decide +kernel
theorem d_Gr_shortenBy_42 : decode c_Gr_shortenBy 42 = .ok (.aload_n 0, 1) := by decide +kernel
theorem d_Gr_shortenBy_43 : decode c_Gr_shortenBy 43 = .ok (.getfield 38, 3) := by decide +kernel
theorem d_Gr_shortenBy_46 : decode c_Gr_shortenBy 46 = .ok (.iload_n 2, 1) := by decide +kernel
theorem d_Gr_shortenBy_47 : decode c_Gr_shortenBy 47 = .ok (.bipush 16, 2) := by decide +kernel
theorem d_Gr_shortenBy_49 : decode c_Gr_shortenBy 49 = .ok (.imul, 1) := by decide +kernel
theorem d_Gr_shortenBy_50 : decode c_Gr_shortenBy 50 = .ok (.iload 4, 2) := by decide +kernel
theorem d_Gr_shortenBy_52 : decode c_Gr_shortenBy 52 = .ok (.iadd, 1) := by decide +kernel
theorem d_Gr_shortenBy_53 : decode c_Gr_shortenBy 53 = .ok (.iaload, 1) := by decide +kernel
theorem d_Gr_shortenBy_54 : decode c_Gr_shortenBy 54 = .ok (.if_icmp .ge 17, 3) := by decide +kernel
theorem d_Gr_shortenBy_57 : decode c_Gr_shortenBy 57 = .ok (.aload_n 0, 1) := by decide +kernel
theorem d_Gr_shortenBy_58 : decode c_Gr_shortenBy 58 = .ok (.getfield 38, 3) := by decide +kernel
theorem d_Gr_shortenBy_61 : decode c_Gr_shortenBy 61 = .ok (.iload_n 2, 1) := by decide +kernel
theorem d_Gr_shortenBy_62 : decode c_Gr_shortenBy 62 = .ok (.bipush 16, 2) := by decide +kernel
theorem d_Gr_shortenBy_64 : decode c_Gr_shortenBy 64 = .ok (.imul, 1) := by decide +kernel
theorem d_Gr_shortenBy_65 : decode c_Gr_shortenBy 65 = .ok (.iload 4, 2) := by decide +kernel
theorem d_Gr_shortenBy_67 : decode c_Gr_shortenBy 67 = .ok (.iadd, 1) := by decide +kernel
theorem d_Gr_shortenBy_68 : decode c_Gr_shortenBy 68 = .ok (.iload 5, 2) := by decide +kernel
theorem d_Gr_shortenBy_70 : decode c_Gr_shortenBy 70 = .ok (.iastore, 1) := by decide +kernel
theorem d_Gr_shortenBy_71 : decode c_Gr_shortenBy 71 = .ok (.iinc 4 1, 3) := by decide +kernel
theorem d_Gr_shortenBy_74 : decode c_Gr_shortenBy 74 = .ok (.goto (-59), 3) := by decide +kernel
theorem d_Gr_shortenBy_77 : decode c_Gr_shortenBy 77 = .ok (.return_, 1) := by decide +kernel
theorem d_Gr_within_0 : decode c_Gr_within 0 = .ok (.iload_n 2, 1) := by decide +kernel
theorem d_Gr_within_1 : decode c_Gr_within 1 = .ok (.iconst 1, 1) := by decide +kernel
theorem d_Gr_within_2 : decode c_Gr_within 2 = .ok (.if_icmp .ge 7, 3) := by decide +kernel
theorem d_Gr_within_5 : decode c_Gr_within 5 = .ok (.iconst 1, 1) := by decide +kernel
theorem d_Gr_within_6 : decode c_Gr_within 6 = .ok (.iload_n 1, 1) := by decide +kernel
theorem d_Gr_within_7 : decode c_Gr_within 7 = .ok (.ishl, 1) := by decide +kernel
theorem d_Gr_within_8 : decode c_Gr_within 8 = .ok (.ireturn, 1) := by decide +kernel
theorem d_Gr_within_9 : decode c_Gr_within 9 = .ok (.iconst 0, 1) := by decide +kernel
theorem d_Gr_within_10 : decode c_Gr_within 10 = .ok (.istore_n 3, 1) := by decide +kernel
theorem d_Gr_within_11 : decode c_Gr_within 11 = .ok (.iconst 0, 1) := by decide +kernel
theorem d_Gr_within_12 : decode c_Gr_within 12 = .ok (.istore 4, 2) := by decide +kernel
theorem d_Gr_within_14 : decode c_Gr_within 14 = .ok (.iload 4, 2) := by decide +kernel
theorem d_Gr_within_16 : decode c_Gr_within 16 = .ok (.aload_n 0, 1) := by decide +kernel
theorem d_Gr_within_17 : decode c_Gr_within 17 = .ok (.getfield 15, 3) := by decide +kernel
theorem d_Gr_within_20 : decode c_Gr_within 20 = .ok (.if_icmp .ge 40, 3) := by decide +kernel
theorem d_Gr_within_23 : decode c_Gr_within 23 = .ok (.aload_n 0, 1) := by decide +kernel
theorem d_Gr_within_24 : decode c_Gr_within 24 = .ok (.iload_n 1, 1) := by decide +kernel
theorem d_Gr_within_25 : decode c_Gr_within 25 = .ok (.iload 4, 2) := by decide +kernel
theorem d_Gr_within_27 : decode c_Gr_within 27 = .ok (.invokevirtual 61, 3) := by decide +kernel
theorem d_Gr_within_30 : decode c_Gr_within 30 = .ok (.istore 5, 2) := by decide +kernel
theorem d_Gr_within_32 : decode c_Gr_within 32 = .ok (.iload_n 3, 1) := by decide +kernel
theorem d_Gr_within_33 : decode c_Gr_within 33 = .ok (.iload 5, 2) := by decide +kernel
theorem d_Gr_within_35 : decode c_Gr_within 35 = .ok (.ifCond .lt 16, 3) := by decide +kernel
theorem d_Gr_within_38 : decode c_Gr_within 38 = .ok (.iload 5, 2) := by decide +kernel
theorem d_Gr_within_40 : decode c_Gr_within 40 = .ok (.iload_n 2, 1) := by decide +kernel
theorem d_Gr_within_41 : decode c_Gr_within 41 = .ok (.if_icmp .gt 10, 3) := by decide +kernel
theorem d_Gr_within_44 : decode c_Gr_within 44 = .ok (.iconst 1, 1) := by decide +kernel
theorem d_Gr_within_45 : decode c_Gr_within 45 = .ok (.iload 4, 2) := by decide +kernel
theorem d_Gr_within_47 : decode c_Gr_within 47 = .ok (.ishl, 1) := by decide +kernel
theorem d_Gr_within_48 : decode c_Gr_within 48 = .ok (.goto 4, 3) := by decide +kernel
theorem d_Gr_within_51 : decode c_Gr_within 51 = .ok (.iconst 0, 1) := by decide +kernel
theorem d_Gr_within_52 : decode c_Gr_within 52 = .ok (.ior, 1) := by decide +kernel
theorem d_Gr_within_53 : decode c_Gr_within 53 = .ok (.istore_n 3, 1) := by decide +kernel
theorem d_Gr_within_54 : decode c_Gr_within 54 = .ok (.iinc 4 1, 3) := by decide +kernel
theorem d_Gr_within_57 : decode c_Gr_within 57 = .ok (.goto (-43), 3) := by decide +kernel
theorem d_Gr_within_60 : decode c_Gr_within 60 = .ok (.iload_n 3, 1) := by decide +kernel
theorem d_Gr_within_61 : decode c_Gr_within 61 = .ok (.ireturn, 1) := by decide +kernel
theorem d_Gr_mixInto_0 : decode c_Gr_mixInto 0 = .ok (.lload_n 1, 1) := by decide +kernel
theorem d_Gr_mixInto_1 : decode c_Gr_mixInto 1 = .ok (.lstore_n 3, 1) := by decide +kernel
theorem d_Gr_mixInto_2 : decode c_Gr_mixInto 2 = .ok (.iconst 0, 1) := by decide +kernel
theorem d_Gr_mixInto_3 : decode c_Gr_mixInto 3 = .ok (.istore 5, 2) := by decide +kernel
theorem d_Gr_mixInto_5 : decode c_Gr_mixInto 5 = .ok (.iload 5, 2) := by decide +kernel
theorem d_Gr_mixInto_7 : decode c_Gr_mixInto 7 = .ok (.aload_n 0, 1) := by decide +kernel
theorem d_Gr_mixInto_8 : decode c_Gr_mixInto 8 = .ok (.getfield 15, 3) := by decide +kernel
theorem d_Gr_mixInto_11 : decode c_Gr_mixInto 11 = .ok (.if_icmp .ge 46, 3) := by decide +kernel
theorem d_Gr_mixInto_14 : decode c_Gr_mixInto 14 = .ok (.iload 5, 2) := by decide +kernel
theorem d_Gr_mixInto_16 : decode c_Gr_mixInto 16 = .ok (.iconst 1, 1) := by decide +kernel
theorem d_Gr_mixInto_17 : decode c_Gr_mixInto 17 = .ok (.iadd, 1) := by decide +kernel
theorem d_Gr_mixInto_18 : decode c_Gr_mixInto 18 = .ok (.istore 6, 2) := by decide +kernel
theorem d_Gr_mixInto_20 : decode c_Gr_mixInto 20 = .ok (.iload 6, 2) := by decide +kernel
theorem d_Gr_mixInto_22 : decode c_Gr_mixInto 22 = .ok (.aload_n 0, 1) := by decide +kernel
theorem d_Gr_mixInto_23 : decode c_Gr_mixInto 23 = .ok (.getfield 15, 3) := by decide +kernel
theorem d_Gr_mixInto_26 : decode c_Gr_mixInto 26 = .ok (.if_icmp .ge 25, 3) := by decide +kernel
theorem d_Gr_mixInto_29 : decode c_Gr_mixInto 29 = .ok (.ldc2_w 64, 3) := by decide +kernel
theorem d_Gr_mixInto_32 : decode c_Gr_mixInto 32 = .ok (.lload_n 3, 1) := by decide +kernel
theorem d_Gr_mixInto_33 : decode c_Gr_mixInto 33 = .ok (.lmul, 1) := by decide +kernel
theorem d_Gr_mixInto_34 : decode c_Gr_mixInto 34 = .ok (.aload_n 0, 1) := by decide +kernel
theorem d_Gr_mixInto_35 : decode c_Gr_mixInto 35 = .ok (.iload 5, 2) := by decide +kernel
theorem d_Gr_mixInto_37 : decode c_Gr_mixInto 37 = .ok (.iload 6, 2) := by decide +kernel
theorem d_Gr_mixInto_39 : decode c_Gr_mixInto 39 = .ok (.invokevirtual 52, 3) := by decide +kernel
theorem d_Gr_mixInto_42 : decode c_Gr_mixInto 42 = .ok (.i2l, 1) := by decide +kernel
theorem d_Gr_mixInto_43 : decode c_Gr_mixInto 43 = .ok (.ladd, 1) := by decide +kernel
theorem d_Gr_mixInto_44 : decode c_Gr_mixInto 44 = .ok (.lstore_n 3, 1) := by decide +kernel
theorem d_Gr_mixInto_45 : decode c_Gr_mixInto 45 = .ok (.iinc 6 1, 3) := by decide +kernel
theorem d_Gr_mixInto_48 : decode c_Gr_mixInto 48 = .ok (.goto (-28), 3) := by decide +kernel
theorem d_Gr_mixInto_51 : decode c_Gr_mixInto 51 = .ok (.iinc 5 1, 3) := by decide +kernel
theorem d_Gr_mixInto_54 : decode c_Gr_mixInto 54 = .ok (.goto (-49), 3) := by decide +kernel
theorem d_Gr_mixInto_57 : decode c_Gr_mixInto 57 = .ok (.iconst 0, 1) := by decide +kernel
theorem d_Gr_mixInto_58 : decode c_Gr_mixInto 58 = .ok (.istore 5, 2) := by decide +kernel
theorem d_Gr_mixInto_60 : decode c_Gr_mixInto 60 = .ok (.iload 5, 2) := by decide +kernel
theorem d_Gr_mixInto_62 : decode c_Gr_mixInto 62 = .ok (.aload_n 0, 1) := by decide +kernel
theorem d_Gr_mixInto_63 : decode c_Gr_mixInto 63 = .ok (.getfield 15, 3) := by decide +kernel
theorem d_Gr_mixInto_66 : decode c_Gr_mixInto 66 = .ok (.if_icmp .ge 42, 3) := by decide +kernel
theorem d_Gr_mixInto_69 : decode c_Gr_mixInto 69 = .ok (.ldc2_w 64, 3) := by decide +kernel
theorem d_Gr_mixInto_72 : decode c_Gr_mixInto 72 = .ok (.lload_n 3, 1) := by decide +kernel
theorem d_Gr_mixInto_73 : decode c_Gr_mixInto 73 = .ok (.lmul, 1) := by decide +kernel
theorem d_Gr_mixInto_74 : decode c_Gr_mixInto 74 = .ok (.aload_n 0, 1) := by decide +kernel
theorem d_Gr_mixInto_75 : decode c_Gr_mixInto 75 = .ok (.getfield 31, 3) := by decide +kernel
theorem d_Gr_mixInto_78 : decode c_Gr_mixInto 78 = .ok (.iload 5, 2) := by decide +kernel
theorem d_Gr_mixInto_80 : decode c_Gr_mixInto 80 = .ok (.iaload, 1) := by decide +kernel
theorem d_Gr_mixInto_81 : decode c_Gr_mixInto 81 = .ok (.i2l, 1) := by decide +kernel
theorem d_Gr_mixInto_82 : decode c_Gr_mixInto 82 = .ok (.ladd, 1) := by decide +kernel
theorem d_Gr_mixInto_83 : decode c_Gr_mixInto 83 = .ok (.aload_n 0, 1) := by decide +kernel
theorem d_Gr_mixInto_84 : decode c_Gr_mixInto 84 = .ok (.getfield 34, 3) := by decide +kernel
theorem d_Gr_mixInto_87 : decode c_Gr_mixInto 87 = .ok (.iload 5, 2) := by decide +kernel
theorem d_Gr_mixInto_89 : decode c_Gr_mixInto 89 = .ok (.baload, 1) := by decide +kernel
theorem d_Gr_mixInto_90 : decode c_Gr_mixInto 90 = .ok (.ifCond .eq 8, 3) := by decide +kernel
theorem d_Gr_mixInto_93 : decode c_Gr_mixInto 93 = .ok (.bipush 10, 2) := by decide +kernel
theorem d_Gr_mixInto_95 : decode c_Gr_mixInto 95 = .ok (.goto 4, 3) := by decide +kernel
theorem d_Gr_mixInto_98 : decode c_Gr_mixInto 98 = .ok (.iconst 0, 1) := by decide +kernel
theorem d_Gr_mixInto_99 : decode c_Gr_mixInto 99 = .ok (.i2l, 1) := by decide +kernel
theorem d_Gr_mixInto_100 : decode c_Gr_mixInto 100 = .ok (.ladd, 1) := by decide +kernel
theorem d_Gr_mixInto_101 : decode c_Gr_mixInto 101 = .ok (.lstore_n 3, 1) := by decide +kernel
theorem d_Gr_mixInto_102 : decode c_Gr_mixInto 102 = .ok (.iinc 5 1, 3) := by decide +kernel
theorem d_Gr_mixInto_105 : decode c_Gr_mixInto 105 = .ok (.goto (-45), 3) := by decide +kernel
theorem d_Gr_mixInto_108 : decode c_Gr_mixInto 108 = .ok (.lload_n 3, 1) := by decide +kernel
theorem d_Gr_mixInto_109 : decode c_Gr_mixInto 109 = .ok (.lreturn, 1) := by decide +kernel
