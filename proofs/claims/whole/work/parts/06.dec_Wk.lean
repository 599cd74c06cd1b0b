/-! decode rows (by program) -/
theorem d_Wk_init_0 : decode c_Wk_init 0 = .ok (.aload_n 0, 1) := by decide +kernel
theorem d_Wk_init_1 : decode c_Wk_init 1 = .ok (.invokespecial 3, 3) := by decide +kernel
theorem d_Wk_init_4 : decode c_Wk_init 4 = .ok (.aload_n 0, 1) := by decide +kernel
theorem d_Wk_init_5 : decode c_Wk_init 5 = .ok (.iconst 0, 1) := by decide +kernel
theorem d_Wk_init_6 : decode c_Wk_init 6 = .ok (.putfield 9, 3) := by decide +kernel
theorem d_Wk_init_9 : decode c_Wk_init 9 = .ok (.aload_n 0, 1) := by decide +kernel
theorem d_Wk_init_10 : decode c_Wk_init 10 = .ok (.iconst 1, 1) := by decide +kernel
theorem d_Wk_init_11 : decode c_Wk_init 11 = .ok (.putfield 15, 3) := by decide +kernel
theorem d_Wk_init_14 : decode c_Wk_init 14 = .ok (.aload_n 0, 1) := by decide +kernel
theorem d_Wk_init_15 : decode c_Wk_init 15 = .ok (.iconst 0, 1) := by decide +kernel
theorem d_Wk_init_16 : decode c_Wk_init 16 = .ok (.putfield 18, 3) := by decide +kernel
theorem d_Wk_init_19 : decode c_Wk_init 19 = .ok (.aload_n 0, 1) := by decide +kernel
theorem d_Wk_init_20 : decode c_Wk_init 20 = .ok (.iconst 0, 1) := by decide +kernel
theorem d_Wk_init_21 : decode c_Wk_init 21 = .ok (.putfield 21, 3) := by decide +kernel
theorem d_Wk_init_24 : decode c_Wk_init 24 = .ok (.aload_n 0, 1) := by decide +kernel
theorem d_Wk_init_25 : decode c_Wk_init 25 = .ok (.iconst 0, 1) := by decide +kernel
theorem d_Wk_init_26 : decode c_Wk_init 26 = .ok (.putfield 24, 3) := by decide +kernel
theorem d_Wk_init_29 : decode c_Wk_init 29 = .ok (.aload_n 0, 1) := by decide +kernel
theorem d_Wk_init_30 : decode c_Wk_init 30 = .ok (.iconst 0, 1) := by decide +kernel
theorem d_Wk_init_31 : decode c_Wk_init 31 = .ok (.putfield 27, 3) := by decide +kernel
theorem d_Wk_init_34 : decode c_Wk_init 34 = .ok (.aload_n 0, 1) := by decide +kernel
theorem d_Wk_init_35 : decode c_Wk_init 35 = .ok (.iconst 0, 1) := by decide +kernel
theorem d_Wk_init_36 : decode c_Wk_init 36 = .ok (.putfield 31, 3) := by decide +kernel
theorem d_Wk_init_39 : decode c_Wk_init 39 = .ok (.aload_n 0, 1) := by decide +kernel
theorem d_Wk_init_40 : decode c_Wk_init 40 = .ok (.iconst 0, 1) := by decide +kernel
theorem d_Wk_init_41 : decode c_Wk_init 41 = .ok (.putfield 34, 3) := by decide +kernel
theorem d_Wk_init_44 : decode c_Wk_init 44 = .ok (.aload_n 0, 1) := by decide +kernel
theorem d_Wk_init_45 : decode c_Wk_init 45 = .ok (.iconst 0, 1) := by decide +kernel
theorem d_Wk_init_46 : decode c_Wk_init 46 = .ok (.putfield 37, 3) := by decide +kernel
theorem d_Wk_init_49 : decode c_Wk_init 49 = .ok (.aload_n 0, 1) := by decide +kernel
theorem d_Wk_init_50 : decode c_Wk_init 50 = .ok (.bipush 24, 2) := by decide +kernel
theorem d_Wk_init_52 : decode c_Wk_init 52 = .ok (.newarray .int, 2) := by decide +kernel
theorem d_Wk_init_54 : decode c_Wk_init 54 = .ok (.putfield 40, 3) := by decide +kernel
theorem d_Wk_init_57 : decode c_Wk_init 57 = .ok (.aload_n 0, 1) := by decide +kernel
theorem d_Wk_init_58 : decode c_Wk_init 58 = .ok (.bipush 24, 2) := by decide +kernel
theorem d_Wk_init_60 : decode c_Wk_init 60 = .ok (.newarray .int, 2) := by decide +kernel
theorem d_Wk_init_62 : decode c_Wk_init 62 = .ok (.putfield 44, 3) := by decide +kernel
theorem d_Wk_init_65 : decode c_Wk_init 65 = .ok (.aload_n 0, 1) := by decide +kernel
theorem d_Wk_init_66 : decode c_Wk_init 66 = .ok (.iconst 0, 1) := by decide +kernel
theorem d_Wk_init_67 : decode c_Wk_init 67 = .ok (.putfield 47, 3) := by decide +kernel
theorem d_Wk_init_70 : decode c_Wk_init 70 = .ok (.aload_n 0, 1) := by decide +kernel
theorem d_Wk_init_71 : decode c_Wk_init 71 = .ok (.iconst 1, 1) := by decide +kernel
theorem d_Wk_init_72 : decode c_Wk_init 72 = .ok (.putfield 50, 3) := by decide +kernel
theorem d_Wk_init_75 : decode c_Wk_init 75 = .ok (.aload_n 0, 1) := by decide +kernel
theorem d_Wk_init_76 : decode c_Wk_init 76 = .ok (.iconst 0, 1) := by decide +kernel
theorem d_Wk_init_77 : decode c_Wk_init 77 = .ok (.putfield 53, 3) := by decide +kernel
theorem d_Wk_init_80 : decode c_Wk_init 80 = .ok (.aload_n 0, 1) := by decide +kernel
theorem d_Wk_init_81 : decode c_Wk_init 81 = .ok (.bipush 25, 2) := by decide +kernel
theorem d_Wk_init_83 : decode c_Wk_init 83 = .ok (.newarray .int, 2) := by decide +kernel
theorem d_Wk_init_85 : decode c_Wk_init 85 = .ok (.putfield 56, 3) := by decide +kernel
theorem d_Wk_init_88 : decode c_Wk_init 88 = .ok (.aload_n 0, 1) := by decide +kernel
theorem d_Wk_init_89 : decode c_Wk_init 89 = .ok (.bipush 24, 2) := by decide +kernel
theorem d_Wk_init_91 : decode c_Wk_init 91 = .ok (.newarray .int, 2) := by decide +kernel
theorem d_Wk_init_93 : decode c_Wk_init 93 = .ok (.putfield 59, 3) := by decide +kernel
theorem d_Wk_init_96 : decode c_Wk_init 96 = .ok (.aload_n 0, 1) := by decide +kernel
theorem d_Wk_init_97 : decode c_Wk_init 97 = .ok (.bipush 24, 2) := by decide +kernel
theorem d_Wk_init_99 : decode c_Wk_init 99 = .ok (.newarray .int, 2) := by decide +kernel
theorem d_Wk_init_101 : decode c_Wk_init 101 = .ok (.putfield 62, 3) := by decide +kernel
theorem d_Wk_init_104 : decode c_Wk_init 104 = .ok (.return_, 1) := by decide +kernel
theorem d_Wk_isOf_0 : decode c_Wk_isOf 0 = .ok (.iload_n 1, 1) := by decide +kernel
theorem d_Wk_isOf_1 : decode c_Wk_isOf 1 = .ok (.ifCond .eq 24, 3) := by decide +kernel
theorem d_Wk_isOf_4 : decode c_Wk_isOf 4 = .ok (.aload_n 0, 1) := by decide +kernel
theorem d_Wk_isOf_5 : decode c_Wk_isOf 5 = .ok (.getfield 9, 3) := by decide +kernel
theorem d_Wk_isOf_8 : decode c_Wk_isOf 8 = .ok (.iload_n 1, 1) := by decide +kernel
theorem d_Wk_isOf_9 : decode c_Wk_isOf 9 = .ok (.if_icmp .eq 16, 3) := by decide +kernel
theorem d_Wk_isOf_12 : decode c_Wk_isOf 12 = .ok (.iload_n 1, 1) := by decide +kernel
theorem d_Wk_isOf_13 : decode c_Wk_isOf 13 = .ok (.iconst 1, 1) := by decide +kernel
theorem d_Wk_isOf_14 : decode c_Wk_isOf 14 = .ok (.if_icmp .ne 15, 3) := by decide +kernel
theorem d_Wk_isOf_17 : decode c_Wk_isOf 17 = .ok (.aload_n 0, 1) := by decide +kernel
theorem d_Wk_isOf_18 : decode c_Wk_isOf 18 = .ok (.getfield 9, 3) := by decide +kernel
theorem d_Wk_isOf_21 : decode c_Wk_isOf 21 = .ok (.iconst 2, 1) := by decide +kernel
theorem d_Wk_isOf_22 : decode c_Wk_isOf 22 = .ok (.if_icmp .ne 7, 3) := by decide +kernel
theorem d_Wk_isOf_25 : decode c_Wk_isOf 25 = .ok (.iconst 1, 1) := by decide +kernel
theorem d_Wk_isOf_26 : decode c_Wk_isOf 26 = .ok (.goto 4, 3) := by decide +kernel
theorem d_Wk_isOf_29 : decode c_Wk_isOf 29 = .ok (.iconst 0, 1) := by decide +kernel
theorem d_Wk_isOf_30 : decode c_Wk_isOf 30 = .ok (.ireturn, 1) := by decide +kernel
theorem d_Wk_markOf_0 : decode c_Wk_markOf 0 = .ok (.iload_n 1, 1) := by decide +kernel
theorem d_Wk_markOf_1 : decode c_Wk_markOf 1 = .ok (.tableswitch 42 1 3 #[27, 32, 37], 27) := by decide +kernel
theorem d_Wk_markOf_28 : decode c_Wk_markOf 28 = .ok (.aload_n 0, 1) := by decide +kernel
theorem d_Wk_markOf_29 : decode c_Wk_markOf 29 = .ok (.getfield 15, 3) := by decide +kernel
theorem d_Wk_markOf_32 : decode c_Wk_markOf 32 = .ok (.ireturn, 1) := by decide +kernel
theorem d_Wk_markOf_33 : decode c_Wk_markOf 33 = .ok (.aload_n 0, 1) := by decide +kernel
theorem d_Wk_markOf_34 : decode c_Wk_markOf 34 = .ok (.getfield 18, 3) := by decide +kernel
theorem d_Wk_markOf_37 : decode c_Wk_markOf 37 = .ok (.ireturn, 1) := by decide +kernel
theorem d_Wk_markOf_38 : decode c_Wk_markOf 38 = .ok (.aload_n 0, 1) := by decide +kernel
theorem d_Wk_markOf_39 : decode c_Wk_markOf 39 = .ok (.getfield 21, 3) := by decide +kernel
theorem d_Wk_markOf_42 : decode c_Wk_markOf 42 = .ok (.ireturn, 1) := by decide +kernel
theorem d_Wk_markOf_43 : decode c_Wk_markOf 43 = .ok (.aload_n 0, 1) := by decide +kernel
theorem d_Wk_markOf_44 : decode c_Wk_markOf 44 = .ok (.getfield 37, 3) := by decide +kernel
theorem d_Wk_markOf_47 : decode c_Wk_markOf 47 = .ok (.ifCond .le 10, 3) := by decide +kernel
theorem d_Wk_markOf_50 : decode c_Wk_markOf 50 = .ok (.aload_n 0, 1) := by decide +kernel
theorem d_Wk_markOf_51 : decode c_Wk_markOf 51 = .ok (.getfield 34, 3) := by decide +kernel
theorem d_Wk_markOf_54 : decode c_Wk_markOf 54 = .ok (.goto 5, 3) := by decide +kernel
theorem d_Wk_markOf_57 : decode c_Wk_markOf 57 = .ok (.bipush (-9), 2) := by decide +kernel
theorem d_Wk_markOf_59 : decode c_Wk_markOf 59 = .ok (.ireturn, 1) := by decide +kernel
theorem d_Wk_unitParts_0 : decode c_Wk_unitParts 0 = .ok (.aload_n 0, 1) := by decide +kernel
theorem d_Wk_unitParts_1 : decode c_Wk_unitParts 1 = .ok (.getfield 9, 3) := by decide +kernel
theorem d_Wk_unitParts_4 : decode c_Wk_unitParts 4 = .ok (.iconst 3, 1) := by decide +kernel
theorem d_Wk_unitParts_5 : decode c_Wk_unitParts 5 = .ok (.if_icmp .eq 11, 3) := by decide +kernel
theorem d_Wk_unitParts_8 : decode c_Wk_unitParts 8 = .ok (.aload_n 0, 1) := by decide +kernel
theorem d_Wk_unitParts_9 : decode c_Wk_unitParts 9 = .ok (.getfield 15, 3) := by decide +kernel
theorem d_Wk_unitParts_12 : decode c_Wk_unitParts 12 = .ok (.iconst 1, 1) := by decide +kernel
theorem d_Wk_unitParts_13 : decode c_Wk_unitParts 13 = .ok (.if_icmp .ge 7, 3) := by decide +kernel
theorem d_Wk_unitParts_16 : decode c_Wk_unitParts 16 = .ok (.iconst 0, 1) := by decide +kernel
theorem d_Wk_unitParts_17 : decode c_Wk_unitParts 17 = .ok (.goto 10, 3) := by decide +kernel
theorem d_Wk_unitParts_20 : decode c_Wk_unitParts 20 = .ok (.bipush 60, 2) := by decide +kernel
theorem d_Wk_unitParts_22 : decode c_Wk_unitParts 22 = .ok (.aload_n 0, 1) := by decide +kernel
theorem d_Wk_unitParts_23 : decode c_Wk_unitParts 23 = .ok (.getfield 15, 3) := by decide +kernel
theorem d_Wk_unitParts_26 : decode c_Wk_unitParts 26 = .ok (.idiv, 1) := by decide +kernel
theorem d_Wk_unitParts_27 : decode c_Wk_unitParts 27 = .ok (.ireturn, 1) := by decide +kernel
theorem d_Wk_legBehind_0 : decode c_Wk_legBehind 0 = .ok (.iload_n 1, 1) := by decide +kernel
theorem d_Wk_legBehind_1 : decode c_Wk_legBehind 1 = .ok (.iconst 1, 1) := by decide +kernel
theorem d_Wk_legBehind_2 : decode c_Wk_legBehind 2 = .ok (.iadd, 1) := by decide +kernel
theorem d_Wk_legBehind_3 : decode c_Wk_legBehind 3 = .ok (.aload_n 0, 1) := by decide +kernel
theorem d_Wk_legBehind_4 : decode c_Wk_legBehind 4 = .ok (.getfield 37, 3) := by decide +kernel
theorem d_Wk_legBehind_7 : decode c_Wk_legBehind 7 = .ok (.if_icmp .ge 9, 3) := by decide +kernel
theorem d_Wk_legBehind_10 : decode c_Wk_legBehind 10 = .ok (.iload_n 1, 1) := by decide +kernel
theorem d_Wk_legBehind_11 : decode c_Wk_legBehind 11 = .ok (.iconst 1, 1) := by decide +kernel
theorem d_Wk_legBehind_12 : decode c_Wk_legBehind 12 = .ok (.iadd, 1) := by decide +kernel
theorem d_Wk_legBehind_13 : decode c_Wk_legBehind 13 = .ok (.goto 4, 3) := by decide +kernel
theorem d_Wk_legBehind_16 : decode c_Wk_legBehind 16 = .ok (.iconst 0, 1) := by decide +kernel
theorem d_Wk_legBehind_17 : decode c_Wk_legBehind 17 = .ok (.ireturn, 1) := by decide +kernel
theorem d_Wk_faultOn_0 : decode c_Wk_faultOn 0 = .ok (.aload_n 0, 1) := by decide +kernel
theorem d_Wk_faultOn_1 : decode c_Wk_faultOn 1 = .ok (.getfield 37, 3) := by decide +kernel
theorem d_Wk_faultOn_4 : decode c_Wk_faultOn 4 = .ok (.iconst 1, 1) := by decide +kernel
theorem d_Wk_faultOn_5 : decode c_Wk_faultOn 5 = .ok (.if_icmp .ge 5, 3) := by decide +kernel
theorem d_Wk_faultOn_8 : decode c_Wk_faultOn 8 = .ok (.iconst 1, 1) := by decide +kernel
theorem d_Wk_faultOn_9 : decode c_Wk_faultOn 9 = .ok (.ireturn, 1) := by decide +kernel
theorem d_Wk_faultOn_10 : decode c_Wk_faultOn 10 = .ok (.iconst 0, 1) := by decide +kernel
theorem d_Wk_faultOn_11 : decode c_Wk_faultOn 11 = .ok (.istore_n 2, 1) := by decide +kernel
theorem d_Wk_faultOn_12 : decode c_Wk_faultOn 12 = .ok (.iload_n 2, 1) := by decide +kernel
theorem d_Wk_faultOn_13 : decode c_Wk_faultOn 13 = .ok (.aload_n 0, 1) := by decide +kernel
theorem d_Wk_faultOn_14 : decode c_Wk_faultOn 14 = .ok (.getfield 37, 3) := by decide +kernel
theorem d_Wk_faultOn_17 : decode c_Wk_faultOn 17 = .ok (.if_icmp .ge 24, 3) := by decide +kernel
theorem d_Wk_faultOn_20 : decode c_Wk_faultOn 20 = .ok (.aload_n 1, 1) := by decide +kernel
theorem d_Wk_faultOn_21 : decode c_Wk_faultOn 21 = .ok (.aload_n 0, 1) := by decide +kernel
theorem d_Wk_faultOn_22 : decode c_Wk_faultOn 22 = .ok (.getfield 40, 3) := by decide +kernel
theorem d_Wk_faultOn_25 : decode c_Wk_faultOn 25 = .ok (.iload_n 2, 1) := by decide +kernel
theorem d_Wk_faultOn_26 : decode c_Wk_faultOn 26 = .ok (.iaload, 1) := by decide +kernel
theorem d_Wk_faultOn_27 : decode c_Wk_faultOn 27 = .ok (.invokevirtual 65, 3) := by decide +kernel
theorem d_Wk_faultOn_30 : decode c_Wk_faultOn 30 = .ok (.ifCond .ne 5, 3) := by decide +kernel
theorem d_Wk_faultOn_33 : decode c_Wk_faultOn 33 = .ok (.iconst 2, 1) := by decide +kernel
theorem d_Wk_faultOn_34 : decode c_Wk_faultOn 34 = .ok (.ireturn, 1) := by decide +kernel
theorem d_Wk_faultOn_35 : decode c_Wk_faultOn 35 = .ok (.iinc 2 1, 3) := by decide +kernel
theorem d_Wk_faultOn_38 : decode c_Wk_faultOn 38 = .ok (.goto (-26), 3) := by decide +kernel
theorem d_Wk_faultOn_41 : decode c_Wk_faultOn 41 = .ok (.iconst 0, 1) := by decide +kernel
theorem d_Wk_faultOn_42 : decode c_Wk_faultOn 42 = .ok (.istore_n 2, 1) := by decide +kernel
theorem d_Wk_faultOn_43 : decode c_Wk_faultOn 43 = .ok (.iconst 0, 1) := by decide +kernel
theorem d_Wk_faultOn_44 : decode c_Wk_faultOn 44 = .ok (.istore_n 3, 1) := by decide +kernel
theorem d_Wk_faultOn_45 : decode c_Wk_faultOn 45 = .ok (.iload_n 3, 1) := by decide +kernel
theorem d_Wk_faultOn_46 : decode c_Wk_faultOn 46 = .ok (.aload_n 0, 1) := by decide +kernel
theorem d_Wk_faultOn_47 : decode c_Wk_faultOn 47 = .ok (.getfield 37, 3) := by decide +kernel
theorem d_Wk_faultOn_50 : decode c_Wk_faultOn 50 = .ok (.if_icmp .ge 51, 3) := by decide +kernel
theorem d_Wk_faultOn_53 : decode c_Wk_faultOn 53 = .ok (.aload_n 1, 1) := by decide +kernel
theorem d_Wk_faultOn_54 : decode c_Wk_faultOn 54 = .ok (.aload_n 0, 1) := by decide +kernel
theorem d_Wk_faultOn_55 : decode c_Wk_faultOn 55 = .ok (.getfield 40, 3) := by decide +kernel
theorem d_Wk_faultOn_58 : decode c_Wk_faultOn 58 = .ok (.iload_n 3, 1) := by decide +kernel
theorem d_Wk_faultOn_59 : decode c_Wk_faultOn 59 = .ok (.iaload, 1) := by decide +kernel
theorem d_Wk_faultOn_60 : decode c_Wk_faultOn 60 = .ok (.aload_n 0, 1) := by decide +kernel
theorem d_Wk_faultOn_61 : decode c_Wk_faultOn 61 = .ok (.getfield 40, 3) := by decide +kernel
theorem d_Wk_faultOn_64 : decode c_Wk_faultOn 64 = .ok (.aload_n 0, 1) := by decide +kernel
theorem d_Wk_faultOn_65 : decode c_Wk_faultOn 65 = .ok (.iload_n 3, 1) := by decide +kernel
theorem d_Wk_faultOn_66 : decode c_Wk_faultOn 66 = .ok (.invokevirtual 71, 3) := by decide +kernel
theorem d_Wk_faultOn_69 : decode c_Wk_faultOn 69 = .ok (.iaload, 1) := by decide +kernel
theorem d_Wk_faultOn_70 : decode c_Wk_faultOn 70 = .ok (.invokevirtual 75, 3) := by decide +kernel
theorem d_Wk_faultOn_73 : decode c_Wk_faultOn 73 = .ok (.istore 4, 2) := by decide +kernel
theorem d_Wk_faultOn_75 : decode c_Wk_faultOn 75 = .ok (.iload 4, 2) := by decide +kernel
theorem d_Wk_faultOn_77 : decode c_Wk_faultOn 77 = .ok (.ifCond .ne 5, 3) := by decide +kernel
theorem d_Wk_faultOn_80 : decode c_Wk_faultOn 80 = .ok (.iconst 3, 1) := by decide +kernel
theorem d_Wk_faultOn_81 : decode c_Wk_faultOn 81 = .ok (.ireturn, 1) := by decide +kernel
theorem d_Wk_faultOn_82 : decode c_Wk_faultOn 82 = .ok (.iload_n 2, 1) := by decide +kernel
theorem d_Wk_faultOn_83 : decode c_Wk_faultOn 83 = .ok (.iload 4, 2) := by decide +kernel
theorem d_Wk_faultOn_85 : decode c_Wk_faultOn 85 = .ok (.ifCond .ge 7, 3) := by decide +kernel
theorem d_Wk_faultOn_88 : decode c_Wk_faultOn 88 = .ok (.iconst 1, 1) := by decide +kernel
theorem d_Wk_faultOn_89 : decode c_Wk_faultOn 89 = .ok (.goto 4, 3) := by decide +kernel
theorem d_Wk_faultOn_92 : decode c_Wk_faultOn 92 = .ok (.iconst 0, 1) := by decide +kernel
theorem d_Wk_faultOn_93 : decode c_Wk_faultOn 93 = .ok (.ior, 1) := by decide +kernel
theorem d_Wk_faultOn_94 : decode c_Wk_faultOn 94 = .ok (.istore_n 2, 1) := by decide +kernel
theorem d_Wk_faultOn_95 : decode c_Wk_faultOn 95 = .ok (.iinc 3 1, 3) := by decide +kernel
theorem d_Wk_faultOn_98 : decode c_Wk_faultOn 98 = .ok (.goto (-53), 3) := by decide +kernel
theorem d_Wk_faultOn_101 : decode c_Wk_faultOn 101 = .ok (.iload_n 2, 1) := by decide +kernel
theorem d_Wk_faultOn_102 : decode c_Wk_faultOn 102 = .ok (.ifCond .eq 5, 3) := by decide +kernel
theorem d_Wk_faultOn_105 : decode c_Wk_faultOn 105 = .ok (.iconst 4, 1) := by decide +kernel
theorem d_Wk_faultOn_106 : decode c_Wk_faultOn 106 = .ok (.ireturn, 1) := by decide +kernel
theorem d_Wk_faultOn_107 : decode c_Wk_faultOn 107 = .ok (.aload_n 0, 1) := by decide +kernel
theorem d_Wk_faultOn_108 : decode c_Wk_faultOn 108 = .ok (.getfield 9, 3) := by decide +kernel
theorem d_Wk_faultOn_111 : decode c_Wk_faultOn 111 = .ok (.iconst 2, 1) := by decide +kernel
theorem d_Wk_faultOn_112 : decode c_Wk_faultOn 112 = .ok (.if_icmp .ne 15, 3) := by decide +kernel
theorem d_Wk_faultOn_115 : decode c_Wk_faultOn 115 = .ok (.aload_n 0, 1) := by decide +kernel
theorem d_Wk_faultOn_116 : decode c_Wk_faultOn 116 = .ok (.aload_n 0, 1) := by decide +kernel
theorem d_Wk_faultOn_117 : decode c_Wk_faultOn 117 = .ok (.aload_n 1, 1) := by decide +kernel
theorem d_Wk_faultOn_118 : decode c_Wk_faultOn 118 = .ok (.invokevirtual 79, 3) := by decide +kernel
theorem d_Wk_faultOn_121 : decode c_Wk_faultOn 121 = .ok (.invokevirtual 83, 3) := by decide +kernel
theorem d_Wk_faultOn_124 : decode c_Wk_faultOn 124 = .ok (.goto 4, 3) := by decide +kernel
theorem d_Wk_faultOn_127 : decode c_Wk_faultOn 127 = .ok (.iconst 0, 1) := by decide +kernel
theorem d_Wk_faultOn_128 : decode c_Wk_faultOn 128 = .ok (.ireturn, 1) := by decide +kernel
theorem d_Wk_rideFault_0 : decode c_Wk_rideFault 0 = .ok (.iload_n 1, 1) := by decide +kernel
theorem d_Wk_rideFault_1 : decode c_Wk_rideFault 1 = .ok (.bipush (-9), 2) := by decide +kernel
theorem d_Wk_rideFault_3 : decode c_Wk_rideFault 3 = .ok (.if_icmp .ne 5, 3) := by decide +kernel
theorem d_Wk_rideFault_6 : decode c_Wk_rideFault 6 = .ok (.iconst 5, 1) := by decide +kernel
theorem d_Wk_rideFault_7 : decode c_Wk_rideFault 7 = .ok (.ireturn, 1) := by decide +kernel
theorem d_Wk_rideFault_8 : decode c_Wk_rideFault 8 = .ok (.iload_n 1, 1) := by decide +kernel
theorem d_Wk_rideFault_9 : decode c_Wk_rideFault 9 = .ok (.aload_n 0, 1) := by decide +kernel
theorem d_Wk_rideFault_10 : decode c_Wk_rideFault 10 = .ok (.getfield 18, 3) := by decide +kernel
theorem d_Wk_rideFault_13 : decode c_Wk_rideFault 13 = .ok (.if_icmp .le 8, 3) := by decide +kernel
theorem d_Wk_rideFault_16 : decode c_Wk_rideFault 16 = .ok (.bipush 6, 2) := by decide +kernel
theorem d_Wk_rideFault_18 : decode c_Wk_rideFault 18 = .ok (.goto 4, 3) := by decide +kernel
theorem d_Wk_rideFault_21 : decode c_Wk_rideFault 21 = .ok (.iconst 0, 1) := by decide +kernel
theorem d_Wk_rideFault_22 : decode c_Wk_rideFault 22 = .ok (.ireturn, 1) := by decide +kernel
theorem d_Wk_longestRide_0 : decode c_Wk_longestRide 0 = .ok (.iconst 0, 1) := by decide +kernel
theorem d_Wk_longestRide_1 : decode c_Wk_longestRide 1 = .ok (.istore_n 2, 1) := by decide +kernel
theorem d_Wk_longestRide_2 : decode c_Wk_longestRide 2 = .ok (.iload_n 2, 1) := by decide +kernel
theorem d_Wk_longestRide_3 : decode c_Wk_longestRide 3 = .ok (.aload_n 0, 1) := by decide +kernel
theorem d_Wk_longestRide_4 : decode c_Wk_longestRide 4 = .ok (.getfield 37, 3) := by decide +kernel
theorem d_Wk_longestRide_7 : decode c_Wk_longestRide 7 = .ok (.if_icmp .ge 22, 3) := by decide +kernel
theorem d_Wk_longestRide_10 : decode c_Wk_longestRide 10 = .ok (.aload_n 1, 1) := by decide +kernel
theorem d_Wk_longestRide_11 : decode c_Wk_longestRide 11 = .ok (.aload_n 0, 1) := by decide +kernel
theorem d_Wk_longestRide_12 : decode c_Wk_longestRide 12 = .ok (.getfield 40, 3) := by decide +kernel
theorem d_Wk_longestRide_15 : decode c_Wk_longestRide 15 = .ok (.iload_n 2, 1) := by decide +kernel
theorem d_Wk_longestRide_16 : decode c_Wk_longestRide 16 = .ok (.iaload, 1) := by decide +kernel
theorem d_Wk_longestRide_17 : decode c_Wk_longestRide 17 = .ok (.invokevirtual 86, 3) := by decide +kernel
theorem d_Wk_longestRide_20 : decode c_Wk_longestRide 20 = .ok (.ifCond .ne 9, 3) := by decide +kernel
theorem d_Wk_longestRide_23 : decode c_Wk_longestRide 23 = .ok (.iinc 2 1, 3) := by decide +kernel
theorem d_Wk_longestRide_26 : decode c_Wk_longestRide 26 = .ok (.goto (-24), 3) := by decide +kernel
theorem d_Wk_longestRide_29 : decode c_Wk_longestRide 29 = .ok (.iload_n 2, 1) := by decide +kernel
theorem d_Wk_longestRide_30 : decode c_Wk_longestRide 30 = .ok (.aload_n 0, 1) := by decide +kernel
theorem d_Wk_longestRide_31 : decode c_Wk_longestRide 31 = .ok (.getfield 37, 3) := by decide +kernel
theorem d_Wk_longestRide_34 : decode c_Wk_longestRide 34 = .ok (.if_icmp .lt 6, 3) := by decide +kernel
theorem d_Wk_longestRide_37 : decode c_Wk_longestRide 37 = .ok (.bipush (-9), 2) := by decide +kernel
theorem d_Wk_longestRide_39 : decode c_Wk_longestRide 39 = .ok (.ireturn, 1) := by decide +kernel
theorem d_Wk_longestRide_40 : decode c_Wk_longestRide 40 = .ok (.iconst 0, 1) := by decide +kernel
theorem d_Wk_longestRide_41 : decode c_Wk_longestRide 41 = .ok (.istore_n 3, 1) := by decide +kernel
theorem d_Wk_longestRide_42 : decode c_Wk_longestRide 42 = .ok (.iconst 0, 1) := by decide +kernel
theorem d_Wk_longestRide_43 : decode c_Wk_longestRide 43 = .ok (.istore 4, 2) := by decide +kernel
theorem d_Wk_longestRide_45 : decode c_Wk_longestRide 45 = .ok (.iload_n 2, 1) := by decide +kernel
theorem d_Wk_longestRide_46 : decode c_Wk_longestRide 46 = .ok (.istore 5, 2) := by decide +kernel
theorem d_Wk_longestRide_48 : decode c_Wk_longestRide 48 = .ok (.iconst 0, 1) := by decide +kernel
theorem d_Wk_longestRide_49 : decode c_Wk_longestRide 49 = .ok (.istore 6, 2) := by decide +kernel
theorem d_Wk_longestRide_51 : decode c_Wk_longestRide 51 = .ok (.iload 6, 2) := by decide +kernel
theorem d_Wk_longestRide_53 : decode c_Wk_longestRide 53 = .ok (.aload_n 0, 1) := by decide +kernel
theorem d_Wk_longestRide_54 : decode c_Wk_longestRide 54 = .ok (.getfield 37, 3) := by decide +kernel
theorem d_Wk_longestRide_57 : decode c_Wk_longestRide 57 = .ok (.if_icmp .ge 68, 3) := by decide +kernel
theorem d_Wk_longestRide_60 : decode c_Wk_longestRide 60 = .ok (.aload_n 0, 1) := by decide +kernel
theorem d_Wk_longestRide_61 : decode c_Wk_longestRide 61 = .ok (.iload 5, 2) := by decide +kernel
theorem d_Wk_longestRide_63 : decode c_Wk_longestRide 63 = .ok (.invokevirtual 71, 3) := by decide +kernel
theorem d_Wk_longestRide_66 : decode c_Wk_longestRide 66 = .ok (.istore 7, 2) := by decide +kernel
theorem d_Wk_longestRide_68 : decode c_Wk_longestRide 68 = .ok (.iload 4, 2) := by decide +kernel
theorem d_Wk_longestRide_70 : decode c_Wk_longestRide 70 = .ok (.aload_n 1, 1) := by decide +kernel
theorem d_Wk_longestRide_71 : decode c_Wk_longestRide 71 = .ok (.aload_n 0, 1) := by decide +kernel
theorem d_Wk_longestRide_72 : decode c_Wk_longestRide 72 = .ok (.getfield 40, 3) := by decide +kernel
theorem d_Wk_longestRide_75 : decode c_Wk_longestRide 75 = .ok (.iload 5, 2) := by decide +kernel
theorem d_Wk_longestRide_77 : decode c_Wk_longestRide 77 = .ok (.iaload, 1) := by decide +kernel
theorem d_Wk_longestRide_78 : decode c_Wk_longestRide 78 = .ok (.aload_n 0, 1) := by decide +kernel
theorem d_Wk_longestRide_79 : decode c_Wk_longestRide 79 = .ok (.getfield 40, 3) := by decide +kernel
theorem d_Wk_longestRide_82 : decode c_Wk_longestRide 82 = .ok (.iload 7, 2) := by decide +kernel
theorem d_Wk_longestRide_84 : decode c_Wk_longestRide 84 = .ok (.iaload, 1) := by decide +kernel
theorem d_Wk_longestRide_85 : decode c_Wk_longestRide 85 = .ok (.invokevirtual 75, 3) := by decide +kernel
theorem d_Wk_longestRide_88 : decode c_Wk_longestRide 88 = .ok (.iadd, 1) := by decide +kernel
theorem d_Wk_longestRide_89 : decode c_Wk_longestRide 89 = .ok (.istore 4, 2) := by decide +kernel
theorem d_Wk_longestRide_91 : decode c_Wk_longestRide 91 = .ok (.aload_n 1, 1) := by decide +kernel
theorem d_Wk_longestRide_92 : decode c_Wk_longestRide 92 = .ok (.aload_n 0, 1) := by decide +kernel
theorem d_Wk_longestRide_93 : decode c_Wk_longestRide 93 = .ok (.getfield 40, 3) := by decide +kernel
theorem d_Wk_longestRide_96 : decode c_Wk_longestRide 96 = .ok (.iload 7, 2) := by decide +kernel
theorem d_Wk_longestRide_98 : decode c_Wk_longestRide 98 = .ok (.iaload, 1) := by decide +kernel
theorem d_Wk_longestRide_99 : decode c_Wk_longestRide 99 = .ok (.invokevirtual 86, 3) := by decide +kernel
theorem d_Wk_longestRide_102 : decode c_Wk_longestRide 102 = .ok (.ifCond .eq 13, 3) := by decide +kernel
theorem d_Wk_longestRide_105 : decode c_Wk_longestRide 105 = .ok (.iload_n 3, 1) := by decide +kernel
theorem d_Wk_longestRide_106 : decode c_Wk_longestRide 106 = .ok (.iload 4, 2) := by decide +kernel
theorem d_Wk_longestRide_108 : decode c_Wk_longestRide 108 = .ok (.invokestatic 89, 3) := by decide +kernel
theorem d_Wk_longestRide_111 : decode c_Wk_longestRide 111 = .ok (.istore_n 3, 1) := by decide +kernel
theorem d_Wk_longestRide_112 : decode c_Wk_longestRide 112 = .ok (.iconst 0, 1) := by decide +kernel
theorem d_Wk_longestRide_113 : decode c_Wk_longestRide 113 = .ok (.istore 4, 2) := by decide +kernel
theorem d_Wk_longestRide_115 : decode c_Wk_longestRide 115 = .ok (.iload 7, 2) := by decide +kernel
theorem d_Wk_longestRide_117 : decode c_Wk_longestRide 117 = .ok (.istore 5, 2) := by decide +kernel
theorem d_Wk_longestRide_119 : decode c_Wk_longestRide 119 = .ok (.iinc 6 1, 3) := by decide +kernel
theorem d_Wk_longestRide_122 : decode c_Wk_longestRide 122 = .ok (.goto (-71), 3) := by decide +kernel
theorem d_Wk_longestRide_125 : decode c_Wk_longestRide 125 = .ok (.iload_n 3, 1) := by decide +kernel
theorem d_Wk_longestRide_126 : decode c_Wk_longestRide 126 = .ok (.ireturn, 1) := by decide +kernel
theorem d_Wk_prepare_0 : decode c_Wk_prepare 0 = .ok (.aload_n 0, 1) := by decide +kernel
theorem d_Wk_prepare_1 : decode c_Wk_prepare 1 = .ok (.iconst 0, 1) := by decide +kernel
theorem d_Wk_prepare_2 : decode c_Wk_prepare 2 = .ok (.putfield 53, 3) := by decide +kernel
theorem d_Wk_prepare_5 : decode c_Wk_prepare 5 = .ok (.aload_n 0, 1) := by decide +kernel
theorem d_Wk_prepare_6 : decode c_Wk_prepare 6 = .ok (.iconst 1, 1) := by decide +kernel
theorem d_Wk_prepare_7 : decode c_Wk_prepare 7 = .ok (.putfield 50, 3) := by decide +kernel
theorem d_Wk_prepare_10 : decode c_Wk_prepare 10 = .ok (.aload_n 0, 1) := by decide +kernel
theorem d_Wk_prepare_11 : decode c_Wk_prepare 11 = .ok (.getfield 27, 3) := by decide +kernel
theorem d_Wk_prepare_14 : decode c_Wk_prepare 14 = .ok (.ifCond .ne 10, 3) := by decide +kernel
theorem d_Wk_prepare_17 : decode c_Wk_prepare 17 = .ok (.aload_n 0, 1) := by decide +kernel
theorem d_Wk_prepare_18 : decode c_Wk_prepare 18 = .ok (.getfield 31, 3) := by decide +kernel
theorem d_Wk_prepare_21 : decode c_Wk_prepare 21 = .ok (.ifCond .eq 11, 3) := by decide +kernel
theorem d_Wk_prepare_24 : decode c_Wk_prepare 24 = .ok (.aload_n 0, 1) := by decide +kernel
theorem d_Wk_prepare_25 : decode c_Wk_prepare 25 = .ok (.iconst 0, 1) := by decide +kernel
theorem d_Wk_prepare_26 : decode c_Wk_prepare 26 = .ok (.putfield 47, 3) := by decide +kernel
theorem d_Wk_prepare_29 : decode c_Wk_prepare 29 = .ok (.goto 82, 3) := by decide +kernel
theorem d_Wk_prepare_32 : decode c_Wk_prepare 32 = .ok (.aload_n 0, 1) := by decide +kernel
theorem d_Wk_prepare_33 : decode c_Wk_prepare 33 = .ok (.getfield 9, 3) := by decide +kernel
theorem d_Wk_prepare_36 : decode c_Wk_prepare 36 = .ok (.iconst 3, 1) := by decide +kernel
theorem d_Wk_prepare_37 : decode c_Wk_prepare 37 = .ok (.if_icmp .ne 45, 3) := by decide +kernel
theorem d_Wk_prepare_40 : decode c_Wk_prepare 40 = .ok (.aload_n 0, 1) := by decide +kernel
theorem d_Wk_prepare_41 : decode c_Wk_prepare 41 = .ok (.aload_n 1, 1) := by decide +kernel
theorem d_Wk_prepare_42 : decode c_Wk_prepare 42 = .ok (.aload_n 0, 1) := by decide +kernel
theorem d_Wk_prepare_43 : decode c_Wk_prepare 43 = .ok (.getfield 21, 3) := by decide +kernel
theorem d_Wk_prepare_46 : decode c_Wk_prepare 46 = .ok (.invokevirtual 65, 3) := by decide +kernel
theorem d_Wk_prepare_49 : decode c_Wk_prepare 49 = .ok (.putfield 47, 3) := by decide +kernel
theorem d_Wk_prepare_52 : decode c_Wk_prepare 52 = .ok (.aload_n 0, 1) := by decide +kernel
theorem d_Wk_prepare_53 : decode c_Wk_prepare 53 = .ok (.aload_n 0, 1) := by decide +kernel
theorem d_Wk_prepare_54 : decode c_Wk_prepare 54 = .ok (.getfield 47, 3) := by decide +kernel
theorem d_Wk_prepare_57 : decode c_Wk_prepare 57 = .ok (.ifCond .eq 18, 3) := by decide +kernel
theorem d_Wk_prepare_60 : decode c_Wk_prepare 60 = .ok (.aload_n 1, 1) := by decide +kernel
theorem d_Wk_prepare_61 : decode c_Wk_prepare 61 = .ok (.aload_n 0, 1) := by decide +kernel
theorem d_Wk_prepare_62 : decode c_Wk_prepare 62 = .ok (.getfield 21, 3) := by decide +kernel
theorem d_Wk_prepare_65 : decode c_Wk_prepare 65 = .ok (.aload_n 0, 1) := by decide +kernel
theorem d_Wk_prepare_66 : decode c_Wk_prepare 66 = .ok (.getfield 24, 3) := by decide +kernel
theorem d_Wk_prepare_69 : decode c_Wk_prepare 69 = .ok (.invokevirtual 94, 3) := by decide +kernel
theorem d_Wk_prepare_72 : decode c_Wk_prepare 72 = .ok (.goto 4, 3) := by decide +kernel
theorem d_Wk_prepare_75 : decode c_Wk_prepare 75 = .ok (.iconst 0, 1) := by decide +kernel
theorem d_Wk_prepare_76 : decode c_Wk_prepare 76 = .ok (.putfield 53, 3) := by decide +kernel
theorem d_Wk_prepare_79 : decode c_Wk_prepare 79 = .ok (.goto 32, 3) := by decide +kernel
theorem d_Wk_prepare_82 : decode c_Wk_prepare 82 = .ok (.aload_n 0, 1) := by decide +kernel
theorem d_Wk_prepare_83 : decode c_Wk_prepare 83 = .ok (.aload_n 0, 1) := by decide +kernel
theorem d_Wk_prepare_84 : decode c_Wk_prepare 84 = .ok (.aload_n 1, 1) := by decide +kernel
theorem d_Wk_prepare_85 : decode c_Wk_prepare 85 = .ok (.invokevirtual 97, 3) := by decide +kernel
theorem d_Wk_prepare_88 : decode c_Wk_prepare 88 = .ok (.ifCond .ne 7, 3) := by decide +kernel
theorem d_Wk_prepare_91 : decode c_Wk_prepare 91 = .ok (.iconst 1, 1) := by decide +kernel
theorem d_Wk_prepare_92 : decode c_Wk_prepare 92 = .ok (.goto 4, 3) := by decide +kernel
theorem d_Wk_prepare_95 : decode c_Wk_prepare 95 = .ok (.iconst 0, 1) := by decide +kernel
theorem d_Wk_prepare_96 : decode c_Wk_prepare 96 = .ok (.putfield 47, 3) := by decide +kernel
theorem d_Wk_prepare_99 : decode c_Wk_prepare 99 = .ok (.aload_n 0, 1) := by decide +kernel
theorem d_Wk_prepare_100 : decode c_Wk_prepare 100 = .ok (.getfield 47, 3) := by decide +kernel
theorem d_Wk_prepare_103 : decode c_Wk_prepare 103 = .ok (.ifCond .eq 8, 3) := by decide +kernel
theorem d_Wk_prepare_106 : decode c_Wk_prepare 106 = .ok (.aload_n 0, 1) := by decide +kernel
theorem d_Wk_prepare_107 : decode c_Wk_prepare 107 = .ok (.aload_n 1, 1) := by decide +kernel
theorem d_Wk_prepare_108 : decode c_Wk_prepare 108 = .ok (.invokevirtual 100, 3) := by decide +kernel
theorem d_Wk_prepare_111 : decode c_Wk_prepare 111 = .ok (.return_, 1) := by decide +kernel
theorem d_Wk_prepareLegs_0 : decode c_Wk_prepareLegs 0 = .ok (.iconst 0, 1) := by decide +kernel
theorem d_Wk_prepareLegs_1 : decode c_Wk_prepareLegs 1 = .ok (.istore_n 2, 1) := by decide +kernel
theorem d_Wk_prepareLegs_2 : decode c_Wk_prepareLegs 2 = .ok (.aload_n 0, 1) := by decide +kernel
theorem d_Wk_prepareLegs_3 : decode c_Wk_prepareLegs 3 = .ok (.invokevirtual 104, 3) := by decide +kernel
theorem d_Wk_prepareLegs_6 : decode c_Wk_prepareLegs 6 = .ok (.istore_n 3, 1) := by decide +kernel
theorem d_Wk_prepareLegs_7 : decode c_Wk_prepareLegs 7 = .ok (.iconst 0, 1) := by decide +kernel
theorem d_Wk_prepareLegs_8 : decode c_Wk_prepareLegs 8 = .ok (.istore 4, 2) := by decide +kernel
theorem d_Wk_prepareLegs_10 : decode c_Wk_prepareLegs 10 = .ok (.iload 4, 2) := by decide +kernel
theorem d_Wk_prepareLegs_12 : decode c_Wk_prepareLegs 12 = .ok (.aload_n 0, 1) := by decide +kernel
theorem d_Wk_prepareLegs_13 : decode c_Wk_prepareLegs 13 = .ok (.getfield 37, 3) := by decide +kernel
theorem d_Wk_prepareLegs_16 : decode c_Wk_prepareLegs 16 = .ok (.if_icmp .ge 104, 3) := by decide +kernel
theorem d_Wk_prepareLegs_19 : decode c_Wk_prepareLegs 19 = .ok (.aload_n 0, 1) := by decide +kernel
theorem d_Wk_prepareLegs_20 : decode c_Wk_prepareLegs 20 = .ok (.getfield 56, 3) := by decide +kernel
theorem d_Wk_prepareLegs_23 : decode c_Wk_prepareLegs 23 = .ok (.iload 4, 2) := by decide +kernel
theorem d_Wk_prepareLegs_25 : decode c_Wk_prepareLegs 25 = .ok (.iload_n 2, 1) := by decide +kernel
theorem d_Wk_prepareLegs_26 : decode c_Wk_prepareLegs 26 = .ok (.iastore, 1) := by decide +kernel
theorem d_Wk_prepareLegs_27 : decode c_Wk_prepareLegs 27 = .ok (.aload_n 0, 1) := by decide +kernel
theorem d_Wk_prepareLegs_28 : decode c_Wk_prepareLegs 28 = .ok (.getfield 59, 3) := by decide +kernel
theorem d_Wk_prepareLegs_31 : decode c_Wk_prepareLegs 31 = .ok (.iload 4, 2) := by decide +kernel
theorem d_Wk_prepareLegs_33 : decode c_Wk_prepareLegs 33 = .ok (.iload_n 2, 1) := by decide +kernel
theorem d_Wk_prepareLegs_34 : decode c_Wk_prepareLegs 34 = .ok (.aload_n 0, 1) := by decide +kernel
theorem d_Wk_prepareLegs_35 : decode c_Wk_prepareLegs 35 = .ok (.getfield 44, 3) := by decide +kernel
theorem d_Wk_prepareLegs_38 : decode c_Wk_prepareLegs 38 = .ok (.iload 4, 2) := by decide +kernel
theorem d_Wk_prepareLegs_40 : decode c_Wk_prepareLegs 40 = .ok (.iaload, 1) := by decide +kernel
theorem d_Wk_prepareLegs_41 : decode c_Wk_prepareLegs 41 = .ok (.iadd, 1) := by decide +kernel
theorem d_Wk_prepareLegs_42 : decode c_Wk_prepareLegs 42 = .ok (.iastore, 1) := by decide +kernel
theorem d_Wk_prepareLegs_43 : decode c_Wk_prepareLegs 43 = .ok (.aload_n 0, 1) := by decide +kernel
theorem d_Wk_prepareLegs_44 : decode c_Wk_prepareLegs 44 = .ok (.getfield 59, 3) := by decide +kernel
theorem d_Wk_prepareLegs_47 : decode c_Wk_prepareLegs 47 = .ok (.iload 4, 2) := by decide +kernel
theorem d_Wk_prepareLegs_49 : decode c_Wk_prepareLegs 49 = .ok (.iaload, 1) := by decide +kernel
theorem d_Wk_prepareLegs_50 : decode c_Wk_prepareLegs 50 = .ok (.iload_n 3, 1) := by decide +kernel
theorem d_Wk_prepareLegs_51 : decode c_Wk_prepareLegs 51 = .ok (.aload_n 1, 1) := by decide +kernel
theorem d_Wk_prepareLegs_52 : decode c_Wk_prepareLegs 52 = .ok (.aload_n 0, 1) := by decide +kernel
theorem d_Wk_prepareLegs_53 : decode c_Wk_prepareLegs 53 = .ok (.getfield 40, 3) := by decide +kernel
theorem d_Wk_prepareLegs_56 : decode c_Wk_prepareLegs 56 = .ok (.iload 4, 2) := by decide +kernel
theorem d_Wk_prepareLegs_58 : decode c_Wk_prepareLegs 58 = .ok (.iaload, 1) := by decide +kernel
theorem d_Wk_prepareLegs_59 : decode c_Wk_prepareLegs 59 = .ok (.aload_n 0, 1) := by decide +kernel
theorem d_Wk_prepareLegs_60 : decode c_Wk_prepareLegs 60 = .ok (.getfield 40, 3) := by decide +kernel
theorem d_Wk_prepareLegs_63 : decode c_Wk_prepareLegs 63 = .ok (.aload_n 0, 1) := by decide +kernel
theorem d_Wk_prepareLegs_64 : decode c_Wk_prepareLegs 64 = .ok (.iload 4, 2) := by decide +kernel
theorem d_Wk_prepareLegs_66 : decode c_Wk_prepareLegs 66 = .ok (.invokevirtual 71, 3) := by decide +kernel
theorem d_Wk_prepareLegs_69 : decode c_Wk_prepareLegs 69 = .ok (.iaload, 1) := by decide +kernel
theorem d_Wk_prepareLegs_70 : decode c_Wk_prepareLegs 70 = .ok (.invokevirtual 75, 3) := by decide +kernel
theorem d_Wk_prepareLegs_73 : decode c_Wk_prepareLegs 73 = .ok (.imul, 1) := by decide +kernel
theorem d_Wk_prepareLegs_74 : decode c_Wk_prepareLegs 74 = .ok (.iadd, 1) := by decide +kernel
theorem d_Wk_prepareLegs_75 : decode c_Wk_prepareLegs 75 = .ok (.istore_n 2, 1) := by decide +kernel
theorem d_Wk_prepareLegs_76 : decode c_Wk_prepareLegs 76 = .ok (.aload_n 0, 1) := by decide +kernel
theorem d_Wk_prepareLegs_77 : decode c_Wk_prepareLegs 77 = .ok (.getfield 62, 3) := by decide +kernel
theorem d_Wk_prepareLegs_80 : decode c_Wk_prepareLegs 80 = .ok (.iload 4, 2) := by decide +kernel
theorem d_Wk_prepareLegs_82 : decode c_Wk_prepareLegs 82 = .ok (.aload_n 1, 1) := by decide +kernel
theorem d_Wk_prepareLegs_83 : decode c_Wk_prepareLegs 83 = .ok (.aload_n 0, 1) := by decide +kernel
theorem d_Wk_prepareLegs_84 : decode c_Wk_prepareLegs 84 = .ok (.getfield 40, 3) := by decide +kernel
theorem d_Wk_prepareLegs_87 : decode c_Wk_prepareLegs 87 = .ok (.iload 4, 2) := by decide +kernel
theorem d_Wk_prepareLegs_89 : decode c_Wk_prepareLegs 89 = .ok (.iaload, 1) := by decide +kernel
theorem d_Wk_prepareLegs_90 : decode c_Wk_prepareLegs 90 = .ok (.aload_n 0, 1) := by decide +kernel
theorem d_Wk_prepareLegs_91 : decode c_Wk_prepareLegs 91 = .ok (.getfield 24, 3) := by decide +kernel
theorem d_Wk_prepareLegs_94 : decode c_Wk_prepareLegs 94 = .ok (.invokevirtual 94, 3) := by decide +kernel
theorem d_Wk_prepareLegs_97 : decode c_Wk_prepareLegs 97 = .ok (.iastore, 1) := by decide +kernel
theorem d_Wk_prepareLegs_98 : decode c_Wk_prepareLegs 98 = .ok (.aload_n 0, 1) := by decide +kernel
theorem d_Wk_prepareLegs_99 : decode c_Wk_prepareLegs 99 = .ok (.dup, 1) := by decide +kernel
theorem d_Wk_prepareLegs_100 : decode c_Wk_prepareLegs 100 = .ok (.getfield 53, 3) := by decide +kernel
theorem d_Wk_prepareLegs_103 : decode c_Wk_prepareLegs 103 = .ok (.aload_n 0, 1) := by decide +kernel
theorem d_Wk_prepareLegs_104 : decode c_Wk_prepareLegs 104 = .ok (.getfield 62, 3) := by decide +kernel
theorem d_Wk_prepareLegs_107 : decode c_Wk_prepareLegs 107 = .ok (.iload 4, 2) := by decide +kernel
theorem d_Wk_prepareLegs_109 : decode c_Wk_prepareLegs 109 = .ok (.iaload, 1) := by decide +kernel
theorem d_Wk_prepareLegs_110 : decode c_Wk_prepareLegs 110 = .ok (.ior, 1) := by decide +kernel
theorem d_Wk_prepareLegs_111 : decode c_Wk_prepareLegs 111 = .ok (.putfield 53, 3) := by decide +kernel
theorem d_Wk_prepareLegs_114 : decode c_Wk_prepareLegs 114 = .ok (.iinc 4 1, 3) := by decide +kernel
theorem d_Wk_prepareLegs_117 : decode c_Wk_prepareLegs 117 = .ok (.goto (-107), 3) := by decide +kernel
theorem d_Wk_prepareLegs_120 : decode c_Wk_prepareLegs 120 = .ok (.aload_n 0, 1) := by decide +kernel
theorem d_Wk_prepareLegs_121 : decode c_Wk_prepareLegs 121 = .ok (.getfield 56, 3) := by decide +kernel
theorem d_Wk_prepareLegs_124 : decode c_Wk_prepareLegs 124 = .ok (.aload_n 0, 1) := by decide +kernel
theorem d_Wk_prepareLegs_125 : decode c_Wk_prepareLegs 125 = .ok (.getfield 37, 3) := by decide +kernel
theorem d_Wk_prepareLegs_128 : decode c_Wk_prepareLegs 128 = .ok (.iload_n 2, 1) := by decide +kernel
theorem d_Wk_prepareLegs_129 : decode c_Wk_prepareLegs 129 = .ok (.iastore, 1) := by decide +kernel
theorem d_Wk_prepareLegs_130 : decode c_Wk_prepareLegs 130 = .ok (.aload_n 0, 1) := by decide +kernel
theorem d_Wk_prepareLegs_131 : decode c_Wk_prepareLegs 131 = .ok (.iconst 1, 1) := by decide +kernel
theorem d_Wk_prepareLegs_132 : decode c_Wk_prepareLegs 132 = .ok (.iload_n 2, 1) := by decide +kernel
theorem d_Wk_prepareLegs_133 : decode c_Wk_prepareLegs 133 = .ok (.invokestatic 89, 3) := by decide +kernel
theorem d_Wk_prepareLegs_136 : decode c_Wk_prepareLegs 136 = .ok (.putfield 50, 3) := by decide +kernel
theorem d_Wk_prepareLegs_139 : decode c_Wk_prepareLegs 139 = .ok (.return_, 1) := by decide +kernel
theorem d_Wk_phaseAt_0 : decode c_Wk_phaseAt 0 = .ok (.iload_n 1, 1) := by decide +kernel
theorem d_Wk_phaseAt_1 : decode c_Wk_phaseAt 1 = .ok (.aload_n 0, 1) := by decide +kernel
theorem d_Wk_phaseAt_2 : decode c_Wk_phaseAt 2 = .ok (.getfield 34, 3) := by decide +kernel
theorem d_Wk_phaseAt_5 : decode c_Wk_phaseAt 5 = .ok (.isub, 1) := by decide +kernel
theorem d_Wk_phaseAt_6 : decode c_Wk_phaseAt 6 = .ok (.aload_n 0, 1) := by decide +kernel
theorem d_Wk_phaseAt_7 : decode c_Wk_phaseAt 7 = .ok (.getfield 50, 3) := by decide +kernel
theorem d_Wk_phaseAt_10 : decode c_Wk_phaseAt 10 = .ok (.invokestatic 108, 3) := by decide +kernel
theorem d_Wk_phaseAt_13 : decode c_Wk_phaseAt 13 = .ok (.ireturn, 1) := by decide +kernel
theorem d_Wk_legAt_0 : decode c_Wk_legAt 0 = .ok (.iconst 0, 1) := by decide +kernel
theorem d_Wk_legAt_1 : decode c_Wk_legAt 1 = .ok (.istore_n 2, 1) := by decide +kernel
theorem d_Wk_legAt_2 : decode c_Wk_legAt 2 = .ok (.iload_n 2, 1) := by decide +kernel
theorem d_Wk_legAt_3 : decode c_Wk_legAt 3 = .ok (.iconst 1, 1) := by decide +kernel
theorem d_Wk_legAt_4 : decode c_Wk_legAt 4 = .ok (.iadd, 1) := by decide +kernel
theorem d_Wk_legAt_5 : decode c_Wk_legAt 5 = .ok (.aload_n 0, 1) := by decide +kernel
theorem d_Wk_legAt_6 : decode c_Wk_legAt 6 = .ok (.getfield 37, 3) := by decide +kernel
theorem d_Wk_legAt_9 : decode c_Wk_legAt 9 = .ok (.if_icmp .ge 21, 3) := by decide +kernel
theorem d_Wk_legAt_12 : decode c_Wk_legAt 12 = .ok (.aload_n 0, 1) := by decide +kernel
theorem d_Wk_legAt_13 : decode c_Wk_legAt 13 = .ok (.getfield 56, 3) := by decide +kernel
theorem d_Wk_legAt_16 : decode c_Wk_legAt 16 = .ok (.iload_n 2, 1) := by decide +kernel
theorem d_Wk_legAt_17 : decode c_Wk_legAt 17 = .ok (.iconst 1, 1) := by decide +kernel
theorem d_Wk_legAt_18 : decode c_Wk_legAt 18 = .ok (.iadd, 1) := by decide +kernel
theorem d_Wk_legAt_19 : decode c_Wk_legAt 19 = .ok (.iaload, 1) := by decide +kernel
theorem d_Wk_legAt_20 : decode c_Wk_legAt 20 = .ok (.iload_n 1, 1) := by decide +kernel
theorem d_Wk_legAt_21 : decode c_Wk_legAt 21 = .ok (.if_icmp .gt 9, 3) := by decide +kernel
theorem d_Wk_legAt_24 : decode c_Wk_legAt 24 = .ok (.iinc 2 1, 3) := by decide +kernel
theorem d_Wk_legAt_27 : decode c_Wk_legAt 27 = .ok (.goto (-25), 3) := by decide +kernel
theorem d_Wk_legAt_30 : decode c_Wk_legAt 30 = .ok (.iload_n 2, 1) := by decide +kernel
theorem d_Wk_legAt_31 : decode c_Wk_legAt 31 = .ok (.ireturn, 1) := by decide +kernel
theorem d_Wk_placeAt_0 : decode c_Wk_placeAt 0 = .ok (.aload_n 0, 1) := by decide +kernel
theorem d_Wk_placeAt_1 : decode c_Wk_placeAt 1 = .ok (.getfield 9, 3) := by decide +kernel
theorem d_Wk_placeAt_4 : decode c_Wk_placeAt 4 = .ok (.iconst 3, 1) := by decide +kernel
theorem d_Wk_placeAt_5 : decode c_Wk_placeAt 5 = .ok (.if_icmp .ne 17, 3) := by decide +kernel
theorem d_Wk_placeAt_8 : decode c_Wk_placeAt 8 = .ok (.iload_n 2, 1) := by decide +kernel
theorem d_Wk_placeAt_9 : decode c_Wk_placeAt 9 = .ok (.iconst 2, 1) := by decide +kernel
theorem d_Wk_placeAt_10 : decode c_Wk_placeAt 10 = .ok (.if_icmp .ne 7, 3) := by decide +kernel
theorem d_Wk_placeAt_13 : decode c_Wk_placeAt 13 = .ok (.iconst 0, 1) := by decide +kernel
theorem d_Wk_placeAt_14 : decode c_Wk_placeAt 14 = .ok (.goto 7, 3) := by decide +kernel
theorem d_Wk_placeAt_17 : decode c_Wk_placeAt 17 = .ok (.aload_n 0, 1) := by decide +kernel
theorem d_Wk_placeAt_18 : decode c_Wk_placeAt 18 = .ok (.getfield 21, 3) := by decide +kernel
theorem d_Wk_placeAt_21 : decode c_Wk_placeAt 21 = .ok (.ireturn, 1) := by decide +kernel
theorem d_Wk_placeAt_22 : decode c_Wk_placeAt 22 = .ok (.aload_n 0, 1) := by decide +kernel
theorem d_Wk_placeAt_23 : decode c_Wk_placeAt 23 = .ok (.iload_n 1, 1) := by decide +kernel
theorem d_Wk_placeAt_24 : decode c_Wk_placeAt 24 = .ok (.invokevirtual 111, 3) := by decide +kernel
theorem d_Wk_placeAt_27 : decode c_Wk_placeAt 27 = .ok (.istore_n 3, 1) := by decide +kernel
theorem d_Wk_placeAt_28 : decode c_Wk_placeAt 28 = .ok (.aload_n 0, 1) := by decide +kernel
theorem d_Wk_placeAt_29 : decode c_Wk_placeAt 29 = .ok (.iload_n 3, 1) := by decide +kernel
theorem d_Wk_placeAt_30 : decode c_Wk_placeAt 30 = .ok (.invokevirtual 114, 3) := by decide +kernel
theorem d_Wk_placeAt_33 : decode c_Wk_placeAt 33 = .ok (.istore 4, 2) := by decide +kernel
theorem d_Wk_placeAt_35 : decode c_Wk_placeAt 35 = .ok (.iload_n 3, 1) := by decide +kernel
theorem d_Wk_placeAt_36 : decode c_Wk_placeAt 36 = .ok (.aload_n 0, 1) := by decide +kernel
theorem d_Wk_placeAt_37 : decode c_Wk_placeAt 37 = .ok (.getfield 59, 3) := by decide +kernel
theorem d_Wk_placeAt_40 : decode c_Wk_placeAt 40 = .ok (.iload 4, 2) := by decide +kernel
theorem d_Wk_placeAt_42 : decode c_Wk_placeAt 42 = .ok (.iaload, 1) := by decide +kernel
theorem d_Wk_placeAt_43 : decode c_Wk_placeAt 43 = .ok (.if_icmp .gt 7, 3) := by decide +kernel
theorem d_Wk_placeAt_46 : decode c_Wk_placeAt 46 = .ok (.iconst 1, 1) := by decide +kernel
theorem d_Wk_placeAt_47 : decode c_Wk_placeAt 47 = .ok (.goto 4, 3) := by decide +kernel
theorem d_Wk_placeAt_50 : decode c_Wk_placeAt 50 = .ok (.iconst 0, 1) := by decide +kernel
theorem d_Wk_placeAt_51 : decode c_Wk_placeAt 51 = .ok (.istore 5, 2) := by decide +kernel
theorem d_Wk_placeAt_53 : decode c_Wk_placeAt 53 = .ok (.iload_n 2, 1) := by decide +kernel
theorem d_Wk_placeAt_54 : decode c_Wk_placeAt 54 = .ok (.lookupswitch 61 #[(0, 26), (1, 34)], 26) := by decide +kernel
theorem d_Wk_placeAt_80 : decode c_Wk_placeAt 80 = .ok (.aload_n 0, 1) := by decide +kernel
theorem d_Wk_placeAt_81 : decode c_Wk_placeAt 81 = .ok (.getfield 40, 3) := by decide +kernel
theorem d_Wk_placeAt_84 : decode c_Wk_placeAt 84 = .ok (.iload 4, 2) := by decide +kernel
theorem d_Wk_placeAt_86 : decode c_Wk_placeAt 86 = .ok (.iaload, 1) := by decide +kernel
theorem d_Wk_placeAt_87 : decode c_Wk_placeAt 87 = .ok (.ireturn, 1) := by decide +kernel
theorem d_Wk_placeAt_88 : decode c_Wk_placeAt 88 = .ok (.iload 5, 2) := by decide +kernel
theorem d_Wk_placeAt_90 : decode c_Wk_placeAt 90 = .ok (.ifCond .eq 13, 3) := by decide +kernel
theorem d_Wk_placeAt_93 : decode c_Wk_placeAt 93 = .ok (.aload_n 0, 1) := by decide +kernel
theorem d_Wk_placeAt_94 : decode c_Wk_placeAt 94 = .ok (.getfield 40, 3) := by decide +kernel
theorem d_Wk_placeAt_97 : decode c_Wk_placeAt 97 = .ok (.iload 4, 2) := by decide +kernel
theorem d_Wk_placeAt_99 : decode c_Wk_placeAt 99 = .ok (.iaload, 1) := by decide +kernel
theorem d_Wk_placeAt_100 : decode c_Wk_placeAt 100 = .ok (.goto 14, 3) := by decide +kernel
theorem d_Wk_placeAt_103 : decode c_Wk_placeAt 103 = .ok (.aload_n 0, 1) := by decide +kernel
theorem d_Wk_placeAt_104 : decode c_Wk_placeAt 104 = .ok (.getfield 40, 3) := by decide +kernel
theorem d_Wk_placeAt_107 : decode c_Wk_placeAt 107 = .ok (.aload_n 0, 1) := by decide +kernel
theorem d_Wk_placeAt_108 : decode c_Wk_placeAt 108 = .ok (.iload 4, 2) := by decide +kernel
theorem d_Wk_placeAt_110 : decode c_Wk_placeAt 110 = .ok (.invokevirtual 71, 3) := by decide +kernel
theorem d_Wk_placeAt_113 : decode c_Wk_placeAt 113 = .ok (.iaload, 1) := by decide +kernel
theorem d_Wk_placeAt_114 : decode c_Wk_placeAt 114 = .ok (.ireturn, 1) := by decide +kernel
theorem d_Wk_placeAt_115 : decode c_Wk_placeAt 115 = .ok (.iload 5, 2) := by decide +kernel
theorem d_Wk_placeAt_117 : decode c_Wk_placeAt 117 = .ok (.ifCond .eq 7, 3) := by decide +kernel
theorem d_Wk_placeAt_120 : decode c_Wk_placeAt 120 = .ok (.iconst 0, 1) := by decide +kernel
theorem d_Wk_placeAt_121 : decode c_Wk_placeAt 121 = .ok (.goto 12, 3) := by decide +kernel
theorem d_Wk_placeAt_124 : decode c_Wk_placeAt 124 = .ok (.iload_n 3, 1) := by decide +kernel
theorem d_Wk_placeAt_125 : decode c_Wk_placeAt 125 = .ok (.aload_n 0, 1) := by decide +kernel
theorem d_Wk_placeAt_126 : decode c_Wk_placeAt 126 = .ok (.getfield 59, 3) := by decide +kernel
theorem d_Wk_placeAt_129 : decode c_Wk_placeAt 129 = .ok (.iload 4, 2) := by decide +kernel
theorem d_Wk_placeAt_131 : decode c_Wk_placeAt 131 = .ok (.iaload, 1) := by decide +kernel
theorem d_Wk_placeAt_132 : decode c_Wk_placeAt 132 = .ok (.isub, 1) := by decide +kernel
theorem d_Wk_placeAt_133 : decode c_Wk_placeAt 133 = .ok (.ireturn, 1) := by decide +kernel
theorem d_Wk_seenAt_0 : decode c_Wk_seenAt 0 = .ok (.aload_n 0, 1) := by decide +kernel
theorem d_Wk_seenAt_1 : decode c_Wk_seenAt 1 = .ok (.getfield 9, 3) := by decide +kernel
theorem d_Wk_seenAt_4 : decode c_Wk_seenAt 4 = .ok (.iconst 3, 1) := by decide +kernel
theorem d_Wk_seenAt_5 : decode c_Wk_seenAt 5 = .ok (.if_icmp .ne 8, 3) := by decide +kernel
theorem d_Wk_seenAt_8 : decode c_Wk_seenAt 8 = .ok (.aload_n 0, 1) := by decide +kernel
theorem d_Wk_seenAt_9 : decode c_Wk_seenAt 9 = .ok (.getfield 53, 3) := by decide +kernel
theorem d_Wk_seenAt_12 : decode c_Wk_seenAt 12 = .ok (.ireturn, 1) := by decide +kernel
theorem d_Wk_seenAt_13 : decode c_Wk_seenAt 13 = .ok (.aload_n 0, 1) := by decide +kernel
theorem d_Wk_seenAt_14 : decode c_Wk_seenAt 14 = .ok (.iload_n 1, 1) := by decide +kernel
theorem d_Wk_seenAt_15 : decode c_Wk_seenAt 15 = .ok (.invokevirtual 111, 3) := by decide +kernel
theorem d_Wk_seenAt_18 : decode c_Wk_seenAt 18 = .ok (.istore_n 2, 1) := by decide +kernel
theorem d_Wk_seenAt_19 : decode c_Wk_seenAt 19 = .ok (.aload_n 0, 1) := by decide +kernel
theorem d_Wk_seenAt_20 : decode c_Wk_seenAt 20 = .ok (.iload_n 2, 1) := by decide +kernel
theorem d_Wk_seenAt_21 : decode c_Wk_seenAt 21 = .ok (.invokevirtual 114, 3) := by decide +kernel
theorem d_Wk_seenAt_24 : decode c_Wk_seenAt 24 = .ok (.istore_n 3, 1) := by decide +kernel
theorem d_Wk_seenAt_25 : decode c_Wk_seenAt 25 = .ok (.iload_n 2, 1) := by decide +kernel
theorem d_Wk_seenAt_26 : decode c_Wk_seenAt 26 = .ok (.aload_n 0, 1) := by decide +kernel
theorem d_Wk_seenAt_27 : decode c_Wk_seenAt 27 = .ok (.getfield 59, 3) := by decide +kernel
theorem d_Wk_seenAt_30 : decode c_Wk_seenAt 30 = .ok (.iload_n 3, 1) := by decide +kernel
theorem d_Wk_seenAt_31 : decode c_Wk_seenAt 31 = .ok (.iaload, 1) := by decide +kernel
theorem d_Wk_seenAt_32 : decode c_Wk_seenAt 32 = .ok (.if_icmp .gt 12, 3) := by decide +kernel
theorem d_Wk_seenAt_35 : decode c_Wk_seenAt 35 = .ok (.aload_n 0, 1) := by decide +kernel
theorem d_Wk_seenAt_36 : decode c_Wk_seenAt 36 = .ok (.getfield 62, 3) := by decide +kernel
theorem d_Wk_seenAt_39 : decode c_Wk_seenAt 39 = .ok (.iload_n 3, 1) := by decide +kernel
theorem d_Wk_seenAt_40 : decode c_Wk_seenAt 40 = .ok (.iaload, 1) := by decide +kernel
theorem d_Wk_seenAt_41 : decode c_Wk_seenAt 41 = .ok (.goto 4, 3) := by decide +kernel
theorem d_Wk_seenAt_44 : decode c_Wk_seenAt 44 = .ok (.iconst 0, 1) := by decide +kernel
theorem d_Wk_seenAt_45 : decode c_Wk_seenAt 45 = .ok (.ireturn, 1) := by decide +kernel
theorem d_Wk_mixPlanInto_0 : decode c_Wk_mixPlanInto 0 = .ok (.ldc2_w 117, 3) := by decide +kernel
theorem d_Wk_mixPlanInto_3 : decode c_Wk_mixPlanInto 3 = .ok (.lload_n 1, 1) := by decide +kernel
theorem d_Wk_mixPlanInto_4 : decode c_Wk_mixPlanInto 4 = .ok (.lmul, 1) := by decide +kernel
theorem d_Wk_mixPlanInto_5 : decode c_Wk_mixPlanInto 5 = .ok (.aload_n 0, 1) := by decide +kernel
theorem d_Wk_mixPlanInto_6 : decode c_Wk_mixPlanInto 6 = .ok (.iconst 0, 1) := by decide +kernel
theorem d_Wk_mixPlanInto_7 : decode c_Wk_mixPlanInto 7 = .ok (.invokevirtual 119, 3) := by decide +kernel
theorem d_Wk_mixPlanInto_10 : decode c_Wk_mixPlanInto 10 = .ok (.i2l, 1) := by decide +kernel
theorem d_Wk_mixPlanInto_11 : decode c_Wk_mixPlanInto 11 = .ok (.ladd, 1) := by decide +kernel
theorem d_Wk_mixPlanInto_12 : decode c_Wk_mixPlanInto 12 = .ok (.lstore_n 3, 1) := by decide +kernel
theorem d_Wk_mixPlanInto_13 : decode c_Wk_mixPlanInto 13 = .ok (.iconst 0, 1) := by decide +kernel
theorem d_Wk_mixPlanInto_14 : decode c_Wk_mixPlanInto 14 = .ok (.istore 5, 2) := by decide +kernel
theorem d_Wk_mixPlanInto_16 : decode c_Wk_mixPlanInto 16 = .ok (.iload 5, 2) := by decide +kernel
theorem d_Wk_mixPlanInto_18 : decode c_Wk_mixPlanInto 18 = .ok (.aload_n 0, 1) := by decide +kernel
theorem d_Wk_mixPlanInto_19 : decode c_Wk_mixPlanInto 19 = .ok (.getfield 37, 3) := by decide +kernel
theorem d_Wk_mixPlanInto_22 : decode c_Wk_mixPlanInto 22 = .ok (.if_icmp .ge 24, 3) := by decide +kernel
theorem d_Wk_mixPlanInto_25 : decode c_Wk_mixPlanInto 25 = .ok (.ldc2_w 117, 3) := by decide +kernel
theorem d_Wk_mixPlanInto_28 : decode c_Wk_mixPlanInto 28 = .ok (.lload_n 3, 1) := by decide +kernel
theorem d_Wk_mixPlanInto_29 : decode c_Wk_mixPlanInto 29 = .ok (.lmul, 1) := by decide +kernel
theorem d_Wk_mixPlanInto_30 : decode c_Wk_mixPlanInto 30 = .ok (.aload_n 0, 1) := by decide +kernel
theorem d_Wk_mixPlanInto_31 : decode c_Wk_mixPlanInto 31 = .ok (.getfield 40, 3) := by decide +kernel
theorem d_Wk_mixPlanInto_34 : decode c_Wk_mixPlanInto 34 = .ok (.iload 5, 2) := by decide +kernel
theorem d_Wk_mixPlanInto_36 : decode c_Wk_mixPlanInto 36 = .ok (.iaload, 1) := by decide +kernel
theorem d_Wk_mixPlanInto_37 : decode c_Wk_mixPlanInto 37 = .ok (.i2l, 1) := by decide +kernel
theorem d_Wk_mixPlanInto_38 : decode c_Wk_mixPlanInto 38 = .ok (.ladd, 1) := by decide +kernel
theorem d_Wk_mixPlanInto_39 : decode c_Wk_mixPlanInto 39 = .ok (.lstore_n 3, 1) := by decide +kernel
theorem d_Wk_mixPlanInto_40 : decode c_Wk_mixPlanInto 40 = .ok (.iinc 5 1, 3) := by decide +kernel
theorem d_Wk_mixPlanInto_43 : decode c_Wk_mixPlanInto 43 = .ok (.goto (-27), 3) := by decide +kernel
theorem d_Wk_mixPlanInto_46 : decode c_Wk_mixPlanInto 46 = .ok (.iconst 0, 1) := by decide +kernel
theorem d_Wk_mixPlanInto_47 : decode c_Wk_mixPlanInto 47 = .ok (.istore 5, 2) := by decide +kernel
theorem d_Wk_mixPlanInto_49 : decode c_Wk_mixPlanInto 49 = .ok (.iload 5, 2) := by decide +kernel
theorem d_Wk_mixPlanInto_51 : decode c_Wk_mixPlanInto 51 = .ok (.aload_n 0, 1) := by decide +kernel
theorem d_Wk_mixPlanInto_52 : decode c_Wk_mixPlanInto 52 = .ok (.getfield 37, 3) := by decide +kernel
theorem d_Wk_mixPlanInto_55 : decode c_Wk_mixPlanInto 55 = .ok (.if_icmp .ge 24, 3) := by decide +kernel
theorem d_Wk_mixPlanInto_58 : decode c_Wk_mixPlanInto 58 = .ok (.ldc2_w 117, 3) := by decide +kernel
theorem d_Wk_mixPlanInto_61 : decode c_Wk_mixPlanInto 61 = .ok (.lload_n 3, 1) := by decide +kernel
theorem d_Wk_mixPlanInto_62 : decode c_Wk_mixPlanInto 62 = .ok (.lmul, 1) := by decide +kernel
theorem d_Wk_mixPlanInto_63 : decode c_Wk_mixPlanInto 63 = .ok (.aload_n 0, 1) := by decide +kernel
theorem d_Wk_mixPlanInto_64 : decode c_Wk_mixPlanInto 64 = .ok (.getfield 44, 3) := by decide +kernel
theorem d_Wk_mixPlanInto_67 : decode c_Wk_mixPlanInto 67 = .ok (.iload 5, 2) := by decide +kernel
theorem d_Wk_mixPlanInto_69 : decode c_Wk_mixPlanInto 69 = .ok (.iaload, 1) := by decide +kernel
theorem d_Wk_mixPlanInto_70 : decode c_Wk_mixPlanInto 70 = .ok (.i2l, 1) := by decide +kernel
theorem d_Wk_mixPlanInto_71 : decode c_Wk_mixPlanInto 71 = .ok (.ladd, 1) := by decide +kernel
theorem d_Wk_mixPlanInto_72 : decode c_Wk_mixPlanInto 72 = .ok (.lstore_n 3, 1) := by decide +kernel
theorem d_Wk_mixPlanInto_73 : decode c_Wk_mixPlanInto 73 = .ok (.iinc 5 1, 3) := by decide +kernel
theorem d_Wk_mixPlanInto_76 : decode c_Wk_mixPlanInto 76 = .ok (.goto (-27), 3) := by decide +kernel
theorem d_Wk_mixPlanInto_79 : decode c_Wk_mixPlanInto 79 = .ok (.lload_n 3, 1) := by decide +kernel
theorem d_Wk_mixPlanInto_80 : decode c_Wk_mixPlanInto 80 = .ok (.lreturn, 1) := by decide +kernel
