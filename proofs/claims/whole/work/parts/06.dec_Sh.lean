/-! decode rows (by program) -/
theorem d_Sh_init_0 : decode c_Sh_init 0 = .ok (.aload_n 0, 1) := by decide +kernel
theorem d_Sh_init_1 : decode c_Sh_init 1 = .ok (.invokespecial 3, 3) := by decide +kernel
theorem d_Sh_init_4 : decode c_Sh_init 4 = .ok (.aload_n 0, 1) := by decide +kernel
theorem d_Sh_init_5 : decode c_Sh_init 5 = .ok (.bipush 8, 2) := by decide +kernel
theorem d_Sh_init_7 : decode c_Sh_init 7 = .ok (.newarray .int, 2) := by decide +kernel
theorem d_Sh_init_9 : decode c_Sh_init 9 = .ok (.putfield 9, 3) := by decide +kernel
theorem d_Sh_init_12 : decode c_Sh_init 12 = .ok (.aload_n 0, 1) := by decide +kernel
theorem d_Sh_init_13 : decode c_Sh_init 13 = .ok (.bipush 8, 2) := by decide +kernel
theorem d_Sh_init_15 : decode c_Sh_init 15 = .ok (.newarray .int, 2) := by decide +kernel
theorem d_Sh_init_17 : decode c_Sh_init 17 = .ok (.putfield 15, 3) := by decide +kernel
theorem d_Sh_init_20 : decode c_Sh_init 20 = .ok (.aload_n 0, 1) := by decide +kernel
theorem d_Sh_init_21 : decode c_Sh_init 21 = .ok (.iconst 5, 1) := by decide +kernel
theorem d_Sh_init_22 : decode c_Sh_init 22 = .ok (.newarray .int, 2) := by decide +kernel
theorem d_Sh_init_24 : decode c_Sh_init 24 = .ok (.putfield 18, 3) := by decide +kernel
theorem d_Sh_init_27 : decode c_Sh_init 27 = .ok (.aload_n 0, 1) := by decide +kernel
theorem d_Sh_init_28 : decode c_Sh_init 28 = .ok (.sipush 544, 3) := by decide +kernel
theorem d_Sh_init_31 : decode c_Sh_init 31 = .ok (.newarray .int, 2) := by decide +kernel
theorem d_Sh_init_33 : decode c_Sh_init 33 = .ok (.putfield 21, 3) := by decide +kernel
theorem d_Sh_init_36 : decode c_Sh_init 36 = .ok (.aload_n 0, 1) := by decide +kernel
theorem d_Sh_init_37 : decode c_Sh_init 37 = .ok (.iconst 0, 1) := by decide +kernel
theorem d_Sh_init_38 : decode c_Sh_init 38 = .ok (.putfield 24, 3) := by decide +kernel
theorem d_Sh_init_41 : decode c_Sh_init 41 = .ok (.aload_n 0, 1) := by decide +kernel
theorem d_Sh_init_42 : decode c_Sh_init 42 = .ok (.aload_n 1, 1) := by decide +kernel
theorem d_Sh_init_43 : decode c_Sh_init 43 = .ok (.putfield 28, 3) := by decide +kernel
theorem d_Sh_init_46 : decode c_Sh_init 46 = .ok (.aload_n 0, 1) := by decide +kernel
theorem d_Sh_init_47 : decode c_Sh_init 47 = .ok (.aload_n 2, 1) := by decide +kernel
theorem d_Sh_init_48 : decode c_Sh_init 48 = .ok (.putfield 32, 3) := by decide +kernel
theorem d_Sh_init_51 : decode c_Sh_init 51 = .ok (.aload_n 0, 1) := by decide +kernel
theorem d_Sh_init_52 : decode c_Sh_init 52 = .ok (.invokevirtual 36, 3) := by decide +kernel
theorem d_Sh_init_55 : decode c_Sh_init 55 = .ok (.return_, 1) := by decide +kernel
theorem d_Sh_forget_0 : decode c_Sh_forget 0 = .ok (.iconst 0, 1) := by decide +kernel
theorem d_Sh_forget_1 : decode c_Sh_forget 1 = .ok (.istore_n 1, 1) := by decide +kernel
theorem d_Sh_forget_2 : decode c_Sh_forget 2 = .ok (.iload_n 1, 1) := by decide +kernel
theorem d_Sh_forget_3 : decode c_Sh_forget 3 = .ok (.bipush 8, 2) := by decide +kernel
theorem d_Sh_forget_5 : decode c_Sh_forget 5 = .ok (.if_icmp .ge 25, 3) := by decide +kernel
theorem d_Sh_forget_8 : decode c_Sh_forget 8 = .ok (.aload_n 0, 1) := by decide +kernel
theorem d_Sh_forget_9 : decode c_Sh_forget 9 = .ok (.getfield 9, 3) := by decide +kernel
theorem d_Sh_forget_12 : decode c_Sh_forget 12 = .ok (.iload_n 1, 1) := by decide +kernel
theorem d_Sh_forget_13 : decode c_Sh_forget 13 = .ok (.bipush (-9), 2) := by decide +kernel
theorem d_Sh_forget_15 : decode c_Sh_forget 15 = .ok (.iastore, 1) := by decide +kernel
theorem d_Sh_forget_16 : decode c_Sh_forget 16 = .ok (.aload_n 0, 1) := by decide +kernel
theorem d_Sh_forget_17 : decode c_Sh_forget 17 = .ok (.getfield 15, 3) := by decide +kernel
theorem d_Sh_forget_20 : decode c_Sh_forget 20 = .ok (.iload_n 1, 1) := by decide +kernel
theorem d_Sh_forget_21 : decode c_Sh_forget 21 = .ok (.bipush (-9), 2) := by decide +kernel
theorem d_Sh_forget_23 : decode c_Sh_forget 23 = .ok (.iastore, 1) := by decide +kernel
theorem d_Sh_forget_24 : decode c_Sh_forget 24 = .ok (.iinc 1 1, 3) := by decide +kernel
theorem d_Sh_forget_27 : decode c_Sh_forget 27 = .ok (.goto (-25), 3) := by decide +kernel
theorem d_Sh_forget_30 : decode c_Sh_forget 30 = .ok (.return_, 1) := by decide +kernel
theorem d_Sh_settle_0 : decode c_Sh_settle 0 = .ok (.aload_n 0, 1) := by decide +kernel
theorem d_Sh_settle_1 : decode c_Sh_settle 1 = .ok (.invokevirtual 39, 3) := by decide +kernel
theorem d_Sh_settle_4 : decode c_Sh_settle 4 = .ok (.aload_n 0, 1) := by decide +kernel
theorem d_Sh_settle_5 : decode c_Sh_settle 5 = .ok (.getfield 24, 3) := by decide +kernel
theorem d_Sh_settle_8 : decode c_Sh_settle 8 = .ok (.iconst 1, 1) := by decide +kernel
theorem d_Sh_settle_9 : decode c_Sh_settle 9 = .ok (.if_icmp .ge 6, 3) := by decide +kernel
theorem d_Sh_settle_12 : decode c_Sh_settle 12 = .ok (.bipush (-4), 2) := by decide +kernel
theorem d_Sh_settle_14 : decode c_Sh_settle 14 = .ok (.ireturn, 1) := by decide +kernel
theorem d_Sh_settle_15 : decode c_Sh_settle 15 = .ok (.iconst 1, 1) := by decide +kernel
theorem d_Sh_settle_16 : decode c_Sh_settle 16 = .ok (.aload_n 0, 1) := by decide +kernel
theorem d_Sh_settle_17 : decode c_Sh_settle 17 = .ok (.getfield 24, 3) := by decide +kernel
theorem d_Sh_settle_20 : decode c_Sh_settle 20 = .ok (.ishl, 1) := by decide +kernel
theorem d_Sh_settle_21 : decode c_Sh_settle 21 = .ok (.iconst 1, 1) := by decide +kernel
theorem d_Sh_settle_22 : decode c_Sh_settle 22 = .ok (.isub, 1) := by decide +kernel
theorem d_Sh_settle_23 : decode c_Sh_settle 23 = .ok (.istore_n 1, 1) := by decide +kernel
theorem d_Sh_settle_24 : decode c_Sh_settle 24 = .ok (.iconst 0, 1) := by decide +kernel
theorem d_Sh_settle_25 : decode c_Sh_settle 25 = .ok (.istore_n 2, 1) := by decide +kernel
theorem d_Sh_settle_26 : decode c_Sh_settle 26 = .ok (.iload_n 2, 1) := by decide +kernel
theorem d_Sh_settle_27 : decode c_Sh_settle 27 = .ok (.iload_n 1, 1) := by decide +kernel
theorem d_Sh_settle_28 : decode c_Sh_settle 28 = .ok (.if_icmp .gt 62, 3) := by decide +kernel
theorem d_Sh_settle_31 : decode c_Sh_settle 31 = .ok (.aload_n 0, 1) := by decide +kernel
theorem d_Sh_settle_32 : decode c_Sh_settle 32 = .ok (.getfield 21, 3) := by decide +kernel
theorem d_Sh_settle_35 : decode c_Sh_settle 35 = .ok (.iload_n 2, 1) := by decide +kernel
theorem d_Sh_settle_36 : decode c_Sh_settle 36 = .ok (.aload_n 0, 1) := by decide +kernel
theorem d_Sh_settle_37 : decode c_Sh_settle 37 = .ok (.getfield 28, 3) := by decide +kernel
theorem d_Sh_settle_40 : decode c_Sh_settle 40 = .ok (.getfield 42, 3) := by decide +kernel
theorem d_Sh_settle_43 : decode c_Sh_settle 43 = .ok (.invokestatic 47, 3) := by decide +kernel
theorem d_Sh_settle_46 : decode c_Sh_settle 46 = .ok (.iconst 0, 1) := by decide +kernel
theorem d_Sh_settle_47 : decode c_Sh_settle 47 = .ok (.iastore, 1) := by decide +kernel
theorem d_Sh_settle_48 : decode c_Sh_settle 48 = .ok (.aload_n 0, 1) := by decide +kernel
theorem d_Sh_settle_49 : decode c_Sh_settle 49 = .ok (.getfield 28, 3) := by decide +kernel
theorem d_Sh_settle_52 : decode c_Sh_settle 52 = .ok (.getfield 42, 3) := by decide +kernel
theorem d_Sh_settle_55 : decode c_Sh_settle 55 = .ok (.iconst 1, 1) := by decide +kernel
theorem d_Sh_settle_56 : decode c_Sh_settle 56 = .ok (.isub, 1) := by decide +kernel
theorem d_Sh_settle_57 : decode c_Sh_settle 57 = .ok (.istore_n 3, 1) := by decide +kernel
theorem d_Sh_settle_58 : decode c_Sh_settle 58 = .ok (.iload_n 3, 1) := by decide +kernel
theorem d_Sh_settle_59 : decode c_Sh_settle 59 = .ok (.ifCond .lt 25, 3) := by decide +kernel
theorem d_Sh_settle_62 : decode c_Sh_settle 62 = .ok (.aload_n 0, 1) := by decide +kernel
theorem d_Sh_settle_63 : decode c_Sh_settle 63 = .ok (.getfield 21, 3) := by decide +kernel
theorem d_Sh_settle_66 : decode c_Sh_settle 66 = .ok (.iload_n 2, 1) := by decide +kernel
theorem d_Sh_settle_67 : decode c_Sh_settle 67 = .ok (.iload_n 3, 1) := by decide +kernel
theorem d_Sh_settle_68 : decode c_Sh_settle 68 = .ok (.invokestatic 47, 3) := by decide +kernel
theorem d_Sh_settle_71 : decode c_Sh_settle 71 = .ok (.aload_n 0, 1) := by decide +kernel
theorem d_Sh_settle_72 : decode c_Sh_settle 72 = .ok (.iload_n 2, 1) := by decide +kernel
theorem d_Sh_settle_73 : decode c_Sh_settle 73 = .ok (.iload_n 3, 1) := by decide +kernel
theorem d_Sh_settle_74 : decode c_Sh_settle 74 = .ok (.invokevirtual 51, 3) := by decide +kernel
theorem d_Sh_settle_77 : decode c_Sh_settle 77 = .ok (.iastore, 1) := by decide +kernel
theorem d_Sh_settle_78 : decode c_Sh_settle 78 = .ok (.iinc 3 (-1), 3) := by decide +kernel
theorem d_Sh_settle_81 : decode c_Sh_settle 81 = .ok (.goto (-23), 3) := by decide +kernel
theorem d_Sh_settle_84 : decode c_Sh_settle 84 = .ok (.iinc 2 1, 3) := by decide +kernel
theorem d_Sh_settle_87 : decode c_Sh_settle 87 = .ok (.goto (-61), 3) := by decide +kernel
theorem d_Sh_settle_90 : decode c_Sh_settle 90 = .ok (.aload_n 0, 1) := by decide +kernel
theorem d_Sh_settle_91 : decode c_Sh_settle 91 = .ok (.getfield 21, 3) := by decide +kernel
theorem d_Sh_settle_94 : decode c_Sh_settle 94 = .ok (.iload_n 1, 1) := by decide +kernel
theorem d_Sh_settle_95 : decode c_Sh_settle 95 = .ok (.iconst 0, 1) := by decide +kernel
theorem d_Sh_settle_96 : decode c_Sh_settle 96 = .ok (.invokestatic 47, 3) := by decide +kernel
theorem d_Sh_settle_99 : decode c_Sh_settle 99 = .ok (.iaload, 1) := by decide +kernel
theorem d_Sh_settle_100 : decode c_Sh_settle 100 = .ok (.istore_n 2, 1) := by decide +kernel
theorem d_Sh_settle_101 : decode c_Sh_settle 101 = .ok (.iload_n 2, 1) := by decide +kernel
theorem d_Sh_settle_102 : decode c_Sh_settle 102 = .ok (.ldc 54, 2) := by decide +kernel
theorem d_Sh_settle_104 : decode c_Sh_settle 104 = .ok (.if_icmp .lt 6, 3) := by decide +kernel
theorem d_Sh_settle_107 : decode c_Sh_settle 107 = .ok (.bipush (-4), 2) := by decide +kernel
theorem d_Sh_settle_109 : decode c_Sh_settle 109 = .ok (.ireturn, 1) := by decide +kernel
theorem d_Sh_settle_110 : decode c_Sh_settle 110 = .ok (.aload_n 0, 1) := by decide +kernel
theorem d_Sh_settle_111 : decode c_Sh_settle 111 = .ok (.invokevirtual 36, 3) := by decide +kernel
theorem d_Sh_settle_114 : decode c_Sh_settle 114 = .ok (.aload_n 0, 1) := by decide +kernel
theorem d_Sh_settle_115 : decode c_Sh_settle 115 = .ok (.iload_n 1, 1) := by decide +kernel
theorem d_Sh_settle_116 : decode c_Sh_settle 116 = .ok (.iload_n 2, 1) := by decide +kernel
theorem d_Sh_settle_117 : decode c_Sh_settle 117 = .ok (.invokevirtual 55, 3) := by decide +kernel
theorem d_Sh_settle_120 : decode c_Sh_settle 120 = .ok (.iload_n 2, 1) := by decide +kernel
theorem d_Sh_settle_121 : decode c_Sh_settle 121 = .ok (.ireturn, 1) := by decide +kernel
theorem d_Sh_place_0 : decode c_Sh_place 0 = .ok (.iload_n 0, 1) := by decide +kernel
theorem d_Sh_place_1 : decode c_Sh_place 1 = .ok (.bipush 17, 2) := by decide +kernel
theorem d_Sh_place_3 : decode c_Sh_place 3 = .ok (.imul, 1) := by decide +kernel
theorem d_Sh_place_4 : decode c_Sh_place 4 = .ok (.iload_n 1, 1) := by decide +kernel
theorem d_Sh_place_5 : decode c_Sh_place 5 = .ok (.iadd, 1) := by decide +kernel
theorem d_Sh_place_6 : decode c_Sh_place 6 = .ok (.ireturn, 1) := by decide +kernel
theorem d_Sh_gatherSharers_0 : decode c_Sh_gatherSharers 0 = .ok (.aload_n 0, 1) := by decide +kernel
theorem d_Sh_gatherSharers_1 : decode c_Sh_gatherSharers 1 = .ok (.iconst 0, 1) := by decide +kernel
theorem d_Sh_gatherSharers_2 : decode c_Sh_gatherSharers 2 = .ok (.putfield 24, 3) := by decide +kernel
theorem d_Sh_gatherSharers_5 : decode c_Sh_gatherSharers 5 = .ok (.iconst 0, 1) := by decide +kernel
theorem d_Sh_gatherSharers_6 : decode c_Sh_gatherSharers 6 = .ok (.istore_n 1, 1) := by decide +kernel
theorem d_Sh_gatherSharers_7 : decode c_Sh_gatherSharers 7 = .ok (.iload_n 1, 1) := by decide +kernel
theorem d_Sh_gatherSharers_8 : decode c_Sh_gatherSharers 8 = .ok (.aload_n 0, 1) := by decide +kernel
theorem d_Sh_gatherSharers_9 : decode c_Sh_gatherSharers 9 = .ok (.getfield 32, 3) := by decide +kernel
theorem d_Sh_gatherSharers_12 : decode c_Sh_gatherSharers 12 = .ok (.getfield 59, 3) := by decide +kernel
theorem d_Sh_gatherSharers_15 : decode c_Sh_gatherSharers 15 = .ok (.if_icmp .ge 68, 3) := by decide +kernel
theorem d_Sh_gatherSharers_18 : decode c_Sh_gatherSharers 18 = .ok (.aload_n 0, 1) := by decide +kernel
theorem d_Sh_gatherSharers_19 : decode c_Sh_gatherSharers 19 = .ok (.getfield 24, 3) := by decide +kernel
theorem d_Sh_gatherSharers_22 : decode c_Sh_gatherSharers 22 = .ok (.iconst 5, 1) := by decide +kernel
theorem d_Sh_gatherSharers_23 : decode c_Sh_gatherSharers 23 = .ok (.if_icmp .ge 60, 3) := by decide +kernel
theorem d_Sh_gatherSharers_26 : decode c_Sh_gatherSharers 26 = .ok (.aload_n 0, 1) := by decide +kernel
theorem d_Sh_gatherSharers_27 : decode c_Sh_gatherSharers 27 = .ok (.getfield 32, 3) := by decide +kernel
theorem d_Sh_gatherSharers_30 : decode c_Sh_gatherSharers 30 = .ok (.iload_n 1, 1) := by decide +kernel
theorem d_Sh_gatherSharers_31 : decode c_Sh_gatherSharers 31 = .ok (.invokevirtual 64, 3) := by decide +kernel
theorem d_Sh_gatherSharers_34 : decode c_Sh_gatherSharers 34 = .ok (.astore_n 2, 1) := by decide +kernel
theorem d_Sh_gatherSharers_35 : decode c_Sh_gatherSharers 35 = .ok (.aload_n 2, 1) := by decide +kernel
theorem d_Sh_gatherSharers_36 : decode c_Sh_gatherSharers 36 = .ok (.getfield 68, 3) := by decide +kernel
theorem d_Sh_gatherSharers_39 : decode c_Sh_gatherSharers 39 = .ok (.ifCond .ne 38, 3) := by decide +kernel
theorem d_Sh_gatherSharers_42 : decode c_Sh_gatherSharers 42 = .ok (.aload_n 2, 1) := by decide +kernel
theorem d_Sh_gatherSharers_43 : decode c_Sh_gatherSharers 43 = .ok (.getfield 74, 3) := by decide +kernel
theorem d_Sh_gatherSharers_46 : decode c_Sh_gatherSharers 46 = .ok (.ifCond .ne 31, 3) := by decide +kernel
theorem d_Sh_gatherSharers_49 : decode c_Sh_gatherSharers 49 = .ok (.aload_n 2, 1) := by decide +kernel
theorem d_Sh_gatherSharers_50 : decode c_Sh_gatherSharers 50 = .ok (.getfield 77, 3) := by decide +kernel
theorem d_Sh_gatherSharers_53 : decode c_Sh_gatherSharers 53 = .ok (.iconst 3, 1) := by decide +kernel
theorem d_Sh_gatherSharers_54 : decode c_Sh_gatherSharers 54 = .ok (.if_icmp .eq 23, 3) := by decide +kernel
theorem d_Sh_gatherSharers_57 : decode c_Sh_gatherSharers 57 = .ok (.aload_n 0, 1) := by decide +kernel
theorem d_Sh_gatherSharers_58 : decode c_Sh_gatherSharers 58 = .ok (.getfield 18, 3) := by decide +kernel
theorem d_Sh_gatherSharers_61 : decode c_Sh_gatherSharers 61 = .ok (.aload_n 0, 1) := by decide +kernel
theorem d_Sh_gatherSharers_62 : decode c_Sh_gatherSharers 62 = .ok (.getfield 24, 3) := by decide +kernel
theorem d_Sh_gatherSharers_65 : decode c_Sh_gatherSharers 65 = .ok (.iload_n 1, 1) := by decide +kernel
theorem d_Sh_gatherSharers_66 : decode c_Sh_gatherSharers 66 = .ok (.iastore, 1) := by decide +kernel
theorem d_Sh_gatherSharers_67 : decode c_Sh_gatherSharers 67 = .ok (.aload_n 0, 1) := by decide +kernel
theorem d_Sh_gatherSharers_68 : decode c_Sh_gatherSharers 68 = .ok (.dup, 1) := by decide +kernel
theorem d_Sh_gatherSharers_69 : decode c_Sh_gatherSharers 69 = .ok (.getfield 24, 3) := by decide +kernel
theorem d_Sh_gatherSharers_72 : decode c_Sh_gatherSharers 72 = .ok (.iconst 1, 1) := by decide +kernel
theorem d_Sh_gatherSharers_73 : decode c_Sh_gatherSharers 73 = .ok (.iadd, 1) := by decide +kernel
theorem d_Sh_gatherSharers_74 : decode c_Sh_gatherSharers 74 = .ok (.putfield 24, 3) := by decide +kernel
theorem d_Sh_gatherSharers_77 : decode c_Sh_gatherSharers 77 = .ok (.iinc 1 1, 3) := by decide +kernel
theorem d_Sh_gatherSharers_80 : decode c_Sh_gatherSharers 80 = .ok (.goto (-73), 3) := by decide +kernel
theorem d_Sh_gatherSharers_83 : decode c_Sh_gatherSharers 83 = .ok (.return_, 1) := by decide +kernel
theorem d_Sh_leastOf_0 : decode c_Sh_leastOf 0 = .ok (.ldc 54, 2) := by decide +kernel
theorem d_Sh_leastOf_2 : decode c_Sh_leastOf 2 = .ok (.istore_n 3, 1) := by decide +kernel
theorem d_Sh_leastOf_3 : decode c_Sh_leastOf 3 = .ok (.iconst 0, 1) := by decide +kernel
theorem d_Sh_leastOf_4 : decode c_Sh_leastOf 4 = .ok (.istore 4, 2) := by decide +kernel
theorem d_Sh_leastOf_6 : decode c_Sh_leastOf 6 = .ok (.iload 4, 2) := by decide +kernel
theorem d_Sh_leastOf_8 : decode c_Sh_leastOf 8 = .ok (.aload_n 0, 1) := by decide +kernel
theorem d_Sh_leastOf_9 : decode c_Sh_leastOf 9 = .ok (.getfield 24, 3) := by decide +kernel
theorem d_Sh_leastOf_12 : decode c_Sh_leastOf 12 = .ok (.if_icmp .ge 38, 3) := by decide +kernel
theorem d_Sh_leastOf_15 : decode c_Sh_leastOf 15 = .ok (.iload_n 1, 1) := by decide +kernel
theorem d_Sh_leastOf_16 : decode c_Sh_leastOf 16 = .ok (.iload 4, 2) := by decide +kernel
theorem d_Sh_leastOf_18 : decode c_Sh_leastOf 18 = .ok (.ishr, 1) := by decide +kernel
theorem d_Sh_leastOf_19 : decode c_Sh_leastOf 19 = .ok (.iconst 1, 1) := by decide +kernel
theorem d_Sh_leastOf_20 : decode c_Sh_leastOf 20 = .ok (.iand, 1) := by decide +kernel
theorem d_Sh_leastOf_21 : decode c_Sh_leastOf 21 = .ok (.ifCond .eq 23, 3) := by decide +kernel
theorem d_Sh_leastOf_24 : decode c_Sh_leastOf 24 = .ok (.iload_n 3, 1) := by decide +kernel
theorem d_Sh_leastOf_25 : decode c_Sh_leastOf 25 = .ok (.aload_n 0, 1) := by decide +kernel
theorem d_Sh_leastOf_26 : decode c_Sh_leastOf 26 = .ok (.iload 4, 2) := by decide +kernel
theorem d_Sh_leastOf_28 : decode c_Sh_leastOf 28 = .ok (.iload_n 1, 1) := by decide +kernel
theorem d_Sh_leastOf_29 : decode c_Sh_leastOf 29 = .ok (.iconst 1, 1) := by decide +kernel
theorem d_Sh_leastOf_30 : decode c_Sh_leastOf 30 = .ok (.iload 4, 2) := by decide +kernel
theorem d_Sh_leastOf_32 : decode c_Sh_leastOf 32 = .ok (.ishl, 1) := by decide +kernel
theorem d_Sh_leastOf_33 : decode c_Sh_leastOf 33 = .ok (.iconst (-1), 1) := by decide +kernel
theorem d_Sh_leastOf_34 : decode c_Sh_leastOf 34 = .ok (.ixor, 1) := by decide +kernel
theorem d_Sh_leastOf_35 : decode c_Sh_leastOf 35 = .ok (.iand, 1) := by decide +kernel
theorem d_Sh_leastOf_36 : decode c_Sh_leastOf 36 = .ok (.iload_n 2, 1) := by decide +kernel
theorem d_Sh_leastOf_37 : decode c_Sh_leastOf 37 = .ok (.invokevirtual 80, 3) := by decide +kernel
theorem d_Sh_leastOf_40 : decode c_Sh_leastOf 40 = .ok (.invokestatic 84, 3) := by decide +kernel
theorem d_Sh_leastOf_43 : decode c_Sh_leastOf 43 = .ok (.istore_n 3, 1) := by decide +kernel
theorem d_Sh_leastOf_44 : decode c_Sh_leastOf 44 = .ok (.iinc 4 1, 3) := by decide +kernel
theorem d_Sh_leastOf_47 : decode c_Sh_leastOf 47 = .ok (.goto (-41), 3) := by decide +kernel
theorem d_Sh_leastOf_50 : decode c_Sh_leastOf 50 = .ok (.iload_n 3, 1) := by decide +kernel
theorem d_Sh_leastOf_51 : decode c_Sh_leastOf 51 = .ok (.ireturn, 1) := by decide +kernel
theorem d_Sh_leastWith_0 : decode c_Sh_leastWith 0 = .ok (.ldc 54, 2) := by decide +kernel
theorem d_Sh_leastWith_2 : decode c_Sh_leastWith 2 = .ok (.istore 4, 2) := by decide +kernel
theorem d_Sh_leastWith_4 : decode c_Sh_leastWith 4 = .ok (.iconst 0, 1) := by decide +kernel
theorem d_Sh_leastWith_5 : decode c_Sh_leastWith 5 = .ok (.istore 5, 2) := by decide +kernel
theorem d_Sh_leastWith_7 : decode c_Sh_leastWith 7 = .ok (.iload_n 3, 1) := by decide +kernel
theorem d_Sh_leastWith_8 : decode c_Sh_leastWith 8 = .ok (.istore 6, 2) := by decide +kernel
theorem d_Sh_leastWith_10 : decode c_Sh_leastWith 10 = .ok (.iload 6, 2) := by decide +kernel
theorem d_Sh_leastWith_12 : decode c_Sh_leastWith 12 = .ok (.aload_n 0, 1) := by decide +kernel
theorem d_Sh_leastWith_13 : decode c_Sh_leastWith 13 = .ok (.getfield 28, 3) := by decide +kernel
theorem d_Sh_leastWith_16 : decode c_Sh_leastWith 16 = .ok (.getfield 42, 3) := by decide +kernel
theorem d_Sh_leastWith_19 : decode c_Sh_leastWith 19 = .ok (.if_icmp .ge 90, 3) := by decide +kernel
theorem d_Sh_leastWith_22 : decode c_Sh_leastWith 22 = .ok (.iload 6, 2) := by decide +kernel
theorem d_Sh_leastWith_24 : decode c_Sh_leastWith 24 = .ok (.iload_n 3, 1) := by decide +kernel
theorem d_Sh_leastWith_25 : decode c_Sh_leastWith 25 = .ok (.if_icmp .le 19, 3) := by decide +kernel
theorem d_Sh_leastWith_28 : decode c_Sh_leastWith 28 = .ok (.aload_n 0, 1) := by decide +kernel
theorem d_Sh_leastWith_29 : decode c_Sh_leastWith 29 = .ok (.getfield 28, 3) := by decide +kernel
theorem d_Sh_leastWith_32 : decode c_Sh_leastWith 32 = .ok (.iload 6, 2) := by decide +kernel
theorem d_Sh_leastWith_34 : decode c_Sh_leastWith 34 = .ok (.iconst 1, 1) := by decide +kernel
theorem d_Sh_leastWith_35 : decode c_Sh_leastWith 35 = .ok (.isub, 1) := by decide +kernel
theorem d_Sh_leastWith_36 : decode c_Sh_leastWith 36 = .ok (.iload 6, 2) := by decide +kernel
theorem d_Sh_leastWith_38 : decode c_Sh_leastWith 38 = .ok (.invokevirtual 89, 3) := by decide +kernel
theorem d_Sh_leastWith_41 : decode c_Sh_leastWith 41 = .ok (.goto 4, 3) := by decide +kernel
theorem d_Sh_leastWith_44 : decode c_Sh_leastWith 44 = .ok (.iconst 0, 1) := by decide +kernel
theorem d_Sh_leastWith_45 : decode c_Sh_leastWith 45 = .ok (.istore 7, 2) := by decide +kernel
theorem d_Sh_leastWith_47 : decode c_Sh_leastWith 47 = .ok (.iload 5, 2) := by decide +kernel
theorem d_Sh_leastWith_49 : decode c_Sh_leastWith 49 = .ok (.iload 7, 2) := by decide +kernel
theorem d_Sh_leastWith_51 : decode c_Sh_leastWith 51 = .ok (.iadd, 1) := by decide +kernel
theorem d_Sh_leastWith_52 : decode c_Sh_leastWith 52 = .ok (.istore 5, 2) := by decide +kernel
theorem d_Sh_leastWith_54 : decode c_Sh_leastWith 54 = .ok (.aload_n 0, 1) := by decide +kernel
theorem d_Sh_leastWith_55 : decode c_Sh_leastWith 55 = .ok (.iload_n 1, 1) := by decide +kernel
theorem d_Sh_leastWith_56 : decode c_Sh_leastWith 56 = .ok (.iload 5, 2) := by decide +kernel
theorem d_Sh_leastWith_58 : decode c_Sh_leastWith 58 = .ok (.invokevirtual 92, 3) := by decide +kernel
theorem d_Sh_leastWith_61 : decode c_Sh_leastWith 61 = .ok (.istore 8, 2) := by decide +kernel
theorem d_Sh_leastWith_63 : decode c_Sh_leastWith 63 = .ok (.iload 7, 2) := by decide +kernel
theorem d_Sh_leastWith_65 : decode c_Sh_leastWith 65 = .ok (.ifCond .lt 44, 3) := by decide +kernel
theorem d_Sh_leastWith_68 : decode c_Sh_leastWith 68 = .ok (.iload 8, 2) := by decide +kernel
theorem d_Sh_leastWith_70 : decode c_Sh_leastWith 70 = .ok (.iload 4, 2) := by decide +kernel
theorem d_Sh_leastWith_72 : decode c_Sh_leastWith 72 = .ok (.if_icmp .lt 6, 3) := by decide +kernel
theorem d_Sh_leastWith_75 : decode c_Sh_leastWith 75 = .ok (.goto 34, 3) := by decide +kernel
theorem d_Sh_leastWith_78 : decode c_Sh_leastWith 78 = .ok (.iload 4, 2) := by decide +kernel
theorem d_Sh_leastWith_80 : decode c_Sh_leastWith 80 = .ok (.iload 8, 2) := by decide +kernel
theorem d_Sh_leastWith_82 : decode c_Sh_leastWith 82 = .ok (.aload_n 0, 1) := by decide +kernel
theorem d_Sh_leastWith_83 : decode c_Sh_leastWith 83 = .ok (.getfield 21, 3) := by decide +kernel
theorem d_Sh_leastWith_86 : decode c_Sh_leastWith 86 = .ok (.iload_n 2, 1) := by decide +kernel
theorem d_Sh_leastWith_87 : decode c_Sh_leastWith 87 = .ok (.iload 6, 2) := by decide +kernel
theorem d_Sh_leastWith_89 : decode c_Sh_leastWith 89 = .ok (.iconst 1, 1) := by decide +kernel
theorem d_Sh_leastWith_90 : decode c_Sh_leastWith 90 = .ok (.iadd, 1) := by decide +kernel
theorem d_Sh_leastWith_91 : decode c_Sh_leastWith 91 = .ok (.invokestatic 47, 3) := by decide +kernel
theorem d_Sh_leastWith_94 : decode c_Sh_leastWith 94 = .ok (.iaload, 1) := by decide +kernel
theorem d_Sh_leastWith_95 : decode c_Sh_leastWith 95 = .ok (.invokestatic 95, 3) := by decide +kernel
theorem d_Sh_leastWith_98 : decode c_Sh_leastWith 98 = .ok (.invokestatic 84, 3) := by decide +kernel
theorem d_Sh_leastWith_101 : decode c_Sh_leastWith 101 = .ok (.istore 4, 2) := by decide +kernel
theorem d_Sh_leastWith_103 : decode c_Sh_leastWith 103 = .ok (.iinc 6 1, 3) := by decide +kernel
theorem d_Sh_leastWith_106 : decode c_Sh_leastWith 106 = .ok (.goto (-96), 3) := by decide +kernel
theorem d_Sh_leastWith_109 : decode c_Sh_leastWith 109 = .ok (.iload 4, 2) := by decide +kernel
theorem d_Sh_leastWith_111 : decode c_Sh_leastWith 111 = .ok (.ireturn, 1) := by decide +kernel
theorem d_Sh_timeOf_0 : decode c_Sh_timeOf 0 = .ok (.iconst 2, 1) := by decide +kernel
theorem d_Sh_timeOf_1 : decode c_Sh_timeOf 1 = .ok (.aload_n 0, 1) := by decide +kernel
theorem d_Sh_timeOf_2 : decode c_Sh_timeOf 2 = .ok (.getfield 32, 3) := by decide +kernel
theorem d_Sh_timeOf_5 : decode c_Sh_timeOf 5 = .ok (.aload_n 0, 1) := by decide +kernel
theorem d_Sh_timeOf_6 : decode c_Sh_timeOf 6 = .ok (.getfield 18, 3) := by decide +kernel
theorem d_Sh_timeOf_9 : decode c_Sh_timeOf 9 = .ok (.iload_n 1, 1) := by decide +kernel
theorem d_Sh_timeOf_10 : decode c_Sh_timeOf 10 = .ok (.iaload, 1) := by decide +kernel
theorem d_Sh_timeOf_11 : decode c_Sh_timeOf 11 = .ok (.invokevirtual 64, 3) := by decide +kernel
theorem d_Sh_timeOf_14 : decode c_Sh_timeOf 14 = .ok (.invokevirtual 98, 3) := by decide +kernel
theorem d_Sh_timeOf_17 : decode c_Sh_timeOf 17 = .ok (.imul, 1) := by decide +kernel
theorem d_Sh_timeOf_18 : decode c_Sh_timeOf 18 = .ok (.iload_n 2, 1) := by decide +kernel
theorem d_Sh_timeOf_19 : decode c_Sh_timeOf 19 = .ok (.imul, 1) := by decide +kernel
theorem d_Sh_timeOf_20 : decode c_Sh_timeOf 20 = .ok (.ireturn, 1) := by decide +kernel
theorem d_Sh_dealOut_0 : decode c_Sh_dealOut 0 = .ok (.iload_n 1, 1) := by decide +kernel
theorem d_Sh_dealOut_1 : decode c_Sh_dealOut 1 = .ok (.istore_n 3, 1) := by decide +kernel
theorem d_Sh_dealOut_2 : decode c_Sh_dealOut 2 = .ok (.bipush (-9), 2) := by decide +kernel
theorem d_Sh_dealOut_4 : decode c_Sh_dealOut 4 = .ok (.istore 4, 2) := by decide +kernel
theorem d_Sh_dealOut_6 : decode c_Sh_dealOut 6 = .ok (.iconst 0, 1) := by decide +kernel
theorem d_Sh_dealOut_7 : decode c_Sh_dealOut 7 = .ok (.istore 5, 2) := by decide +kernel
theorem d_Sh_dealOut_9 : decode c_Sh_dealOut 9 = .ok (.iconst 0, 1) := by decide +kernel
theorem d_Sh_dealOut_10 : decode c_Sh_dealOut 10 = .ok (.istore 6, 2) := by decide +kernel
theorem d_Sh_dealOut_12 : decode c_Sh_dealOut 12 = .ok (.iload 6, 2) := by decide +kernel
theorem d_Sh_dealOut_14 : decode c_Sh_dealOut 14 = .ok (.aload_n 0, 1) := by decide +kernel
theorem d_Sh_dealOut_15 : decode c_Sh_dealOut 15 = .ok (.getfield 28, 3) := by decide +kernel
theorem d_Sh_dealOut_18 : decode c_Sh_dealOut 18 = .ok (.getfield 42, 3) := by decide +kernel
theorem d_Sh_dealOut_21 : decode c_Sh_dealOut 21 = .ok (.if_icmp .ge 110, 3) := by decide +kernel
theorem d_Sh_dealOut_24 : decode c_Sh_dealOut 24 = .ok (.iload 6, 2) := by decide +kernel
theorem d_Sh_dealOut_26 : decode c_Sh_dealOut 26 = .ok (.ifCond .le 19, 3) := by decide +kernel
theorem d_Sh_dealOut_29 : decode c_Sh_dealOut 29 = .ok (.aload_n 0, 1) := by decide +kernel
theorem d_Sh_dealOut_30 : decode c_Sh_dealOut 30 = .ok (.getfield 28, 3) := by decide +kernel
theorem d_Sh_dealOut_33 : decode c_Sh_dealOut 33 = .ok (.iload 6, 2) := by decide +kernel
theorem d_Sh_dealOut_35 : decode c_Sh_dealOut 35 = .ok (.iconst 1, 1) := by decide +kernel
theorem d_Sh_dealOut_36 : decode c_Sh_dealOut 36 = .ok (.isub, 1) := by decide +kernel
theorem d_Sh_dealOut_37 : decode c_Sh_dealOut 37 = .ok (.iload 6, 2) := by decide +kernel
theorem d_Sh_dealOut_39 : decode c_Sh_dealOut 39 = .ok (.invokevirtual 89, 3) := by decide +kernel
theorem d_Sh_dealOut_42 : decode c_Sh_dealOut 42 = .ok (.goto 4, 3) := by decide +kernel
theorem d_Sh_dealOut_45 : decode c_Sh_dealOut 45 = .ok (.iconst 0, 1) := by decide +kernel
theorem d_Sh_dealOut_46 : decode c_Sh_dealOut 46 = .ok (.istore 7, 2) := by decide +kernel
theorem d_Sh_dealOut_48 : decode c_Sh_dealOut 48 = .ok (.iload 7, 2) := by decide +kernel
theorem d_Sh_dealOut_50 : decode c_Sh_dealOut 50 = .ok (.ifCond .ge 7, 3) := by decide +kernel
theorem d_Sh_dealOut_53 : decode c_Sh_dealOut 53 = .ok (.iconst (-1), 1) := by decide +kernel
theorem d_Sh_dealOut_54 : decode c_Sh_dealOut 54 = .ok (.goto 8, 3) := by decide +kernel
theorem d_Sh_dealOut_57 : decode c_Sh_dealOut 57 = .ok (.iload 5, 2) := by decide +kernel
theorem d_Sh_dealOut_59 : decode c_Sh_dealOut 59 = .ok (.iload 7, 2) := by decide +kernel
theorem d_Sh_dealOut_61 : decode c_Sh_dealOut 61 = .ok (.iadd, 1) := by decide +kernel
theorem d_Sh_dealOut_62 : decode c_Sh_dealOut 62 = .ok (.istore 8, 2) := by decide +kernel
theorem d_Sh_dealOut_64 : decode c_Sh_dealOut 64 = .ok (.aload_n 0, 1) := by decide +kernel
theorem d_Sh_dealOut_65 : decode c_Sh_dealOut 65 = .ok (.iload 4, 2) := by decide +kernel
theorem d_Sh_dealOut_67 : decode c_Sh_dealOut 67 = .ok (.iload 8, 2) := by decide +kernel
theorem d_Sh_dealOut_69 : decode c_Sh_dealOut 69 = .ok (.iload_n 3, 1) := by decide +kernel
theorem d_Sh_dealOut_70 : decode c_Sh_dealOut 70 = .ok (.iload 6, 2) := by decide +kernel
theorem d_Sh_dealOut_72 : decode c_Sh_dealOut 72 = .ok (.iload_n 2, 1) := by decide +kernel
theorem d_Sh_dealOut_73 : decode c_Sh_dealOut 73 = .ok (.invokevirtual 102, 3) := by decide +kernel
theorem d_Sh_dealOut_76 : decode c_Sh_dealOut 76 = .ok (.istore 9, 2) := by decide +kernel
theorem d_Sh_dealOut_78 : decode c_Sh_dealOut 78 = .ok (.iload 9, 2) := by decide +kernel
theorem d_Sh_dealOut_80 : decode c_Sh_dealOut 80 = .ok (.ifCond .ge 4, 3) := by decide +kernel
theorem d_Sh_dealOut_83 : decode c_Sh_dealOut 83 = .ok (.return_, 1) := by decide +kernel
theorem d_Sh_dealOut_84 : decode c_Sh_dealOut 84 = .ok (.iload 9, 2) := by decide +kernel
theorem d_Sh_dealOut_86 : decode c_Sh_dealOut 86 = .ok (.iload 4, 2) := by decide +kernel
theorem d_Sh_dealOut_88 : decode c_Sh_dealOut 88 = .ok (.if_icmp .ne 8, 3) := by decide +kernel
theorem d_Sh_dealOut_91 : decode c_Sh_dealOut 91 = .ok (.iload 8, 2) := by decide +kernel
theorem d_Sh_dealOut_93 : decode c_Sh_dealOut 93 = .ok (.goto 4, 3) := by decide +kernel
theorem d_Sh_dealOut_96 : decode c_Sh_dealOut 96 = .ok (.iconst 0, 1) := by decide +kernel
theorem d_Sh_dealOut_97 : decode c_Sh_dealOut 97 = .ok (.istore 5, 2) := by decide +kernel
theorem d_Sh_dealOut_99 : decode c_Sh_dealOut 99 = .ok (.iload 9, 2) := by decide +kernel
theorem d_Sh_dealOut_101 : decode c_Sh_dealOut 101 = .ok (.istore 4, 2) := by decide +kernel
theorem d_Sh_dealOut_103 : decode c_Sh_dealOut 103 = .ok (.iload_n 3, 1) := by decide +kernel
theorem d_Sh_dealOut_104 : decode c_Sh_dealOut 104 = .ok (.iconst 1, 1) := by decide +kernel
theorem d_Sh_dealOut_105 : decode c_Sh_dealOut 105 = .ok (.iload 9, 2) := by decide +kernel
theorem d_Sh_dealOut_107 : decode c_Sh_dealOut 107 = .ok (.ishl, 1) := by decide +kernel
theorem d_Sh_dealOut_108 : decode c_Sh_dealOut 108 = .ok (.iconst (-1), 1) := by decide +kernel
theorem d_Sh_dealOut_109 : decode c_Sh_dealOut 109 = .ok (.ixor, 1) := by decide +kernel
theorem d_Sh_dealOut_110 : decode c_Sh_dealOut 110 = .ok (.iand, 1) := by decide +kernel
theorem d_Sh_dealOut_111 : decode c_Sh_dealOut 111 = .ok (.istore_n 3, 1) := by decide +kernel
theorem d_Sh_dealOut_112 : decode c_Sh_dealOut 112 = .ok (.aload_n 0, 1) := by decide +kernel
theorem d_Sh_dealOut_113 : decode c_Sh_dealOut 113 = .ok (.aload_n 0, 1) := by decide +kernel
theorem d_Sh_dealOut_114 : decode c_Sh_dealOut 114 = .ok (.getfield 18, 3) := by decide +kernel
theorem d_Sh_dealOut_117 : decode c_Sh_dealOut 117 = .ok (.iload 9, 2) := by decide +kernel
theorem d_Sh_dealOut_119 : decode c_Sh_dealOut 119 = .ok (.iaload, 1) := by decide +kernel
theorem d_Sh_dealOut_120 : decode c_Sh_dealOut 120 = .ok (.iload 6, 2) := by decide +kernel
theorem d_Sh_dealOut_122 : decode c_Sh_dealOut 122 = .ok (.invokevirtual 106, 3) := by decide +kernel
theorem d_Sh_dealOut_125 : decode c_Sh_dealOut 125 = .ok (.iinc 6 1, 3) := by decide +kernel
theorem d_Sh_dealOut_128 : decode c_Sh_dealOut 128 = .ok (.goto (-116), 3) := by decide +kernel
theorem d_Sh_dealOut_131 : decode c_Sh_dealOut 131 = .ok (.return_, 1) := by decide +kernel
theorem d_Sh_give_0 : decode c_Sh_give 0 = .ok (.aload_n 0, 1) := by decide +kernel
theorem d_Sh_give_1 : decode c_Sh_give 1 = .ok (.getfield 9, 3) := by decide +kernel
theorem d_Sh_give_4 : decode c_Sh_give 4 = .ok (.iload_n 1, 1) := by decide +kernel
theorem d_Sh_give_5 : decode c_Sh_give 5 = .ok (.iaload, 1) := by decide +kernel
theorem d_Sh_give_6 : decode c_Sh_give 6 = .ok (.bipush (-9), 2) := by decide +kernel
theorem d_Sh_give_8 : decode c_Sh_give 8 = .ok (.if_icmp .ne 10, 3) := by decide +kernel
theorem d_Sh_give_11 : decode c_Sh_give 11 = .ok (.aload_n 0, 1) := by decide +kernel
theorem d_Sh_give_12 : decode c_Sh_give 12 = .ok (.getfield 9, 3) := by decide +kernel
theorem d_Sh_give_15 : decode c_Sh_give 15 = .ok (.iload_n 1, 1) := by decide +kernel
theorem d_Sh_give_16 : decode c_Sh_give 16 = .ok (.iload_n 2, 1) := by decide +kernel
theorem d_Sh_give_17 : decode c_Sh_give 17 = .ok (.iastore, 1) := by decide +kernel
theorem d_Sh_give_18 : decode c_Sh_give 18 = .ok (.aload_n 0, 1) := by decide +kernel
theorem d_Sh_give_19 : decode c_Sh_give 19 = .ok (.getfield 15, 3) := by decide +kernel
theorem d_Sh_give_22 : decode c_Sh_give 22 = .ok (.iload_n 1, 1) := by decide +kernel
theorem d_Sh_give_23 : decode c_Sh_give 23 = .ok (.iload_n 2, 1) := by decide +kernel
theorem d_Sh_give_24 : decode c_Sh_give 24 = .ok (.iastore, 1) := by decide +kernel
theorem d_Sh_give_25 : decode c_Sh_give 25 = .ok (.return_, 1) := by decide +kernel
theorem d_Sh_leastOwner_0 : decode c_Sh_leastOwner 0 = .ok (.iconst 0, 1) := by decide +kernel
theorem d_Sh_leastOwner_1 : decode c_Sh_leastOwner 1 = .ok (.istore 6, 2) := by decide +kernel
theorem d_Sh_leastOwner_3 : decode c_Sh_leastOwner 3 = .ok (.iload 6, 2) := by decide +kernel
theorem d_Sh_leastOwner_5 : decode c_Sh_leastOwner 5 = .ok (.aload_n 0, 1) := by decide +kernel
theorem d_Sh_leastOwner_6 : decode c_Sh_leastOwner 6 = .ok (.getfield 24, 3) := by decide +kernel
theorem d_Sh_leastOwner_9 : decode c_Sh_leastOwner 9 = .ok (.if_icmp .ge 86, 3) := by decide +kernel
theorem d_Sh_leastOwner_12 : decode c_Sh_leastOwner 12 = .ok (.iload 6, 2) := by decide +kernel
theorem d_Sh_leastOwner_14 : decode c_Sh_leastOwner 14 = .ok (.iload_n 1, 1) := by decide +kernel
theorem d_Sh_leastOwner_15 : decode c_Sh_leastOwner 15 = .ok (.if_icmp .ne 11, 3) := by decide +kernel
theorem d_Sh_leastOwner_18 : decode c_Sh_leastOwner 18 = .ok (.iload_n 2, 1) := by decide +kernel
theorem d_Sh_leastOwner_19 : decode c_Sh_leastOwner 19 = .ok (.ifCond .lt 7, 3) := by decide +kernel
theorem d_Sh_leastOwner_22 : decode c_Sh_leastOwner 22 = .ok (.iconst 1, 1) := by decide +kernel
theorem d_Sh_leastOwner_23 : decode c_Sh_leastOwner 23 = .ok (.goto 4, 3) := by decide +kernel
theorem d_Sh_leastOwner_26 : decode c_Sh_leastOwner 26 = .ok (.iconst 0, 1) := by decide +kernel
theorem d_Sh_leastOwner_27 : decode c_Sh_leastOwner 27 = .ok (.istore 7, 2) := by decide +kernel
theorem d_Sh_leastOwner_29 : decode c_Sh_leastOwner 29 = .ok (.iload_n 3, 1) := by decide +kernel
theorem d_Sh_leastOwner_30 : decode c_Sh_leastOwner 30 = .ok (.iload 6, 2) := by decide +kernel
theorem d_Sh_leastOwner_32 : decode c_Sh_leastOwner 32 = .ok (.ishr, 1) := by decide +kernel
theorem d_Sh_leastOwner_33 : decode c_Sh_leastOwner 33 = .ok (.iconst 1, 1) := by decide +kernel
theorem d_Sh_leastOwner_34 : decode c_Sh_leastOwner 34 = .ok (.iand, 1) := by decide +kernel
theorem d_Sh_leastOwner_35 : decode c_Sh_leastOwner 35 = .ok (.ifCond .eq 7, 3) := by decide +kernel
theorem d_Sh_leastOwner_38 : decode c_Sh_leastOwner 38 = .ok (.iconst 1, 1) := by decide +kernel
theorem d_Sh_leastOwner_39 : decode c_Sh_leastOwner 39 = .ok (.goto 4, 3) := by decide +kernel
theorem d_Sh_leastOwner_42 : decode c_Sh_leastOwner 42 = .ok (.iconst 0, 1) := by decide +kernel
theorem d_Sh_leastOwner_43 : decode c_Sh_leastOwner 43 = .ok (.istore 8, 2) := by decide +kernel
theorem d_Sh_leastOwner_45 : decode c_Sh_leastOwner 45 = .ok (.iload 7, 2) := by decide +kernel
theorem d_Sh_leastOwner_47 : decode c_Sh_leastOwner 47 = .ok (.ifCond .ne 8, 3) := by decide +kernel
theorem d_Sh_leastOwner_50 : decode c_Sh_leastOwner 50 = .ok (.iload 8, 2) := by decide +kernel
theorem d_Sh_leastOwner_52 : decode c_Sh_leastOwner 52 = .ok (.ifCond .eq 37, 3) := by decide +kernel
theorem d_Sh_leastOwner_55 : decode c_Sh_leastOwner 55 = .ok (.aload_n 0, 1) := by decide +kernel
theorem d_Sh_leastOwner_56 : decode c_Sh_leastOwner 56 = .ok (.iload 6, 2) := by decide +kernel
theorem d_Sh_leastOwner_58 : decode c_Sh_leastOwner 58 = .ok (.iload 7, 2) := by decide +kernel
theorem d_Sh_leastOwner_60 : decode c_Sh_leastOwner 60 = .ok (.ifCond .eq 7, 3) := by decide +kernel
theorem d_Sh_leastOwner_63 : decode c_Sh_leastOwner 63 = .ok (.iload_n 2, 1) := by decide +kernel
theorem d_Sh_leastOwner_64 : decode c_Sh_leastOwner 64 = .ok (.goto 4, 3) := by decide +kernel
theorem d_Sh_leastOwner_67 : decode c_Sh_leastOwner 67 = .ok (.iconst 0, 1) := by decide +kernel
theorem d_Sh_leastOwner_68 : decode c_Sh_leastOwner 68 = .ok (.iload_n 3, 1) := by decide +kernel
theorem d_Sh_leastOwner_69 : decode c_Sh_leastOwner 69 = .ok (.iconst 1, 1) := by decide +kernel
theorem d_Sh_leastOwner_70 : decode c_Sh_leastOwner 70 = .ok (.iload 6, 2) := by decide +kernel
theorem d_Sh_leastOwner_72 : decode c_Sh_leastOwner 72 = .ok (.ishl, 1) := by decide +kernel
theorem d_Sh_leastOwner_73 : decode c_Sh_leastOwner 73 = .ok (.iconst (-1), 1) := by decide +kernel
theorem d_Sh_leastOwner_74 : decode c_Sh_leastOwner 74 = .ok (.ixor, 1) := by decide +kernel
theorem d_Sh_leastOwner_75 : decode c_Sh_leastOwner 75 = .ok (.iand, 1) := by decide +kernel
theorem d_Sh_leastOwner_76 : decode c_Sh_leastOwner 76 = .ok (.iload 4, 2) := by decide +kernel
theorem d_Sh_leastOwner_78 : decode c_Sh_leastOwner 78 = .ok (.iload 5, 2) := by decide +kernel
theorem d_Sh_leastOwner_80 : decode c_Sh_leastOwner 80 = .ok (.invokevirtual 109, 3) := by decide +kernel
theorem d_Sh_leastOwner_83 : decode c_Sh_leastOwner 83 = .ok (.ifCond .eq 6, 3) := by decide +kernel
theorem d_Sh_leastOwner_86 : decode c_Sh_leastOwner 86 = .ok (.iload 6, 2) := by decide +kernel
theorem d_Sh_leastOwner_88 : decode c_Sh_leastOwner 88 = .ok (.ireturn, 1) := by decide +kernel
theorem d_Sh_leastOwner_89 : decode c_Sh_leastOwner 89 = .ok (.iinc 6 1, 3) := by decide +kernel
theorem d_Sh_leastOwner_92 : decode c_Sh_leastOwner 92 = .ok (.goto (-89), 3) := by decide +kernel
theorem d_Sh_leastOwner_95 : decode c_Sh_leastOwner 95 = .ok (.bipush (-9), 2) := by decide +kernel
theorem d_Sh_leastOwner_97 : decode c_Sh_leastOwner 97 = .ok (.ireturn, 1) := by decide +kernel
theorem d_Sh_canEnd_0 : decode c_Sh_canEnd 0 = .ok (.iload_n 2, 1) := by decide +kernel
theorem d_Sh_canEnd_1 : decode c_Sh_canEnd 1 = .ok (.istore 6, 2) := by decide +kernel
theorem d_Sh_canEnd_3 : decode c_Sh_canEnd 3 = .ok (.iload 4, 2) := by decide +kernel
theorem d_Sh_canEnd_5 : decode c_Sh_canEnd 5 = .ok (.istore 7, 2) := by decide +kernel
theorem d_Sh_canEnd_7 : decode c_Sh_canEnd 7 = .ok (.iload 7, 2) := by decide +kernel
theorem d_Sh_canEnd_9 : decode c_Sh_canEnd 9 = .ok (.aload_n 0, 1) := by decide +kernel
theorem d_Sh_canEnd_10 : decode c_Sh_canEnd 10 = .ok (.getfield 28, 3) := by decide +kernel
theorem d_Sh_canEnd_13 : decode c_Sh_canEnd 13 = .ok (.getfield 42, 3) := by decide +kernel
theorem d_Sh_canEnd_16 : decode c_Sh_canEnd 16 = .ok (.if_icmp .ge 81, 3) := by decide +kernel
theorem d_Sh_canEnd_19 : decode c_Sh_canEnd 19 = .ok (.iload 7, 2) := by decide +kernel
theorem d_Sh_canEnd_21 : decode c_Sh_canEnd 21 = .ok (.iload 4, 2) := by decide +kernel
theorem d_Sh_canEnd_23 : decode c_Sh_canEnd 23 = .ok (.if_icmp .le 19, 3) := by decide +kernel
theorem d_Sh_canEnd_26 : decode c_Sh_canEnd 26 = .ok (.aload_n 0, 1) := by decide +kernel
theorem d_Sh_canEnd_27 : decode c_Sh_canEnd 27 = .ok (.getfield 28, 3) := by decide +kernel
theorem d_Sh_canEnd_30 : decode c_Sh_canEnd 30 = .ok (.iload 7, 2) := by decide +kernel
theorem d_Sh_canEnd_32 : decode c_Sh_canEnd 32 = .ok (.iconst 1, 1) := by decide +kernel
theorem d_Sh_canEnd_33 : decode c_Sh_canEnd 33 = .ok (.isub, 1) := by decide +kernel
theorem d_Sh_canEnd_34 : decode c_Sh_canEnd 34 = .ok (.iload 7, 2) := by decide +kernel
theorem d_Sh_canEnd_36 : decode c_Sh_canEnd 36 = .ok (.invokevirtual 89, 3) := by decide +kernel
theorem d_Sh_canEnd_39 : decode c_Sh_canEnd 39 = .ok (.goto 4, 3) := by decide +kernel
theorem d_Sh_canEnd_42 : decode c_Sh_canEnd 42 = .ok (.iconst 0, 1) := by decide +kernel
theorem d_Sh_canEnd_43 : decode c_Sh_canEnd 43 = .ok (.istore 8, 2) := by decide +kernel
theorem d_Sh_canEnd_45 : decode c_Sh_canEnd 45 = .ok (.iload 6, 2) := by decide +kernel
theorem d_Sh_canEnd_47 : decode c_Sh_canEnd 47 = .ok (.iload 8, 2) := by decide +kernel
theorem d_Sh_canEnd_49 : decode c_Sh_canEnd 49 = .ok (.iadd, 1) := by decide +kernel
theorem d_Sh_canEnd_50 : decode c_Sh_canEnd 50 = .ok (.istore 6, 2) := by decide +kernel
theorem d_Sh_canEnd_52 : decode c_Sh_canEnd 52 = .ok (.iload 8, 2) := by decide +kernel
theorem d_Sh_canEnd_54 : decode c_Sh_canEnd 54 = .ok (.ifCond .lt 15, 3) := by decide +kernel
theorem d_Sh_canEnd_57 : decode c_Sh_canEnd 57 = .ok (.aload_n 0, 1) := by decide +kernel
theorem d_Sh_canEnd_58 : decode c_Sh_canEnd 58 = .ok (.iload_n 1, 1) := by decide +kernel
theorem d_Sh_canEnd_59 : decode c_Sh_canEnd 59 = .ok (.iload 6, 2) := by decide +kernel
theorem d_Sh_canEnd_61 : decode c_Sh_canEnd 61 = .ok (.invokevirtual 92, 3) := by decide +kernel
theorem d_Sh_canEnd_64 : decode c_Sh_canEnd 64 = .ok (.iload 5, 2) := by decide +kernel
theorem d_Sh_canEnd_66 : decode c_Sh_canEnd 66 = .ok (.if_icmp .le 5, 3) := by decide +kernel
theorem d_Sh_canEnd_69 : decode c_Sh_canEnd 69 = .ok (.iconst 0, 1) := by decide +kernel
theorem d_Sh_canEnd_70 : decode c_Sh_canEnd 70 = .ok (.ireturn, 1) := by decide +kernel
theorem d_Sh_canEnd_71 : decode c_Sh_canEnd 71 = .ok (.aload_n 0, 1) := by decide +kernel
theorem d_Sh_canEnd_72 : decode c_Sh_canEnd 72 = .ok (.getfield 21, 3) := by decide +kernel
theorem d_Sh_canEnd_75 : decode c_Sh_canEnd 75 = .ok (.iload_n 3, 1) := by decide +kernel
theorem d_Sh_canEnd_76 : decode c_Sh_canEnd 76 = .ok (.iload 7, 2) := by decide +kernel
theorem d_Sh_canEnd_78 : decode c_Sh_canEnd 78 = .ok (.iconst 1, 1) := by decide +kernel
theorem d_Sh_canEnd_79 : decode c_Sh_canEnd 79 = .ok (.iadd, 1) := by decide +kernel
theorem d_Sh_canEnd_80 : decode c_Sh_canEnd 80 = .ok (.invokestatic 47, 3) := by decide +kernel
theorem d_Sh_canEnd_83 : decode c_Sh_canEnd 83 = .ok (.iaload, 1) := by decide +kernel
theorem d_Sh_canEnd_84 : decode c_Sh_canEnd 84 = .ok (.iload 5, 2) := by decide +kernel
theorem d_Sh_canEnd_86 : decode c_Sh_canEnd 86 = .ok (.if_icmp .gt 5, 3) := by decide +kernel
theorem d_Sh_canEnd_89 : decode c_Sh_canEnd 89 = .ok (.iconst 1, 1) := by decide +kernel
theorem d_Sh_canEnd_90 : decode c_Sh_canEnd 90 = .ok (.ireturn, 1) := by decide +kernel
theorem d_Sh_canEnd_91 : decode c_Sh_canEnd 91 = .ok (.iinc 7 1, 3) := by decide +kernel
theorem d_Sh_canEnd_94 : decode c_Sh_canEnd 94 = .ok (.goto (-87), 3) := by decide +kernel
theorem d_Sh_canEnd_97 : decode c_Sh_canEnd 97 = .ok (.iconst 0, 1) := by decide +kernel
theorem d_Sh_canEnd_98 : decode c_Sh_canEnd 98 = .ok (.ireturn, 1) := by decide +kernel
